/-! Hours, people: the class beside the model. -/
theorem b1023 : ∀ i, i < 32 → (1023 : Nat).testBit i = decide (i < 10) := by decide +kernel
theorem cn_z (P : Nat → Bool) (n : Nat) : cn P n = 0 ↔ anyN P n = false := by
  have := cn_pos P n
  cases h : anyN P n with
  | false => rw [h] at this; simp at this; simp [this]
  | true => rw [h] at this; simp at this; simp; omega
section Q3
variable {G : xG} {M : xM} {Q : Option Value → xH → Prop}
theorem st_alone (I : Iv 0 M) (y : Int32) (q : ∀ r M1, Aft G jX9_alone [.ref 59, .int y] r M1 → Q (some (.int r)) (HH M1)) : CW G 11 jX8_alone [.ref 0, .int y] (HH M) Q := by
  have hw := I.1
  have hp := I.2.1
  have hsr := I.2.2.2.2.1
  have h40 := hw.2.1.2
  have hn : M 60 = M 60 := rfl
  refine CW_wp fX8_alone rfl rfl rfl ?_
  refine c_isWhen y (fun D t hD ht ew => ?_) (fun nw => ?_)
  · have w1 : y / 100 = nI D := by rw [ew]; exact (when_div D t hD ht).1
    have w2 : y - y / 100 * 100 = nI t := by rw [ew]; exact (when_div D t hD ht).2
    refine c_loudPlaces hp hw D t hD ht ew (fun r hr => ?_)
    refine c_hourOf _ ?_
    refine c_placesTaken hp hw t ht w2 (fun r2 hr2 => ?_)
    have e : 1023 &&& ((r ||| r2) ^^^ (-1)) = nI (bts (fun p => !(anyN (htS (M 60) p D t) (sN (M 60))) && !(tkS (M 60) t p)) 10) := by
      rw [hr, hr2, nx_or, show (1023 : Int32) = nI 1023 from rfl]
      refine nx_andn (by decide) _ (fun i hi => ?_)
      rw [Nat.testBit_or, tb_bts, tb_bts, b1023 i hi]
      cases decide (i < 10) <;> simp
    refine q _ _ (fun Q1 q1 => ?_)
    refine CW_wp fX9_alone rfl rfl rfl ?_
    refine m_isWhen_t D t hD ht ew ?_
    rw [e] at q1
    refine dn (E := fun p => ∀ M', Rm (M 60) M M' → Ev G 11 jX9_alone 18 [some (.ref 59), some (.int y), some (.int (nI (bts (fun p => !(anyN (htS (M 60) p D t) (sN (M 60))) && !(tkS (M 60) t p)) p))), some (.int (nI p))] [] (HH M') 0 0 Q1) (Nat.zero_le 10) (fun M' hm => ?_) (fun p _ h2 ih M' hm => ?_) M (Rm.refl hsr)
    · refine Ev_wp fX9_alone rfl ?_
      exact q1 _ (I.rm hm)
    · refine Ev_wp fX9_alone rfl ?_
      refine xelse (nI_ge (b := 10) h2 (by decide)) ?_
      rw [nI_succ, bts] at ih
      refine m_heardAt (hm.n hn) hw hm.2.2 p D t h2 hD ht rfl w1 w2 (fun M'' hm2 v hv => ?_)
      have h3 := ih M'' (hm.trans hm2)
      have hb := cn_le (htS (M 60) p D t) (sN (M 60))
      refine xeq (cn (htS (M 60) p D t) (sN (M 60))) 0 hv rfl (by omega) (by decide) (fun c => ?_) (fun c => ?_)
      · refine m_manyAt (hm2.n (hm.n hn)) t ht w2 ?_
        have hb2 := cn_le (fun k => decide (wh (M 60) k t = nI p)) 6
        refine xeq (cn (fun k => decide (wh (M 60) k t = nI p)) 6) 0 rfl rfl (by omega) (by decide) (fun c2 => ?_) (fun c2 => ?_)
        · rw [if_pos (by rw [(cn_z _ _).mp c, show tkS (M 60) t p = false from (cn_z _ _).mp c2]; rfl), ← nx_or, ← nx_shl p (by omega)] at h3
          exact h3
        · have c3 : tkS (M 60) t p = true := by
            cases hz : tkS (M 60) t p with
            | false => exact absurd ((cn_z _ _).mpr hz) c2
            | true => rfl
          rw [if_neg (by rw [c3]; simp), ← nx_or] at h3
          exact h3
      · have c3 : anyN (htS (M 60) p D t) (sN (M 60)) = true := by
          cases hz : anyN (htS (M 60) p D t) (sN (M 60)) with
          | false => exact absurd ((cn_z _ _).mpr hz) c
          | true => rfl
        rw [if_neg (by rw [c3]; simp), ← nx_or] at h3
        exact h3
  · refine c_fin0 ?_
    refine q _ _ (fun Q1 q1 => ?_)
    refine CW_wp fX9_alone rfl rfl rfl ?_
    refine m_isWhen_f nw ?_
    exact m_fin0 (iv_fc I) q1
theorem st_full (I : Iv 0 M) (x y : Int32) (q : ∀ r M1, Aft G jX9_full [.ref 59, .int x, .int y] r M1 → Q (some (.int r)) (HH M1)) : CW G 11 jX8_full [.ref 0, .int x, .int y] (HH M) Q := by
  have hw := I.1
  have hp := I.2.1
  have hsr := I.2.2.2.2.1
  have h40 := hw.2.1.2
  have hn : M 60 = M 60 := rfl
  refine CW_wp fX8_full rfl rfl rfl ?_
  refine c_isPlace x (fun a ha ea => ?_) (fun na => ?_)
  · refine c_isDay y (fun D hD eD => ?_) (fun nD => ?_)
    · have e1 : M 4 0 = nI (sN (M 60)) := hp.2.1.trans hw.2.1.1

      have hcn : cn (fun h => anyN (htS (M 60) a D h) (sN (M 60))) 24 = cn (fun h => decide (0 < cn (htS (M 60) a D h) (sN (M 60)))) 24 := cn_congr (fun h _ => by
        cases hz : anyN (htS (M 60) a D h) (sN (M 60)) with
        | false => rw [(cn_z _ _).mpr hz]; rfl
        | true => exact (decide_eq_true ((cn_pos _ _).mpr hz)).symm)
      have key : Ev G 11 jX8_full 26 [some (.ref 0), some (.int x), some (.int y), some (.int (nI (bts (fun h => anyN (htS (M 60) a D h) 0) 24))), some (.int (nI 0))] [] (HH M) 0 0 Q := by
        refine dn (E := fun s => Ev G 11 jX8_full 26 [some (.ref 0), some (.int x), some (.int y), some (.int (nI (bts (fun h => anyN (htS (M 60) a D h) s) 24))), some (.int (nI s))] [] (HH M) 0 0 Q) (Nat.zero_le (sN (M 60))) ?_ (fun s _ h2 ih => ?_)
        · refine Ev_wp fX8_full rfl ?_
          refine xif (by rw [e1]; exact Int32.le_refl _) ?_
          refine c_bitI (fun h => anyN (htS (M 60) a D h) (sN (M 60))) 24 (by decide) rfl ?_
          rw [hcn]
          refine q _ _ (fun Q1 q1 => ?_)
          refine CW_wp fX9_full rfl rfl rfl ?_
          refine m_isPlace_t a ha ea ?_
          refine m_isDay_t D hD eD ?_
          refine dn (E := fun h => ∀ M', Rm (M 60) M M' → Ev G 11 jX9_full 26 [some (.ref 59), some (.int x), some (.int y), some (.int (nI (cn (fun h => decide (0 < cn (htS (M 60) a D h) (sN (M 60)))) h))), some (.int (nI h))] [] (HH M') 0 0 Q1) (Nat.zero_le 24) (fun M' hm => ?_) (fun h _ h2 ih M' hm => ?_) M (Rm.refl hsr)
          · refine Ev_wp fX9_full rfl ?_
            exact q1 _ (I.rm hm)
          · refine Ev_wp fX9_full rfl ?_
            refine xelse (nI_ge (b := 24) h2 (by decide)) ?_
            rw [nI_succ, cn] at ih
            refine m_heardAt (hm.n hn) hw hm.2.2 a D h ha hD h2 ea eD rfl (fun M'' hm2 v hv => ?_)
            have h3 := ih M'' (hm.trans hm2)
            have hb := cn_le (htS (M 60) a D h) (sN (M 60))
            refine xle (cn (htS (M 60) a D h) (sN (M 60))) 0 hv rfl (by omega) (by decide) (fun c => ?_) (fun c => ?_)
            · rw [if_neg (by simp; omega), ← nI_add] at h3
              exact h3
            · rw [if_pos (decide_eq_true c), nI_succ] at h3
              exact h3
        · refine Ev_wp fX8_full rfl ?_
          refine xelse (by rw [e1]; exact nI_ge h2 (by omega)) ?_
          rw [nI_succ] at ih
          have wa := hw.2.2.2.2.2.2.2.1 s h2
          refine c_isHeardAt hp hw s a D h2 ha (by omega) rfl ea eD (fun c => ?_) (fun c => ?_)
          · refine xix (n := 40) s rfl (by omega) (by decide) (fun e => ?_)
            rw [e, show M 9 s = nI (sF (M 60) s 4) from hp.say hw h2 (show 4 < 6 by decide)]
            have e4 : nI (bts (fun h => anyN (htS (M 60) a D h) s) 24) ||| (1 : Int32) <<< (nI (sF (M 60) s 4) &&& 31) = nI (bts (fun h => anyN (htS (M 60) a D h) (s + 1)) 24) := by
              rw [nx_shl _ (by omega), nx_or, bts_one (sF (M 60) s 4) 24 wa.2.2.2.2.2.1, bts_or]
              congr 1
              exact bts_congr (fun h _ => by rw [anyN_s]; simp [htS, c])
            rw [← e4] at ih
            exact ih
          · rw [show bts (fun h => anyN (htS (M 60) a D h) (s + 1)) 24 = bts (fun h => anyN (htS (M 60) a D h) s) 24 from bts_congr (fun h _ => by rw [anyN_s]; simp [htS, c])] at ih
            exact ih
      rw [show bts (fun h => anyN (htS (M 60) a D h) 0) 24 = 0 from bts_0 24] at key
      exact key
    · refine c_fin0 ?_
      refine q _ _ (fun Q1 q1 => ?_)
      refine CW_wp fX9_full rfl rfl rfl ?_
      refine m_isPlace_t a ha ea ?_
      refine m_isDay_f nD ?_
      exact m_fin0 (iv_fc I) q1
  · refine c_fin0 ?_
    refine q _ _ (fun Q1 q1 => ?_)
    refine CW_wp fX9_full rfl rfl rfl ?_
    refine m_isPlace_f na ?_
    exact m_fin0 (iv_fc I) q1
theorem st_where (I : Iv 0 M) (x y : Int32) (q : ∀ r M1, Aft G jX9_where [.ref 59, .int x, .int y] r M1 → Q (some (.int r)) (HH M1)) : CW G 11 jX8_where [.ref 0, .int x, .int y] (HH M) Q := by
  have hw := I.1
  have hp := I.2.1
  have hsr := I.2.2.2.2.1
  have h40 := hw.2.1.2
  have hn : M 60 = M 60 := rfl
  refine CW_wp fX8_where rfl rfl rfl ?_
  refine c_isPerson x (fun a ha ea => ?_) (fun na => ?_)
  · refine c_isHour y (fun b hb eb => ?_) (fun nb => ?_)
    · refine c_placeOf hp a b ha hb ea eb ?_
      refine q _ _ (fun Q1 q1 => ?_)
      refine CW_wp fX9_where rfl rfl rfl ?_
      refine m_isPerson_t a ha ea ?_
      refine m_isHour_t b hb eb ?_
      refine m_whereIs hn a b ha hb ea eb ?_
      exact q1 _ I
    · refine c_fin0 ?_
      refine q _ _ (fun Q1 q1 => ?_)
      refine CW_wp fX9_where rfl rfl rfl ?_
      refine m_isPerson_t a ha ea ?_
      refine m_isHour_f nb ?_
      exact m_fin0 (iv_fc I) q1
  · refine c_fin0 ?_
    refine q _ _ (fun Q1 q1 => ?_)
    refine CW_wp fX9_where rfl rfl rfl ?_
    refine m_isPerson_f na ?_
    exact m_fin0 (iv_fc I) q1
theorem st_hears (I : Iv 0 M) (x y : Int32) (q : ∀ r M1, Aft G jX9_hears [.ref 59, .int x, .int y] r M1 → Q (some (.int r)) (HH M1)) : CW G 11 jX8_hears [.ref 0, .int x, .int y] (HH M) Q := by
  have hw := I.1
  have hp := I.2.1
  have hsr := I.2.2.2.2.1
  have h40 := hw.2.1.2
  have hn : M 60 = M 60 := rfl
  refine CW_wp fX8_hears rfl rfl rfl ?_
  refine c_isPerson x (fun a ha ea => ?_) (fun na => ?_)
  · refine c_isDay y (fun D hD eD => ?_) (fun nD => ?_)
    · have e1 : M 4 0 = nI (sN (M 60)) := hp.2.1.trans hw.2.1.1
      have hge : ∀ M', Rm (M 60) M M' → M' 60 1 ≤ nI (sN (M 60)) := fun M' hm => by rw [hm.n hn, hw.2.1.1]; exact Int32.le_refl _
      have hlt : ∀ M', Rm (M 60) M M' → ∀ i, i < sN (M 60) → ¬ M' 60 1 ≤ nI i := fun M' hm i hi => by rw [hm.n hn, hw.2.1.1]; exact nI_ge hi (by omega)

      refine dn (E := fun s => Ev G 11 jX8_hears 26 [some (.ref 0), some (.int x), some (.int y), some (.int (nI (cn (fun s => heS (M 60) a s D) s))), some (.int (nI s))] [] (HH M) 0 0 Q) (Nat.zero_le (sN (M 60))) ?_ (fun s _ h2 ih => ?_)
      · refine Ev_wp fX8_hears rfl ?_
        refine xif (by rw [e1]; exact Int32.le_refl _) ?_
        refine q _ _ (fun Q1 q1 => ?_)
        refine CW_wp fX9_hears rfl rfl rfl ?_
        refine m_isPerson_t a ha ea ?_
        refine m_isDay_t D hD eD ?_
        refine dn (E := fun s => ∀ M', Rm (M 60) M M' → Ev G 11 jX9_hears 26 [some (.ref 59), some (.int x), some (.int y), some (.int (nI (cn (fun s => heS (M 60) a s D) s))), some (.int (nI s))] [] (HH M') 0 0 Q1) (Nat.zero_le (sN (M 60))) (fun M' hm => ?_) (fun s _ h2 ih M' hm => ?_) M (Rm.refl hsr)
        · refine Ev_wp fX9_hears rfl ?_
          refine xif (hge M' hm) ?_
          exact q1 _ (I.rm hm)
        · refine Ev_wp fX9_hears rfl ?_
          refine xelse (hlt M' hm s h2) ?_
          rw [nI_succ, cn] at ih
          refine m_hearsIt (hm.n hn) hw hm.2.2 a s D h2 ha hD ea rfl eD (fun M'' hm2 c => ?_) (fun M'' hm2 c => ?_)
          · have h3 := ih M'' (hm.trans hm2)
            rw [if_pos c, nI_succ] at h3
            exact h3
          · have h3 := ih M'' (hm.trans hm2)
            rw [if_neg (by simp [c]), ← nI_add] at h3
            exact h3
      · refine Ev_wp fX8_hears rfl ?_
        refine xelse (by rw [e1]; exact nI_ge h2 (by omega)) ?_
        rw [nI_succ, cn] at ih
        refine c_doesHear hp hw a s D h2 ha (by omega) ea rfl eD (fun c => ?_) (fun c => ?_)
        · rw [if_pos c, nI_succ] at ih
          exact ih
        · rw [if_neg (by simp [c])] at ih
          exact ih
    · refine c_fin0 ?_
      refine q _ _ (fun Q1 q1 => ?_)
      refine CW_wp fX9_hears rfl rfl rfl ?_
      refine m_isPerson_t a ha ea ?_
      refine m_isDay_f nD ?_
      exact m_fin0 (iv_fc I) q1
  · refine c_fin0 ?_
    refine q _ _ (fun Q1 q1 => ?_)
    refine CW_wp fX9_hears rfl rfl rfl ?_
    refine m_isPerson_f na ?_
    exact m_fin0 (iv_fc I) q1
theorem he_no {N : Nat → Int32} {p s T : Nat} (hT : sF N s 5 ≤ T) (h : heS N p s (T + 1) = false) : ∀ d, T < d → heS N p s d = false := fun d hd => by
  cases hz : heS N p s d with
  | false => rfl
  | true => rw [he_mono hz (show sF N s 5 < T + 1 by omega) (by omega)] at h; cases h
theorem st_first (I : Iv 0 M) (x y : Int32) (q : ∀ r M1, Aft G jX9_first [.ref 59, .int x, .int y] r M1 → Q (some (.int r)) (HH M1)) : CW G 11 jX8_first [.ref 0, .int x, .int y] (HH M) Q := by
  have hw := I.1
  have hp := I.2.1
  have hsr := I.2.2.2.2.1
  have h40 := hw.2.1.2
  have hn : M 60 = M 60 := rfl
  refine CW_wp fX8_first rfl rfl rfl ?_
  refine c_isPerson x (fun a ha ea => ?_) (fun na => ?_)
  · refine c_isWord y (fun u hu eu => ?_) (fun nu => ?_)
    · have e1 : M 4 0 = nI (sN (M 60)) := hp.2.1.trans hw.2.1.1

      have hT := hw.1.2
      have e5 : M 1 5 = nI (vN (M 60) 0) := hp.1.trans hw.1.1
      have key : ff (fun s => decide (sF (M 60) s 1 = u) && heS (M 60) a s (vN (M 60) 0 + 1)) (sN (M 60) - 0) 0 = ff (fun s => decide (sF (M 60) s 1 = u) && heS (M 60) a s (vN (M 60) 0 + 1)) (sN (M 60)) 0 → ∀ v, v = nI (vN (M 60) 0 + 1) → Ev G 11 jX8_first 34 [some (.ref 0), some (.int x), some (.int y), some (.int v), some (.int (nI 0))] [] (HH M) 0 0 Q := by
        refine dn (E := fun s => ff (fun s => decide (sF (M 60) s 1 = u) && heS (M 60) a s (vN (M 60) 0 + 1)) (sN (M 60) - s) s = ff (fun s => decide (sF (M 60) s 1 = u) && heS (M 60) a s (vN (M 60) 0 + 1)) (sN (M 60)) 0 → ∀ v, v = nI (vN (M 60) 0 + 1) → Ev G 11 jX8_first 34 [some (.ref 0), some (.int x), some (.int y), some (.int v), some (.int (nI s))] [] (HH M) 0 0 Q) (Nat.zero_le (sN (M 60))) (fun hf v hv => ?_) (fun s _ h2 ih hf v hv => ?_)
        · refine Ev_wp fX8_first rfl ?_
          refine xif (by rw [e1]; exact Int32.le_refl _) ?_
          rw [ff_end _ (Nat.le_refl _)] at hf
          refine c_fin3 ?_
          refine q _ _ (fun Q1 q1 => ?_)
          refine CW_wp fX9_first rfl rfl rfl ?_
          refine m_isPerson_t a ha ea ?_
          refine m_within_t u 0 15 eu rfl rfl (Nat.zero_le _) (by omega) (by decide) ?_
          have hn3 : fc 3 M 60 = M 60 := rfl
          have e0 : fc 3 M 60 0 = nI (vN (M 60) 0) := hw.1.1
          have hno : ∀ s, s < sN (M 60) → ∀ d, vN (M 60) 0 < d → ¬ (sF (M 60) s 1 = u ∧ heS (M 60) a s d = true) := fun s hs d hd h => by
            have h3 := ff_none hf.symm s (Nat.zero_le _) (by omega)
            simp only [h.1, decide_true, Bool.true_and] at h3
            have h4 := he_no ((hw.2.2.2.2.2.2.2.1 s hs).2.2.2.2.2.2) h3 d hd
            rw [h.2] at h4; cases h4
          have k2 : ∀ d, d ≤ 100 → vN (M 60) 0 < d → ∀ M', Rm (M 60) (fc 3 M) M' → Ev G 11 jX9_first 33 [some (.ref 59), some (.int x), some (.int y), some (.int (nI d)), none] [] (HH M') 0 0 Q1 := by
            intro d hd hdT
            refine dn (E := fun d => vN (M 60) 0 < d → ∀ M', Rm (M 60) (fc 3 M) M' → Ev G 11 jX9_first 33 [some (.ref 59), some (.int x), some (.int y), some (.int (nI d)), none] [] (HH M') 0 0 Q1) hd (fun _ M' hm => ?_) (fun d _ hd2 ih hdT M' hm => ?_) hdT
            · refine Ev_wp fX9_first rfl ?_
              exact m_fin3 ((iv_fc (k := 3) I).rm hm) q1
            · refine Ev_wp fX9_first rfl ?_
              refine xelse (nI_ge (b := 100) hd2 (by decide)) ?_
              rw [nI_succ] at ih
              refine dn (E := fun s => ∀ M'', Rm (M 60) (fc 3 M) M'' → Ev G 11 jX9_first 42 [some (.ref 59), some (.int x), some (.int y), some (.int (nI d)), some (.int (nI s))] [] (HH M'') 0 0 Q1) (Nat.zero_le (sN (M 60))) (fun M'' hm2 => ?_) (fun s _ h2 ih2 M'' hm2 => ?_) M' hm
              · refine Ev_wp fX9_first rfl ?_
                refine xif (show M'' 60 1 ≤ nI (sN (M 60)) by rw [hm2.n hn3, hw.2.1.1]; exact Int32.le_refl _) ?_
                exact ih (by omega) M'' hm2
              · refine Ev_wp fX9_first rfl ?_
                refine xelse (show ¬ M'' 60 1 ≤ nI s by rw [hm2.n hn3, hw.2.1.1]; exact nI_ge h2 (by omega)) ?_
                rw [nI_succ] at ih2
                refine m_of (hm2.n hn3) hw s 1 h2 (by decide) rfl rfl (fun r1 hr1 => ?_)
                have ws := (hw.2.2.2.2.2.2.2.1 s h2).2.1
                refine xeq (sF (M 60) s 1) u hr1 eu (by omega) (by omega) (fun c => ?_) (fun c => ?_)
                · refine m_hearsIt (hm2.n hn3) hw hm2.2.2 a s d h2 ha hd2 ea rfl rfl (fun M3 hm3 c2 => absurd ⟨c, c2⟩ (hno s h2 d hdT)) (fun M3 hm3 c2 => ?_)
                  exact ih2 M3 (hm2.trans hm3)
                · exact ih2 M'' hm2
          have k3 := k2 (vN (M 60) 0 + 1) (by omega) (by omega) (fc 3 M) (Rm.refl (iv_fc (k := 3) I).2.2.2.2.1)
          rw [nI_succ, ← e0] at k3
          exact k3
        · refine Ev_wp fX8_first rfl ?_
          refine xelse (by rw [e1]; exact nI_ge h2 (by omega)) ?_
          rw [nI_succ s] at ih
          have ws := (hw.2.2.2.2.2.2.2.1 s h2).2.1
          rw [ff_step _ h2] at hf
          refine xix (n := 40) s rfl (by omega) (by decide) (fun e => ?_)
          rw [e, show M 6 s = nI (sF (M 60) s 1) from hp.say hw h2 (show 1 < 6 by decide)]
          refine xeq (sF (M 60) s 1) u rfl eu (by omega) (by omega) (fun c => ?_) (fun c => ?_)
          · refine c_doesHear hp hw a s (vN (M 60) 0 + 1) h2 ha (by omega) ea rfl hv (fun c2 => ?_) (fun c2 => ?_)
            · rw [if_pos (by simp [c, c2])] at hf
              have hD1 := (hd_lt (he_hd c2)).2
              rw [hv]
              refine q _ _ (fun Q1 q1 => ?_)
              refine CW_wp fX9_first rfl rfl rfl ?_
              refine m_isPerson_t a ha ea ?_
              refine m_within_t u 0 15 eu rfl rfl (Nat.zero_le _) (by omega) (by decide) ?_
              have e0 : M 60 0 = nI (vN (M 60) 0) := hw.1.1
              have k2 : ff (fun s => decide (sF (M 60) s 1 = u) && heS (M 60) a s (vN (M 60) 0 + 1)) (sN (M 60) - 0) 0 = ff (fun s => decide (sF (M 60) s 1 = u) && heS (M 60) a s (vN (M 60) 0 + 1)) (sN (M 60)) 0 → ∀ M', Rm (M 60) M M' → Ev G 11 jX9_first 42 [some (.ref 59), some (.int x), some (.int y), some (.int (nI (vN (M 60) 0 + 1))), some (.int (nI 0))] [] (HH M') 0 0 Q1 := by
                refine dn (E := fun s => ff (fun s => decide (sF (M 60) s 1 = u) && heS (M 60) a s (vN (M 60) 0 + 1)) (sN (M 60) - s) s = ff (fun s => decide (sF (M 60) s 1 = u) && heS (M 60) a s (vN (M 60) 0 + 1)) (sN (M 60)) 0 → ∀ M', Rm (M 60) M M' → Ev G 11 jX9_first 42 [some (.ref 59), some (.int x), some (.int y), some (.int (nI (vN (M 60) 0 + 1))), some (.int (nI s))] [] (HH M') 0 0 Q1) (Nat.zero_le (sN (M 60))) (fun hf2 M' hm => ?_) (fun s' _ h2' ih2 hf2 M' hm => ?_)
                · rw [ff_end _ (Nat.le_refl _), ← hf] at hf2; cases hf2
                · refine Ev_wp fX9_first rfl ?_
                  refine xelse (show ¬ M' 60 1 ≤ nI s' by rw [hm.n hn, hw.2.1.1]; exact nI_ge h2' (by omega)) ?_
                  rw [nI_succ s'] at ih2
                  rw [ff_step _ h2'] at hf2
                  refine m_of (hm.n hn) hw s' 1 h2' (by decide) rfl rfl (fun r1 hr1 => ?_)
                  have ws' := (hw.2.2.2.2.2.2.2.1 s' h2').2.1
                  refine xeq (sF (M 60) s' 1) u hr1 eu (by omega) (by omega) (fun c' => ?_) (fun c' => ?_)
                  · refine m_hearsIt (hm.n hn) hw hm.2.2 a s' (vN (M 60) 0 + 1) h2' ha hD1 ea rfl rfl (fun M3 hm3 c2' => ?_) (fun M3 hm3 c2' => ?_)
                    · exact q1 _ (I.rm (hm.trans hm3))
                    · rw [if_neg (by simp [c2'])] at hf2
                      exact ih2 hf2 M3 (hm.trans hm3)
                  · rw [if_neg (by simp [c'])] at hf2
                    exact ih2 hf2 M' hm
              have k3 : ∀ v, v = nI (vN (M 60) 0 + 1) → Ev G 11 jX9_first 33 [some (.ref 59), some (.int x), some (.int y), some (.int v), none] [] (HH M) 0 0 Q1 := fun v hv => by
                subst hv
                refine Ev_wp fX9_first rfl ?_
                refine xelse (nI_ge (b := 100) hD1 (by decide)) ?_
                exact k2 rfl M (Rm.refl hsr)
              exact k3 (M 60 0 + 1) (by rw [nI_succ, ← e0])
            · rw [if_neg (by simp [c2])] at hf
              exact ih hf v hv
          · rw [if_neg (by simp [c])] at hf
            exact ih hf v hv
      exact key rfl _ (by rw [nI_succ, ← e5])
    · refine c_fin0 ?_
      refine q _ _ (fun Q1 q1 => ?_)
      refine CW_wp fX9_first rfl rfl rfl ?_
      refine m_isPerson_t a ha ea ?_
      refine m_within_f 0 15 rfl rfl (by decide) (by decide) (fun k _ hk => nu k (by omega)) ?_
      exact m_fin0 (iv_fc I) q1
  · refine c_fin0 ?_
    refine q _ _ (fun Q1 q1 => ?_)
    refine CW_wp fX9_first rfl rfl rfl ?_
    refine m_isPerson_f na ?_
    exact m_fin0 (iv_fc I) q1
theorem st_who (I : Iv 0 M) (x : Int32) (q : ∀ r M1, Aft G jX9_who [.ref 59, .int x] r M1 → Q (some (.int r)) (HH M1)) : CW G 11 jX8_who [.ref 0, .int x] (HH M) Q := by
  have hw := I.1
  have hp := I.2.1
  have hsr := I.2.2.2.2.1
  have h40 := hw.2.1.2
  have hn : M 60 = M 60 := rfl
  refine CW_wp fX8_who rfl rfl rfl ?_
  refine c_isSaying hp hw x (fun s hs es => ?_) (fun ns => ?_)
  · have hl := (hw.2.2.2.2.2.2.2.1 s hs).2.2.2.2.2.2
    have hT := hw.1.2
    refine xix (n := 40) s es (by omega) (by decide) (fun e => ?_)
    rw [e, show M 10 s = nI (sF (M 60) s 5) from hp.say hw hs (show 5 < 6 by decide)]
    have key : ∀ v, v = nI (sF (M 60) s 5 + 1) → Ev G 11 jX8_who 35 [some (.ref 0), some (.int x), some (.int v), some (.int (nI (bts (fun p => heS (M 60) p s (sF (M 60) s 5 + 1)) 0))), some (.int (nI 0))] [] (HH M) 0 0 Q := fun v hv => by
      refine dn (E := fun p => Ev G 11 jX8_who 35 [some (.ref 0), some (.int x), some (.int v), some (.int (nI (bts (fun p => heS (M 60) p s (sF (M 60) s 5 + 1)) p))), some (.int (nI p))] [] (HH M) 0 0 Q) (Nat.zero_le 6) ?_ (fun p _ h2 ih => ?_)
      · refine Ev_wp fX8_who rfl ?_
        refine q _ _ (fun Q1 q1 => ?_)
        refine CW_wp fX9_who rfl rfl rfl ?_
        refine m_isSaying_t hn hw s hs es ?_
        refine dn (E := fun p => ∀ M', Rm (M 60) M M' → Ev G 11 jX9_who 19 [some (.ref 59), some (.int x), some (.int (nI (bts (fun p => heS (M 60) p s (sF (M 60) s 5 + 1)) p))), some (.int (nI p)), none, none] [] (HH M') 0 0 Q1) (Nat.zero_le 6) (fun M' hm => ?_) (fun p _ h2 ih M' hm => ?_) M (Rm.refl hsr)
        · refine Ev_wp fX9_who rfl ?_
          exact q1 _ (I.rm hm)
        · refine Ev_wp fX9_who rfl ?_
          refine xelse (nI_ge (b := 6) h2 (by decide)) ?_
          refine m_of (hm.n hn) hw s 5 hs (by decide) es rfl (fun r1 hr1 => ?_)
          rw [nI_succ p, bts] at ih
          have fin : ∀ M'', Rm (M 60) M M'' → ∀ h d : Int32, (heS (M 60) p s (sF (M 60) s 5 + 1) = true ∧ h = 1 ∨ heS (M 60) p s (sF (M 60) s 5 + 1) = false ∧ h = 0) → (heS (M 60) p s (sF (M 60) s 5 + 1) = true ∨ 100 ≤ d) → Ev G 11 jX9_who 38 [some (.ref 59), some (.int x), some (.int (nI (bts (fun p => heS (M 60) p s (sF (M 60) s 5 + 1)) p))), some (.int (nI p)), some (.int h), some (.int d)] [] (HH M'') 0 0 Q1 := fun M'' hm2 h d hh hd => by
            have h3 := ih M'' hm2
            refine Ev_wp fX9_who rfl ?_
            rcases hh with ⟨c, rfl⟩ | ⟨c, rfl⟩
            · rw [if_pos c, ← nx_or, ← nx_shl p (by omega)] at h3
              refine xite (fun _ => ?_) (fun _ => ?_)
              · exact h3
              · exact h3
            · rw [if_neg (by simp [c]), ← nx_or] at h3
              refine xif (hd.resolve_left (by simp [c])) ?_
              exact h3
          have lp : ∀ d, d ≤ 100 → sF (M 60) s 5 < d → ((d = sF (M 60) s 5 + 1) ∨ heS (M 60) p s (sF (M 60) s 5 + 1) = false) → ∀ M'', Rm (M 60) M M'' → Ev G 11 jX9_who 38 [some (.ref 59), some (.int x), some (.int (nI (bts (fun p => heS (M 60) p s (sF (M 60) s 5 + 1)) p))), some (.int (nI p)), some (.int 0), some (.int (nI d))] [] (HH M'') 0 0 Q1 := fun d hd hdl hor => by
            refine dn (E := fun d => sF (M 60) s 5 < d → ((d = sF (M 60) s 5 + 1) ∨ heS (M 60) p s (sF (M 60) s 5 + 1) = false) → ∀ M'', Rm (M 60) M M'' → Ev G 11 jX9_who 38 [some (.ref 59), some (.int x), some (.int (nI (bts (fun p => heS (M 60) p s (sF (M 60) s 5 + 1)) p))), some (.int (nI p)), some (.int 0), some (.int (nI d))] [] (HH M'') 0 0 Q1) hd (fun hdl hor M'' hm2 => ?_) (fun d _ hd2 ih2 hdl hor M'' hm2 => ?_) hdl hor
            · refine fin M'' hm2 0 _ (Or.inr ⟨?_, rfl⟩) (Or.inr (Int32.le_refl _))
              rcases hor with z | z
              · cases hz : heS (M 60) p s (sF (M 60) s 5 + 1) with
                | false => rfl
                | true => have := (hd_lt (he_hd hz)).2; omega
              · exact z
            · refine Ev_wp fX9_who rfl ?_
              refine xelse (nI_ge (b := 100) hd2 (by decide)) ?_
              rw [nI_succ d] at ih2
              refine m_hearsIt (hm2.n hn) hw hm2.2.2 p s d hs h2 hd2 rfl es rfl (fun M3 hm3 c2 => ?_) (fun M3 hm3 c2 => ?_)
              · refine fin M3 (hm2.trans hm3) 1 _ (Or.inl ⟨?_, rfl⟩) (Or.inl ?_)
                · exact he_mono c2 (by omega) (by omega)
                · exact he_mono c2 (by omega) (by omega)
              · refine ih2 (by omega) (Or.inr ?_) M3 (hm2.trans hm3)
                rcases hor with z | z
                · rw [← z]; exact c2
                · exact z
          have k4 := lp (sF (M 60) s 5 + 1) (by omega) (by omega) (Or.inl rfl) M' hm
          rw [nI_succ, ← hr1] at k4
          exact k4
      · refine Ev_wp fX8_who rfl ?_
        refine xelse (nI_ge (b := 6) h2 (by decide)) ?_
        rw [nI_succ p, bts] at ih
        refine c_doesHear hp hw p s (sF (M 60) s 5 + 1) hs h2 (by omega) rfl es hv (fun c => ?_) (fun c => ?_)
        · rw [if_pos c, ← nx_or, ← nx_shl p (by omega)] at ih
          exact ih
        · rw [if_neg (by simp [c]), Nat.or_zero] at ih
          exact ih
    exact key _ (by rw [nI_succ])
  · refine c_fin0 ?_
    refine q _ _ (fun Q1 q1 => ?_)
    refine CW_wp fX9_who rfl rfl rfl ?_
    refine m_isSaying_f (show fc 0 M 60 = M 60 from rfl) hw ns ?_
    exact m_fin0 (iv_fc I) q1
theorem st_said (I : Iv 0 M) (x : Int32) (q : ∀ r M1, Aft G jX9_said [.ref 59, .int x] r M1 → Q (some (.int r)) (HH M1)) : CW G 11 jX8_said [.ref 0, .int x] (HH M) Q := by
  have hw := I.1
  have hp := I.2.1
  have hsr := I.2.2.2.2.1
  have h40 := hw.2.1.2
  have hn : M 60 = M 60 := rfl
  refine CW_wp fX8_said rfl rfl rfl ?_
  refine c_isSaying hp hw x (fun s hs es => ?_) (fun ns => ?_)
  · have wa := hw.2.2.2.2.2.2.2.1 s hs
    refine xix (n := 40) s es (by omega) (by decide) (fun e => ?_)
    rw [e, show M 9 s = nI (sF (M 60) s 4) from hp.say hw hs (show 4 < 6 by decide)]
    have e8 : M 8 s = nI (sF (M 60) s 3) := hp.say hw hs (show 3 < 6 by decide)
    refine dn (E := fun p => Ev G 11 jX8_said 33 [some (.ref 0), some (.int x), some (.int (nI (sF (M 60) s 4))), some (.int (nI (bts (fun p => decide (wh (M 60) p (sF (M 60) s 4) = nI (sF (M 60) s 3))) p))), some (.int (nI p))] [] (HH M) 0 0 Q) (Nat.zero_le 6) ?_ (fun p _ h2 ih => ?_)
    · refine Ev_wp fX8_said rfl ?_
      refine q _ _ (fun Q1 q1 => ?_)
      refine CW_wp fX9_said rfl rfl rfl ?_
      refine m_isSaying_t hn hw s hs es ?_
      refine dn (E := fun p => Ev G 11 jX9_said 19 [some (.ref 59), some (.int x), some (.int (nI (bts (fun p => decide (wh (M 60) p (sF (M 60) s 4) = nI (sF (M 60) s 3))) p))), some (.int (nI p))] [] (HH M) 0 0 Q1) (Nat.zero_le 6) ?_ (fun p _ h2 ih => ?_)
      · refine Ev_wp fX9_said rfl ?_
        exact q1 _ I
      · refine Ev_wp fX9_said rfl ?_
        refine xelse (nI_ge (b := 6) h2 (by decide)) ?_
        rw [nI_succ p, bts] at ih
        refine m_of hn hw s 4 hs (by decide) es rfl (fun r1 hr1 => ?_)
        refine m_whereIs hn p (sF (M 60) s 4) h2 wa.2.2.2.2.2.1 rfl hr1 ?_
        refine m_of hn hw s 3 hs (by decide) es rfl (fun r2 hr2 => ?_)
        subst hr2
        refine xite (fun c => ?_) (fun c => ?_)
        · rw [if_pos (decide_eq_true c), ← nx_or, ← nx_shl p (by omega)] at ih
          exact ih
        · rw [if_neg (by simp [c]), ← nx_or] at ih
          exact ih
    · refine Ev_wp fX8_said rfl ?_
      refine xelse (nI_ge (b := 6) h2 (by decide)) ?_
      rw [nI_succ p, bts] at ih
      refine c_placeOf hp p (sF (M 60) s 4) h2 wa.2.2.2.2.2.1 rfl rfl ?_
      refine xix (n := 40) s es (by omega) (by decide) (fun e => ?_)
      rw [e, e8]
      refine xite (fun c => ?_) (fun c => ?_)
      · rw [if_pos (decide_eq_true c), ← nx_or, ← nx_shl p (by omega)] at ih
        exact ih
      · rw [if_neg (by simp [c]), Nat.or_zero] at ih
        exact ih
  · refine c_fin0 ?_
    refine q _ _ (fun Q1 q1 => ?_)
    refine CW_wp fX9_said rfl rfl rfl ?_
    refine m_isSaying_f (show fc 0 M 60 = M 60 from rfl) hw ns ?_
    exact m_fin0 (iv_fc I) q1
end Q3
