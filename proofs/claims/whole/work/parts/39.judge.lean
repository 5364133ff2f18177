/-! judge and the sheets: the class beside the model. -/
def gdS (N : Nat → Int32) (D t : Nat) (v : Nat → Int32) (i : Nat) : Prop := ∃ p, p < 10 ∧ v i = nI p ∧ (i = 0 ∨ ∃ p', p' < 10 ∧ v (i - 1) = nI p' ∧ opS N p' p = true) ∧ t + i < 24 ∧ 0 < cn (htS N p D (t + i)) (sN N)
theorem bts_z (P : Nat → Bool) (n : Nat) : bts P n = 0 ↔ cn P n = 0 := by
  rw [cn_z]
  constructor
  · intro h
    cases hz : anyN P n with
    | false => rfl
    | true =>
      obtain ⟨i, hi, hp⟩ := (anyN_iff P n).mp hz
      have h2 := tb_bts P n i
      rw [h, hp, decide_eq_true hi] at h2
      simp at h2
  · intro h
    refine (bts_eq (a := 0) (fun i => ?_)).symm
    by_cases hi : i < n
    · cases hp : P i with
      | false => simp
      | true => rw [(anyN_iff P n).mpr ⟨i, hi, hp⟩] at h; cases h
    · simp [hi]
section Q7
variable {G : xG} {M : xM} {Q : Option Value → xH → Prop}
theorem m_judgeL {N : Nat → Int32} (hw : Wf N) {M0 : xM} (h0 : SR N M0) (hn0 : M0 60 = N) {x y : Int32} (s n D t : Nat) (v : Nat → Int32) (hs : s < 4) (hn40 : n ≤ 40) (hD : D < 100) (ht : t < 24) (hx : x = nI s) (hy : y = nI (100 * D + t)) (h70 : M0 70 s = nI n) (h71 : ∀ k, k < 40 → v k = M0 71 (40 * s + k)) (qb : ∀ i, i < n → (∀ j, j < i → gdS N D t v j) → ¬ gdS N D t v i → ∀ M', Rm N M0 M' → Q (some (.int (nI (1 + i)))) (HH M')) (qe : (∀ j, j < n → gdS N D t v j) → ∀ M', Rm N M0 M' → Q (some (.int 0)) (HH M')) : Ev G 11 jX9_judge 47 [some (.ref 59), some (.int x), some (.int y), some (.int (nI 0)), none, none, none] [] (HH M0) 0 0 Q := by
  have h40 := hw.2.1.2
  have w1 : y / 100 = nI D := by rw [hy]; exact (when_div D t hD ht).1
  have w2 : y - y / 100 * 100 = nI t := by rw [hy]; exact (when_div D t hD ht).2
  refine dn (E := fun i => (∀ j, j < i → gdS N D t v j) → ∀ M', Rm N M0 M' → Ev G 11 jX9_judge 47 [some (.ref 59), some (.int x), some (.int y), some (.int (nI i)), none, none, none] [] (HH M') 0 0 Q) (Nat.zero_le n) (fun hj M' hm => ?_) (fun i _ h2 ih hj M' hm => ?_) (fun j hj => absurd hj (Nat.not_lt_zero _)) M0 (Rm.refl h0)
  · have e70 : M' 70 s = nI n := by rw [hm.1 70 (by decide) (by decide)]; exact h70
    refine Ev_wp fX9_judge rfl ?_
    refine xix (n := 4) s hx hs (by decide) (fun e => ?_)
    rw [e, e70]
    refine xif (Int32.le_refl _) ?_
    exact qe hj M' hm
  · have e70 : M' 70 s = nI n := by rw [hm.1 70 (by decide) (by decide)]; exact h70
    have e71 : ∀ k, k < 40 → M' 71 (40 * s + k) = v k := fun k hk => by rw [hm.1 71 (by decide) (by decide), h71 k hk]
    have bad : ¬ gdS N D t v i → ∀ M'', Rm N M0 M'' → Q (some (.int (1 + nI i))) (HH M'') := fun hb M'' hm2 => by
      rw [show (1 : Int32) + nI i = nI (1 + i) from nI_add 1 i]
      exact qb i h2 hj hb M'' hm2
    rw [nI_succ i] at ih
    refine Ev_wp fX9_judge rfl ?_
    refine xix (n := 4) s hx hs (by decide) (fun e => ?_)
    rw [e, e70]
    refine xelse (nI_ge h2 (by omega)) ?_
    refine xix (n := 160) (40 * s + i) (ia (im rfl hx) rfl) (by omega) (by decide) (fun e => ?_)
    rw [e, e71 i (by omega)]
    refine m_isPlace (v i) (fun p hp ep => ?_) (fun h => ?_)
    · refine m_isHour _ (fun u hu eu => ?_) (fun h => ?_)
      · have eu2 : nI (t + i) = nI u := (ia w2 rfl).symm.trans eu
        rw [nI_eq (by omega) (by omega)] at eu2
        have hti : t + i < 24 := by omega
        have hgo : (i = 0 ∨ ∃ p', p' < 10 ∧ v (i - 1) = nI p' ∧ opS N p' p = true) → ∀ M2, Rm N M0 M2 → ∀ (Qx : Option Value → xH → Prop), (∀ r M3, Rm N M0 M3 → r = 0 → ¬ gdS N D t v i → Qx (some (.int r)) (HH M3)) → (∀ r M3, Rm N M0 M3 → ¬ r = 0 → gdS N D t v i → Qx (some (.int r)) (HH M3)) → CW G 10 jX9_heardAt [.ref 59, .int (v i), .int (y / 100), .int (y - y / 100 * 100 + nI i)] (HH M2) Qx := fun hor M2 hm2 Qx k1 k2 => by
          refine m_heardAt (hm2.n hn0) hw hm2.2.2 p D (t + i) hp hD hti ep w1 (ia w2 rfl) (fun M3 hm3 r hr => ?_)
          have hc := cn_le (htS N p D (t + i)) (sN N)
          by_cases c : cn (htS N p D (t + i)) (sN N) = 0
          · refine k1 r M3 (hm2.trans hm3) (by rw [hr, c]; rfl) ?_
            rintro ⟨p2, hp2, e2, -, -, e3⟩
            rw [ep, nI_eq (by omega) (by omega)] at e2
            subst e2
            omega
          · exact k2 r M3 (hm2.trans hm3) (by rw [hr]; exact nI_ne0 (by omega) (by omega)) ⟨p, hp, ep, hor, hti, by omega⟩
        refine xeq i 0 rfl rfl (by omega) (by decide) (fun c => ?_) (fun c => ?_)
        · refine xif (by rfl) ?_
          refine hgo (Or.inl c) M' hm _ (fun r M3 hm3 h3 h4 => ?_) (fun r M3 hm3 h3 h4 => ?_)
          · refine xif h3 ?_
            exact bad h4 M3 hm3
          · refine xelse h3 ?_
            exact ih (fun j hj2 => by
              by_cases z : j = i
              · subst z; exact h4
              · exact hj j (by omega)) M3 hm3
        · obtain ⟨p', hp', ep', -, -, -⟩ := hj (i - 1) (by omega)
          refine xix (n := 160) (40 * s + i - 1) (isb (ia (im rfl hx) rfl) rfl (by omega)) (by omega) (by decide) (fun e => ?_)
          rw [e, show 40 * s + i - 1 = 40 * s + (i - 1) by omega, e71 (i - 1) (by omega)]
          have after : opS N p' p = true → ∀ Qx : Option Value → xH → Prop, (∀ r M3, Rm N M0 M3 → r = 0 → ¬ gdS N D t v i → Qx (some (.int r)) (HH M3)) → (∀ r M3, Rm N M0 M3 → ¬ r = 0 → gdS N D t v i → Qx (some (.int r)) (HH M3)) → CW G 10 jX9_heardAt [.ref 59, .int (v i), .int (y / 100), .int (y - y / 100 * 100 + nI i)] (HH M') Qx := fun ho => hgo (Or.inr ⟨p', hp', ep', ho⟩) M' hm
          refine xeq p' p ep' ep (by omega) (by omega) (fun c2 => ?_) (fun c2 => ?_)
          · refine after (by simp [opS, c2]) _ (fun r M3 hm3 h3 h4 => ?_) (fun r M3 hm3 h3 h4 => ?_)
            · refine xif h3 ?_
              exact bad h4 M3 hm3
            · refine xelse h3 ?_
              exact ih (fun j hj2 => by
                by_cases z : j = i
                · subst z; exact h4
                · exact hj j (by omega)) M3 hm3
          · refine m_isWay (hm.n hn0) hw p' p hp' hp ep' ep (fun c3 => ?_) (fun c3 => ?_)
            · refine after (by simp [opS, c3]) _ (fun r M3 hm3 h3 h4 => ?_) (fun r M3 hm3 h3 h4 => ?_)
              · refine xif h3 ?_
                exact bad h4 M3 hm3
              · refine xelse h3 ?_
                exact ih (fun j hj2 => by
                  by_cases z : j = i
                  · subst z; exact h4
                  · exact hj j (by omega)) M3 hm3
            · refine bad ?_ M' hm
              rintro ⟨p2, hp2, e2, hor, -⟩
              rw [ep, nI_eq (by omega) (by omega)] at e2
              subst e2
              rcases hor with hor | ⟨p3, hp3, e3, ho⟩
              · exact c hor
              · rw [ep', nI_eq (by omega) (by omega)] at e3
                subst e3
                simp [opS, c2, c3] at ho
      · refine bad ?_ M' hm
        rintro ⟨p2, hp2, e2, -, e3, -⟩
        exact h (t + i) e3 (ia w2 rfl)
    · refine bad ?_ M' hm
      rintro ⟨p2, hp2, e2, -⟩
      exact h p2 hp2 e2
theorem c_missing0 {d : Nat} {w : Nat} (h : M 51 0 = nI w) (hw : w ≤ 32) (q1 : w = 0 → Q (some (.int 1)) (HH M)) (q0 : w ≠ 0 → Q (some (.int 0)) (HH M)) : CW G d jX4_isMissing [.ref 51] (HH M) Q := by
  refine CW_wp fX4_isMissing rfl rfl rfl ?_
  exact xeq w 0 h rfl (by omega) (by decide) (fun c => q1 c) (fun c => q0 c)
theorem c_judgeL0 {N : Nat → Int32} (hp : PV 1 N M) (hw : Wf N) {y : Int32} (n D t : Nat) (hn40 : n ≤ 40) (hD : D < 100) (ht : t < 24) (hy : y = nI (100 * D + t)) (h1 : M 51 1 = nI n) (qb : ∀ i, i < n → (∀ j, j < i → gdS N D t (M 52) j) → ¬ gdS N D t (M 52) i → Q (some (.int (nI (1 + i)))) (HH M)) (qe : (∀ j, j < n → gdS N D t (M 52) j) → Q (some (.int 0)) (HH M)) : Ev G 11 jX8_judge 53 [some (.ref 0), none, some (.int y), some (.ref 51), some (.int (nI 0)), none, none] [] (HH M) 0 0 Q := by
  have h40 := hw.2.1.2
  have w2 : y - y / 100 * 100 = nI t := by rw [hy]; exact (when_div D t hD ht).2
  refine dn (E := fun i => (∀ j, j < i → gdS N D t (M 52) j) → Ev G 11 jX8_judge 53 [some (.ref 0), none, some (.int y), some (.ref 51), some (.int (nI i)), none, none] [] (HH M) 0 0 Q) (Nat.zero_le n) (fun hj => ?_) (fun i _ h2 ih hj => ?_) (fun j hj => absurd hj (Nat.not_lt_zero _))
  · refine Ev_wp fX8_judge rfl ?_
    refine xif (by rw [h1]; exact Int32.le_refl _) ?_
    exact qe hj
  · have bad : ¬ gdS N D t (M 52) i → Q (some (.int (1 + nI i))) (HH M) := fun hb => by
      rw [show (1 : Int32) + nI i = nI (1 + i) from nI_add 1 i]
      exact qb i h2 hj hb
    rw [nI_succ i] at ih
    have rest : ∀ (p : Nat) (a : Int32), p < 10 → M 52 i = nI p → (i = 0 ∨ ∃ p', p' < 10 ∧ M 52 (i - 1) = nI p' ∧ opS N p' p = true) → t + i < 24 → ∀ Qx : Option Value → xH → Prop, (∀ r : Int64, r = 0 → ¬ gdS N D t (M 52) i → Qx (some (.long r)) (HH M)) → (∀ r : Int64, ¬ r = 0 → gdS N D t (M 52) i → Qx (some (.long r)) (HH M)) → CW G 10 jX5_heardSet [.ref 1, .int (M 52 i), .int (y + nI i)] (HH M) Qx := fun p a hp10 ep hor hti Qx k1 k2 => by
      refine c_heardSet hp hw p D (t + i) hp10 hD hti ep (by rw [hy, nI_add, Nat.add_assoc]) (fun r hr => ?_)
      have hb := bts62 (htS N p D (t + i)) (show sN N ≤ 61 by omega)
      by_cases c : cn (htS N p D (t + i)) (sN N) = 0
      · refine k1 r (by rw [hr, (bts_z _ _).mpr c]; rfl) ?_
        rintro ⟨p2, hp2, e2, -, -, e3⟩
        rw [ep, nI_eq (by omega) (by omega)] at e2
        subst e2
        omega
      · refine k2 r ?_ ⟨p, hp10, ep, hor, hti, by omega⟩
        rw [hr, show (0 : Int64) = lN 0 from rfl, pk_lEQ (by omega) (by decide)]
        exact fun z => c ((bts_z _ _).mp z)
    have tail : ∀ (p : Nat), p < 10 → M 52 i = nI p → (i = 0 ∨ ∃ p', p' < 10 ∧ M 52 (i - 1) = nI p' ∧ opS N p' p = true) → ∀ Qx : Option Value → xH → Prop, (∀ r, r = nI t → Qx (some (.int r)) (HH M)) → CW G 10 jX8_hourOf [.int y] (HH M) Qx := fun p _ _ _ Qx k => c_hourOf y (k _ w2)
    refine Ev_wp fX8_judge rfl ?_
    refine xelse (by rw [h1]; exact nI_ge h2 (by omega)) ?_
    refine xix (n := 40) i rfl (by omega) (by decide) (fun e => ?_)
    rw [e]
    refine xeq i 0 rfl rfl (by omega) (by decide) (fun c => ?_) (fun c => ?_)
    · refine c_isPlace _ (fun p hp10 ep => ?_) (fun h => bad (fun z => by obtain ⟨p2, hp2, e2, -⟩ := z; exact h p2 hp2 e2))
      refine c_isOpen hp p p hp10 hp10 ep ep (fun _ => ?_) (fun z => by simp [opS] at z)
      refine tail p hp10 ep (Or.inl c) _ (fun r hr => ?_)
      refine xle 24 (t + i) rfl (ia hr rfl) (by decide) (by omega) (fun c4 => bad (fun z => by obtain ⟨p2, hp2, e2, -, e3, -⟩ := z; omega)) (fun c4 => ?_)
      refine rest p 0 hp10 ep (Or.inl c) c4 _ (fun r hr h4 => ?_) (fun r hr h4 => ?_)
      · refine xif ((lg_cmp_eq _ _).mpr hr) ?_
        exact bad h4
      · refine xelse (fun z => hr ((lg_cmp_eq _ _).mp z)) ?_
        exact ih (fun j hj2 => by
          by_cases z : j = i
          · subst z; exact h4
          · exact hj j (by omega))
    · obtain ⟨p', hp', ep', -, -, -⟩ := hj (i - 1) (by omega)
      refine xix (n := 40) (i - 1) (isb rfl rfl (by omega)) (by omega) (by decide) (fun e => ?_)
      rw [e]
      refine c_isPlace _ (fun p hp10 ep => ?_) (fun h => bad (fun z => by obtain ⟨p2, hp2, e2, -⟩ := z; exact h p2 hp2 e2))
      refine c_isOpen hp p' p hp' hp10 ep' ep (fun ho => ?_) (fun ho => bad (fun z => by
        obtain ⟨p2, hp2, e2, hor, -⟩ := z
        rw [ep, nI_eq (by omega) (by omega)] at e2
        subst e2
        rcases hor with hor | ⟨p3, hp3, e3, ho2⟩
        · exact c hor
        · rw [ep', nI_eq (by omega) (by omega)] at e3
          subst e3
          rw [ho] at ho2; cases ho2))
      refine tail p hp10 ep (Or.inr ⟨p', hp', ep', ho⟩) _ (fun r hr => ?_)
      refine xle 24 (t + i) rfl (ia hr rfl) (by decide) (by omega) (fun c4 => bad (fun z => by obtain ⟨p2, hp2, e2, -, e3, -⟩ := z; omega)) (fun c4 => ?_)
      refine rest p 0 hp10 ep (Or.inr ⟨p', hp', ep', ho⟩) c4 _ (fun r hr h4 => ?_) (fun r hr h4 => ?_)
      · refine xif ((lg_cmp_eq _ _).mpr hr) ?_
        exact bad h4
      · refine xelse (fun z => hr ((lg_cmp_eq _ _).mp z)) ?_
        exact ih (fun j hj2 => by
          by_cases z : j = i
          · subst z; exact h4
          · exact hj j (by omega))
theorem c_missing1 {d : Nat} {w : Nat} (h : M 53 0 = nI w) (hw : w ≤ 32) (q1 : w = 0 → Q (some (.int 1)) (HH M)) (q0 : w ≠ 0 → Q (some (.int 0)) (HH M)) : CW G d jX4_isMissing [.ref 53] (HH M) Q := by
  refine CW_wp fX4_isMissing rfl rfl rfl ?_
  exact xeq w 0 h rfl (by omega) (by decide) (fun c => q1 c) (fun c => q0 c)
theorem c_judgeL1 {N : Nat → Int32} (hp : PV 1 N M) (hw : Wf N) {y : Int32} (n D t : Nat) (hn40 : n ≤ 40) (hD : D < 100) (ht : t < 24) (hy : y = nI (100 * D + t)) (h1 : M 53 1 = nI n) (qb : ∀ i, i < n → (∀ j, j < i → gdS N D t (M 54) j) → ¬ gdS N D t (M 54) i → Q (some (.int (nI (1 + i)))) (HH M)) (qe : (∀ j, j < n → gdS N D t (M 54) j) → Q (some (.int 0)) (HH M)) : Ev G 11 jX8_judge 53 [some (.ref 0), none, some (.int y), some (.ref 53), some (.int (nI 0)), none, none] [] (HH M) 0 0 Q := by
  have h40 := hw.2.1.2
  have w2 : y - y / 100 * 100 = nI t := by rw [hy]; exact (when_div D t hD ht).2
  refine dn (E := fun i => (∀ j, j < i → gdS N D t (M 54) j) → Ev G 11 jX8_judge 53 [some (.ref 0), none, some (.int y), some (.ref 53), some (.int (nI i)), none, none] [] (HH M) 0 0 Q) (Nat.zero_le n) (fun hj => ?_) (fun i _ h2 ih hj => ?_) (fun j hj => absurd hj (Nat.not_lt_zero _))
  · refine Ev_wp fX8_judge rfl ?_
    refine xif (by rw [h1]; exact Int32.le_refl _) ?_
    exact qe hj
  · have bad : ¬ gdS N D t (M 54) i → Q (some (.int (1 + nI i))) (HH M) := fun hb => by
      rw [show (1 : Int32) + nI i = nI (1 + i) from nI_add 1 i]
      exact qb i h2 hj hb
    rw [nI_succ i] at ih
    have rest : ∀ (p : Nat) (a : Int32), p < 10 → M 54 i = nI p → (i = 0 ∨ ∃ p', p' < 10 ∧ M 54 (i - 1) = nI p' ∧ opS N p' p = true) → t + i < 24 → ∀ Qx : Option Value → xH → Prop, (∀ r : Int64, r = 0 → ¬ gdS N D t (M 54) i → Qx (some (.long r)) (HH M)) → (∀ r : Int64, ¬ r = 0 → gdS N D t (M 54) i → Qx (some (.long r)) (HH M)) → CW G 10 jX5_heardSet [.ref 1, .int (M 54 i), .int (y + nI i)] (HH M) Qx := fun p a hp10 ep hor hti Qx k1 k2 => by
      refine c_heardSet hp hw p D (t + i) hp10 hD hti ep (by rw [hy, nI_add, Nat.add_assoc]) (fun r hr => ?_)
      have hb := bts62 (htS N p D (t + i)) (show sN N ≤ 61 by omega)
      by_cases c : cn (htS N p D (t + i)) (sN N) = 0
      · refine k1 r (by rw [hr, (bts_z _ _).mpr c]; rfl) ?_
        rintro ⟨p2, hp2, e2, -, -, e3⟩
        rw [ep, nI_eq (by omega) (by omega)] at e2
        subst e2
        omega
      · refine k2 r ?_ ⟨p, hp10, ep, hor, hti, by omega⟩
        rw [hr, show (0 : Int64) = lN 0 from rfl, pk_lEQ (by omega) (by decide)]
        exact fun z => c ((bts_z _ _).mp z)
    have tail : ∀ (p : Nat), p < 10 → M 54 i = nI p → (i = 0 ∨ ∃ p', p' < 10 ∧ M 54 (i - 1) = nI p' ∧ opS N p' p = true) → ∀ Qx : Option Value → xH → Prop, (∀ r, r = nI t → Qx (some (.int r)) (HH M)) → CW G 10 jX8_hourOf [.int y] (HH M) Qx := fun p _ _ _ Qx k => c_hourOf y (k _ w2)
    refine Ev_wp fX8_judge rfl ?_
    refine xelse (by rw [h1]; exact nI_ge h2 (by omega)) ?_
    refine xix (n := 40) i rfl (by omega) (by decide) (fun e => ?_)
    rw [e]
    refine xeq i 0 rfl rfl (by omega) (by decide) (fun c => ?_) (fun c => ?_)
    · refine c_isPlace _ (fun p hp10 ep => ?_) (fun h => bad (fun z => by obtain ⟨p2, hp2, e2, -⟩ := z; exact h p2 hp2 e2))
      refine c_isOpen hp p p hp10 hp10 ep ep (fun _ => ?_) (fun z => by simp [opS] at z)
      refine tail p hp10 ep (Or.inl c) _ (fun r hr => ?_)
      refine xle 24 (t + i) rfl (ia hr rfl) (by decide) (by omega) (fun c4 => bad (fun z => by obtain ⟨p2, hp2, e2, -, e3, -⟩ := z; omega)) (fun c4 => ?_)
      refine rest p 0 hp10 ep (Or.inl c) c4 _ (fun r hr h4 => ?_) (fun r hr h4 => ?_)
      · refine xif ((lg_cmp_eq _ _).mpr hr) ?_
        exact bad h4
      · refine xelse (fun z => hr ((lg_cmp_eq _ _).mp z)) ?_
        exact ih (fun j hj2 => by
          by_cases z : j = i
          · subst z; exact h4
          · exact hj j (by omega))
    · obtain ⟨p', hp', ep', -, -, -⟩ := hj (i - 1) (by omega)
      refine xix (n := 40) (i - 1) (isb rfl rfl (by omega)) (by omega) (by decide) (fun e => ?_)
      rw [e]
      refine c_isPlace _ (fun p hp10 ep => ?_) (fun h => bad (fun z => by obtain ⟨p2, hp2, e2, -⟩ := z; exact h p2 hp2 e2))
      refine c_isOpen hp p' p hp' hp10 ep' ep (fun ho => ?_) (fun ho => bad (fun z => by
        obtain ⟨p2, hp2, e2, hor, -⟩ := z
        rw [ep, nI_eq (by omega) (by omega)] at e2
        subst e2
        rcases hor with hor | ⟨p3, hp3, e3, ho2⟩
        · exact c hor
        · rw [ep', nI_eq (by omega) (by omega)] at e3
          subst e3
          rw [ho] at ho2; cases ho2))
      refine tail p hp10 ep (Or.inr ⟨p', hp', ep', ho⟩) _ (fun r hr => ?_)
      refine xle 24 (t + i) rfl (ia hr rfl) (by decide) (by omega) (fun c4 => bad (fun z => by obtain ⟨p2, hp2, e2, -, e3, -⟩ := z; omega)) (fun c4 => ?_)
      refine rest p 0 hp10 ep (Or.inr ⟨p', hp', ep', ho⟩) c4 _ (fun r hr h4 => ?_) (fun r hr h4 => ?_)
      · refine xif ((lg_cmp_eq _ _).mpr hr) ?_
        exact bad h4
      · refine xelse (fun z => hr ((lg_cmp_eq _ _).mp z)) ?_
        exact ih (fun j hj2 => by
          by_cases z : j = i
          · subst z; exact h4
          · exact hj j (by omega))
theorem c_missing2 {d : Nat} {w : Nat} (h : M 55 0 = nI w) (hw : w ≤ 32) (q1 : w = 0 → Q (some (.int 1)) (HH M)) (q0 : w ≠ 0 → Q (some (.int 0)) (HH M)) : CW G d jX4_isMissing [.ref 55] (HH M) Q := by
  refine CW_wp fX4_isMissing rfl rfl rfl ?_
  exact xeq w 0 h rfl (by omega) (by decide) (fun c => q1 c) (fun c => q0 c)
theorem c_judgeL2 {N : Nat → Int32} (hp : PV 1 N M) (hw : Wf N) {y : Int32} (n D t : Nat) (hn40 : n ≤ 40) (hD : D < 100) (ht : t < 24) (hy : y = nI (100 * D + t)) (h1 : M 55 1 = nI n) (qb : ∀ i, i < n → (∀ j, j < i → gdS N D t (M 56) j) → ¬ gdS N D t (M 56) i → Q (some (.int (nI (1 + i)))) (HH M)) (qe : (∀ j, j < n → gdS N D t (M 56) j) → Q (some (.int 0)) (HH M)) : Ev G 11 jX8_judge 53 [some (.ref 0), none, some (.int y), some (.ref 55), some (.int (nI 0)), none, none] [] (HH M) 0 0 Q := by
  have h40 := hw.2.1.2
  have w2 : y - y / 100 * 100 = nI t := by rw [hy]; exact (when_div D t hD ht).2
  refine dn (E := fun i => (∀ j, j < i → gdS N D t (M 56) j) → Ev G 11 jX8_judge 53 [some (.ref 0), none, some (.int y), some (.ref 55), some (.int (nI i)), none, none] [] (HH M) 0 0 Q) (Nat.zero_le n) (fun hj => ?_) (fun i _ h2 ih hj => ?_) (fun j hj => absurd hj (Nat.not_lt_zero _))
  · refine Ev_wp fX8_judge rfl ?_
    refine xif (by rw [h1]; exact Int32.le_refl _) ?_
    exact qe hj
  · have bad : ¬ gdS N D t (M 56) i → Q (some (.int (1 + nI i))) (HH M) := fun hb => by
      rw [show (1 : Int32) + nI i = nI (1 + i) from nI_add 1 i]
      exact qb i h2 hj hb
    rw [nI_succ i] at ih
    have rest : ∀ (p : Nat) (a : Int32), p < 10 → M 56 i = nI p → (i = 0 ∨ ∃ p', p' < 10 ∧ M 56 (i - 1) = nI p' ∧ opS N p' p = true) → t + i < 24 → ∀ Qx : Option Value → xH → Prop, (∀ r : Int64, r = 0 → ¬ gdS N D t (M 56) i → Qx (some (.long r)) (HH M)) → (∀ r : Int64, ¬ r = 0 → gdS N D t (M 56) i → Qx (some (.long r)) (HH M)) → CW G 10 jX5_heardSet [.ref 1, .int (M 56 i), .int (y + nI i)] (HH M) Qx := fun p a hp10 ep hor hti Qx k1 k2 => by
      refine c_heardSet hp hw p D (t + i) hp10 hD hti ep (by rw [hy, nI_add, Nat.add_assoc]) (fun r hr => ?_)
      have hb := bts62 (htS N p D (t + i)) (show sN N ≤ 61 by omega)
      by_cases c : cn (htS N p D (t + i)) (sN N) = 0
      · refine k1 r (by rw [hr, (bts_z _ _).mpr c]; rfl) ?_
        rintro ⟨p2, hp2, e2, -, -, e3⟩
        rw [ep, nI_eq (by omega) (by omega)] at e2
        subst e2
        omega
      · refine k2 r ?_ ⟨p, hp10, ep, hor, hti, by omega⟩
        rw [hr, show (0 : Int64) = lN 0 from rfl, pk_lEQ (by omega) (by decide)]
        exact fun z => c ((bts_z _ _).mp z)
    have tail : ∀ (p : Nat), p < 10 → M 56 i = nI p → (i = 0 ∨ ∃ p', p' < 10 ∧ M 56 (i - 1) = nI p' ∧ opS N p' p = true) → ∀ Qx : Option Value → xH → Prop, (∀ r, r = nI t → Qx (some (.int r)) (HH M)) → CW G 10 jX8_hourOf [.int y] (HH M) Qx := fun p _ _ _ Qx k => c_hourOf y (k _ w2)
    refine Ev_wp fX8_judge rfl ?_
    refine xelse (by rw [h1]; exact nI_ge h2 (by omega)) ?_
    refine xix (n := 40) i rfl (by omega) (by decide) (fun e => ?_)
    rw [e]
    refine xeq i 0 rfl rfl (by omega) (by decide) (fun c => ?_) (fun c => ?_)
    · refine c_isPlace _ (fun p hp10 ep => ?_) (fun h => bad (fun z => by obtain ⟨p2, hp2, e2, -⟩ := z; exact h p2 hp2 e2))
      refine c_isOpen hp p p hp10 hp10 ep ep (fun _ => ?_) (fun z => by simp [opS] at z)
      refine tail p hp10 ep (Or.inl c) _ (fun r hr => ?_)
      refine xle 24 (t + i) rfl (ia hr rfl) (by decide) (by omega) (fun c4 => bad (fun z => by obtain ⟨p2, hp2, e2, -, e3, -⟩ := z; omega)) (fun c4 => ?_)
      refine rest p 0 hp10 ep (Or.inl c) c4 _ (fun r hr h4 => ?_) (fun r hr h4 => ?_)
      · refine xif ((lg_cmp_eq _ _).mpr hr) ?_
        exact bad h4
      · refine xelse (fun z => hr ((lg_cmp_eq _ _).mp z)) ?_
        exact ih (fun j hj2 => by
          by_cases z : j = i
          · subst z; exact h4
          · exact hj j (by omega))
    · obtain ⟨p', hp', ep', -, -, -⟩ := hj (i - 1) (by omega)
      refine xix (n := 40) (i - 1) (isb rfl rfl (by omega)) (by omega) (by decide) (fun e => ?_)
      rw [e]
      refine c_isPlace _ (fun p hp10 ep => ?_) (fun h => bad (fun z => by obtain ⟨p2, hp2, e2, -⟩ := z; exact h p2 hp2 e2))
      refine c_isOpen hp p' p hp' hp10 ep' ep (fun ho => ?_) (fun ho => bad (fun z => by
        obtain ⟨p2, hp2, e2, hor, -⟩ := z
        rw [ep, nI_eq (by omega) (by omega)] at e2
        subst e2
        rcases hor with hor | ⟨p3, hp3, e3, ho2⟩
        · exact c hor
        · rw [ep', nI_eq (by omega) (by omega)] at e3
          subst e3
          rw [ho] at ho2; cases ho2))
      refine tail p hp10 ep (Or.inr ⟨p', hp', ep', ho⟩) _ (fun r hr => ?_)
      refine xle 24 (t + i) rfl (ia hr rfl) (by decide) (by omega) (fun c4 => bad (fun z => by obtain ⟨p2, hp2, e2, -, e3, -⟩ := z; omega)) (fun c4 => ?_)
      refine rest p 0 hp10 ep (Or.inr ⟨p', hp', ep', ho⟩) c4 _ (fun r hr h4 => ?_) (fun r hr h4 => ?_)
      · refine xif ((lg_cmp_eq _ _).mpr hr) ?_
        exact bad h4
      · refine xelse (fun z => hr ((lg_cmp_eq _ _).mp z)) ?_
        exact ih (fun j hj2 => by
          by_cases z : j = i
          · subst z; exact h4
          · exact hj j (by omega))
theorem c_missing3 {d : Nat} {w : Nat} (h : M 57 0 = nI w) (hw : w ≤ 32) (q1 : w = 0 → Q (some (.int 1)) (HH M)) (q0 : w ≠ 0 → Q (some (.int 0)) (HH M)) : CW G d jX4_isMissing [.ref 57] (HH M) Q := by
  refine CW_wp fX4_isMissing rfl rfl rfl ?_
  exact xeq w 0 h rfl (by omega) (by decide) (fun c => q1 c) (fun c => q0 c)
theorem c_judgeL3 {N : Nat → Int32} (hp : PV 1 N M) (hw : Wf N) {y : Int32} (n D t : Nat) (hn40 : n ≤ 40) (hD : D < 100) (ht : t < 24) (hy : y = nI (100 * D + t)) (h1 : M 57 1 = nI n) (qb : ∀ i, i < n → (∀ j, j < i → gdS N D t (M 58) j) → ¬ gdS N D t (M 58) i → Q (some (.int (nI (1 + i)))) (HH M)) (qe : (∀ j, j < n → gdS N D t (M 58) j) → Q (some (.int 0)) (HH M)) : Ev G 11 jX8_judge 53 [some (.ref 0), none, some (.int y), some (.ref 57), some (.int (nI 0)), none, none] [] (HH M) 0 0 Q := by
  have h40 := hw.2.1.2
  have w2 : y - y / 100 * 100 = nI t := by rw [hy]; exact (when_div D t hD ht).2
  refine dn (E := fun i => (∀ j, j < i → gdS N D t (M 58) j) → Ev G 11 jX8_judge 53 [some (.ref 0), none, some (.int y), some (.ref 57), some (.int (nI i)), none, none] [] (HH M) 0 0 Q) (Nat.zero_le n) (fun hj => ?_) (fun i _ h2 ih hj => ?_) (fun j hj => absurd hj (Nat.not_lt_zero _))
  · refine Ev_wp fX8_judge rfl ?_
    refine xif (by rw [h1]; exact Int32.le_refl _) ?_
    exact qe hj
  · have bad : ¬ gdS N D t (M 58) i → Q (some (.int (1 + nI i))) (HH M) := fun hb => by
      rw [show (1 : Int32) + nI i = nI (1 + i) from nI_add 1 i]
      exact qb i h2 hj hb
    rw [nI_succ i] at ih
    have rest : ∀ (p : Nat) (a : Int32), p < 10 → M 58 i = nI p → (i = 0 ∨ ∃ p', p' < 10 ∧ M 58 (i - 1) = nI p' ∧ opS N p' p = true) → t + i < 24 → ∀ Qx : Option Value → xH → Prop, (∀ r : Int64, r = 0 → ¬ gdS N D t (M 58) i → Qx (some (.long r)) (HH M)) → (∀ r : Int64, ¬ r = 0 → gdS N D t (M 58) i → Qx (some (.long r)) (HH M)) → CW G 10 jX5_heardSet [.ref 1, .int (M 58 i), .int (y + nI i)] (HH M) Qx := fun p a hp10 ep hor hti Qx k1 k2 => by
      refine c_heardSet hp hw p D (t + i) hp10 hD hti ep (by rw [hy, nI_add, Nat.add_assoc]) (fun r hr => ?_)
      have hb := bts62 (htS N p D (t + i)) (show sN N ≤ 61 by omega)
      by_cases c : cn (htS N p D (t + i)) (sN N) = 0
      · refine k1 r (by rw [hr, (bts_z _ _).mpr c]; rfl) ?_
        rintro ⟨p2, hp2, e2, -, -, e3⟩
        rw [ep, nI_eq (by omega) (by omega)] at e2
        subst e2
        omega
      · refine k2 r ?_ ⟨p, hp10, ep, hor, hti, by omega⟩
        rw [hr, show (0 : Int64) = lN 0 from rfl, pk_lEQ (by omega) (by decide)]
        exact fun z => c ((bts_z _ _).mp z)
    have tail : ∀ (p : Nat), p < 10 → M 58 i = nI p → (i = 0 ∨ ∃ p', p' < 10 ∧ M 58 (i - 1) = nI p' ∧ opS N p' p = true) → ∀ Qx : Option Value → xH → Prop, (∀ r, r = nI t → Qx (some (.int r)) (HH M)) → CW G 10 jX8_hourOf [.int y] (HH M) Qx := fun p _ _ _ Qx k => c_hourOf y (k _ w2)
    refine Ev_wp fX8_judge rfl ?_
    refine xelse (by rw [h1]; exact nI_ge h2 (by omega)) ?_
    refine xix (n := 40) i rfl (by omega) (by decide) (fun e => ?_)
    rw [e]
    refine xeq i 0 rfl rfl (by omega) (by decide) (fun c => ?_) (fun c => ?_)
    · refine c_isPlace _ (fun p hp10 ep => ?_) (fun h => bad (fun z => by obtain ⟨p2, hp2, e2, -⟩ := z; exact h p2 hp2 e2))
      refine c_isOpen hp p p hp10 hp10 ep ep (fun _ => ?_) (fun z => by simp [opS] at z)
      refine tail p hp10 ep (Or.inl c) _ (fun r hr => ?_)
      refine xle 24 (t + i) rfl (ia hr rfl) (by decide) (by omega) (fun c4 => bad (fun z => by obtain ⟨p2, hp2, e2, -, e3, -⟩ := z; omega)) (fun c4 => ?_)
      refine rest p 0 hp10 ep (Or.inl c) c4 _ (fun r hr h4 => ?_) (fun r hr h4 => ?_)
      · refine xif ((lg_cmp_eq _ _).mpr hr) ?_
        exact bad h4
      · refine xelse (fun z => hr ((lg_cmp_eq _ _).mp z)) ?_
        exact ih (fun j hj2 => by
          by_cases z : j = i
          · subst z; exact h4
          · exact hj j (by omega))
    · obtain ⟨p', hp', ep', -, -, -⟩ := hj (i - 1) (by omega)
      refine xix (n := 40) (i - 1) (isb rfl rfl (by omega)) (by omega) (by decide) (fun e => ?_)
      rw [e]
      refine c_isPlace _ (fun p hp10 ep => ?_) (fun h => bad (fun z => by obtain ⟨p2, hp2, e2, -⟩ := z; exact h p2 hp2 e2))
      refine c_isOpen hp p' p hp' hp10 ep' ep (fun ho => ?_) (fun ho => bad (fun z => by
        obtain ⟨p2, hp2, e2, hor, -⟩ := z
        rw [ep, nI_eq (by omega) (by omega)] at e2
        subst e2
        rcases hor with hor | ⟨p3, hp3, e3, ho2⟩
        · exact c hor
        · rw [ep', nI_eq (by omega) (by omega)] at e3
          subst e3
          rw [ho] at ho2; cases ho2))
      refine tail p hp10 ep (Or.inr ⟨p', hp', ep', ho⟩) _ (fun r hr => ?_)
      refine xle 24 (t + i) rfl (ia hr rfl) (by decide) (by omega) (fun c4 => bad (fun z => by obtain ⟨p2, hp2, e2, -, e3, -⟩ := z; omega)) (fun c4 => ?_)
      refine rest p 0 hp10 ep (Or.inr ⟨p', hp', ep', ho⟩) c4 _ (fun r hr h4 => ?_) (fun r hr h4 => ?_)
      · refine xif ((lg_cmp_eq _ _).mpr hr) ?_
        exact bad h4
      · refine xelse (fun z => hr ((lg_cmp_eq _ _).mp z)) ?_
        exact ih (fun j hj2 => by
          by_cases z : j = i
          · subst z; exact h4
          · exact hj j (by omega))
theorem st_judge (I : Iv 0 M) (x y : Int32) (q : ∀ r M1, Aft G jX9_judge [.ref 59, .int x, .int y] r M1 → Q (some (.int r)) (HH M1)) : CW G 11 jX8_judge [.ref 0, .int x, .int y] (HH M) Q := by
  have hw := I.1
  have hp := I.2.1
  have hsr := I.2.2.2.2.1
  have h40 := hw.2.1.2
  have hn : M 60 = M 60 := rfl
  rcases n_ix x 4 (by decide) with ⟨s, hs, es⟩ | ⟨hx, nx⟩
  · match s, hs, es with
    | 0, _, es =>
      subst es
      obtain ⟨w, n, w4, n40, a1, a2, a3, a4, a5⟩ := I.2.2.2.2.2.2.2.1
      have w32 : w ≤ 32 := by omega
      refine CW_wp fX8_judge rfl rfl rfl ?_
      refine c_isSheet _ (fun p hp0 e0 => ?_) (fun h => absurd rfl (h 0 (by decide)))
      refine c_missing0 a1 w32 (fun c => ?_) (fun c => ?_)
      · refine c_fin5 ?_
        refine q _ _ (fun Q1 q1 => ?_)
        refine CW_wp fX9_judge rfl rfl rfl ?_
        refine m_isSheet_t 0 (by decide) rfl ?_
        refine xif (show fc 5 M 69 0 = 0 by rw [show fc 5 M 69 0 = nI w from a2, c]; rfl) ?_
        exact m_fin5 (iv_fc I) q1
      have c0 : ¬ M 69 0 = 0 := by rw [a2]; exact nI_ne0 (by omega) (by omega)
      refine c_isWhen y (fun D t hD ht ew => ?_) (fun nw => ?_)
      · refine c_judgeL0 hp hw n D t n40 hD ht ew a3 (fun i hi hj hb => ?_) (fun hj => ?_)
        · refine q _ _ (fun Q1 q1 => ?_)
          refine CW_wp fX9_judge rfl rfl rfl ?_
          refine m_isSheet_t 0 (by decide) rfl ?_
          refine xelse c0 ?_
          refine m_isWhen_t D t hD ht ew ?_
          refine m_judgeL hw hsr hn 0 n D t (M 52) (by decide) n40 hD ht rfl ew a4 a5 (fun i2 hi2 hj2 hb2 M' hm => ?_) (fun hj2 => absurd (hj2 i hi) hb)
          have e : i2 = i := by
            rcases Nat.lt_trichotomy i2 i with z | z | z
            · exact absurd (hj i2 z) hb2
            · exact z
            · exact absurd (hj2 i z) hb
          subst e
          exact q1 _ (I.rm hm)
        · refine q _ _ (fun Q1 q1 => ?_)
          refine CW_wp fX9_judge rfl rfl rfl ?_
          refine m_isSheet_t 0 (by decide) rfl ?_
          refine xelse c0 ?_
          refine m_isWhen_t D t hD ht ew ?_
          refine m_judgeL hw hsr hn 0 n D t (M 52) (by decide) n40 hD ht rfl ew a4 a5 (fun i2 hi2 hj2 hb2 => absurd (hj i2 hi2) hb2) (fun _ M' hm => ?_)
          exact q1 _ (I.rm hm)
      · refine c_fin0 ?_
        refine q _ _ (fun Q1 q1 => ?_)
        refine CW_wp fX9_judge rfl rfl rfl ?_
        refine m_isSheet_t 0 (by decide) rfl ?_
        refine xelse c0 ?_
        refine m_isWhen_f nw ?_
        exact m_fin0 (iv_fc I) q1
    | 1, _, es =>
      subst es
      obtain ⟨w, n, w4, n40, a1, a2, a3, a4, a5⟩ := I.2.2.2.2.2.2.2.2.1
      have w32 : w ≤ 32 := by omega
      refine CW_wp fX8_judge rfl rfl rfl ?_
      refine c_isSheet _ (fun p hp0 e0 => ?_) (fun h => absurd rfl (h 1 (by decide)))
      refine c_missing1 a1 w32 (fun c => ?_) (fun c => ?_)
      · refine c_fin5 ?_
        refine q _ _ (fun Q1 q1 => ?_)
        refine CW_wp fX9_judge rfl rfl rfl ?_
        refine m_isSheet_t 1 (by decide) rfl ?_
        refine xif (show fc 5 M 69 1 = 0 by rw [show fc 5 M 69 1 = nI w from a2, c]; rfl) ?_
        exact m_fin5 (iv_fc I) q1
      have c0 : ¬ M 69 1 = 0 := by rw [a2]; exact nI_ne0 (by omega) (by omega)
      refine c_isWhen y (fun D t hD ht ew => ?_) (fun nw => ?_)
      · refine c_judgeL1 hp hw n D t n40 hD ht ew a3 (fun i hi hj hb => ?_) (fun hj => ?_)
        · refine q _ _ (fun Q1 q1 => ?_)
          refine CW_wp fX9_judge rfl rfl rfl ?_
          refine m_isSheet_t 1 (by decide) rfl ?_
          refine xelse c0 ?_
          refine m_isWhen_t D t hD ht ew ?_
          refine m_judgeL hw hsr hn 1 n D t (M 54) (by decide) n40 hD ht rfl ew a4 a5 (fun i2 hi2 hj2 hb2 M' hm => ?_) (fun hj2 => absurd (hj2 i hi) hb)
          have e : i2 = i := by
            rcases Nat.lt_trichotomy i2 i with z | z | z
            · exact absurd (hj i2 z) hb2
            · exact z
            · exact absurd (hj2 i z) hb
          subst e
          exact q1 _ (I.rm hm)
        · refine q _ _ (fun Q1 q1 => ?_)
          refine CW_wp fX9_judge rfl rfl rfl ?_
          refine m_isSheet_t 1 (by decide) rfl ?_
          refine xelse c0 ?_
          refine m_isWhen_t D t hD ht ew ?_
          refine m_judgeL hw hsr hn 1 n D t (M 54) (by decide) n40 hD ht rfl ew a4 a5 (fun i2 hi2 hj2 hb2 => absurd (hj i2 hi2) hb2) (fun _ M' hm => ?_)
          exact q1 _ (I.rm hm)
      · refine c_fin0 ?_
        refine q _ _ (fun Q1 q1 => ?_)
        refine CW_wp fX9_judge rfl rfl rfl ?_
        refine m_isSheet_t 1 (by decide) rfl ?_
        refine xelse c0 ?_
        refine m_isWhen_f nw ?_
        exact m_fin0 (iv_fc I) q1
    | 2, _, es =>
      subst es
      obtain ⟨w, n, w4, n40, a1, a2, a3, a4, a5⟩ := I.2.2.2.2.2.2.2.2.2.1
      have w32 : w ≤ 32 := by omega
      refine CW_wp fX8_judge rfl rfl rfl ?_
      refine c_isSheet _ (fun p hp0 e0 => ?_) (fun h => absurd rfl (h 2 (by decide)))
      refine c_missing2 a1 w32 (fun c => ?_) (fun c => ?_)
      · refine c_fin5 ?_
        refine q _ _ (fun Q1 q1 => ?_)
        refine CW_wp fX9_judge rfl rfl rfl ?_
        refine m_isSheet_t 2 (by decide) rfl ?_
        refine xif (show fc 5 M 69 2 = 0 by rw [show fc 5 M 69 2 = nI w from a2, c]; rfl) ?_
        exact m_fin5 (iv_fc I) q1
      have c0 : ¬ M 69 2 = 0 := by rw [a2]; exact nI_ne0 (by omega) (by omega)
      refine c_isWhen y (fun D t hD ht ew => ?_) (fun nw => ?_)
      · refine c_judgeL2 hp hw n D t n40 hD ht ew a3 (fun i hi hj hb => ?_) (fun hj => ?_)
        · refine q _ _ (fun Q1 q1 => ?_)
          refine CW_wp fX9_judge rfl rfl rfl ?_
          refine m_isSheet_t 2 (by decide) rfl ?_
          refine xelse c0 ?_
          refine m_isWhen_t D t hD ht ew ?_
          refine m_judgeL hw hsr hn 2 n D t (M 56) (by decide) n40 hD ht rfl ew a4 a5 (fun i2 hi2 hj2 hb2 M' hm => ?_) (fun hj2 => absurd (hj2 i hi) hb)
          have e : i2 = i := by
            rcases Nat.lt_trichotomy i2 i with z | z | z
            · exact absurd (hj i2 z) hb2
            · exact z
            · exact absurd (hj2 i z) hb
          subst e
          exact q1 _ (I.rm hm)
        · refine q _ _ (fun Q1 q1 => ?_)
          refine CW_wp fX9_judge rfl rfl rfl ?_
          refine m_isSheet_t 2 (by decide) rfl ?_
          refine xelse c0 ?_
          refine m_isWhen_t D t hD ht ew ?_
          refine m_judgeL hw hsr hn 2 n D t (M 56) (by decide) n40 hD ht rfl ew a4 a5 (fun i2 hi2 hj2 hb2 => absurd (hj i2 hi2) hb2) (fun _ M' hm => ?_)
          exact q1 _ (I.rm hm)
      · refine c_fin0 ?_
        refine q _ _ (fun Q1 q1 => ?_)
        refine CW_wp fX9_judge rfl rfl rfl ?_
        refine m_isSheet_t 2 (by decide) rfl ?_
        refine xelse c0 ?_
        refine m_isWhen_f nw ?_
        exact m_fin0 (iv_fc I) q1
    | 3, _, es =>
      subst es
      obtain ⟨w, n, w4, n40, a1, a2, a3, a4, a5⟩ := I.2.2.2.2.2.2.2.2.2.2
      have w32 : w ≤ 32 := by omega
      refine CW_wp fX8_judge rfl rfl rfl ?_
      refine c_isSheet _ (fun p hp0 e0 => ?_) (fun h => absurd rfl (h 3 (by decide)))
      refine c_missing3 a1 w32 (fun c => ?_) (fun c => ?_)
      · refine c_fin5 ?_
        refine q _ _ (fun Q1 q1 => ?_)
        refine CW_wp fX9_judge rfl rfl rfl ?_
        refine m_isSheet_t 3 (by decide) rfl ?_
        refine xif (show fc 5 M 69 3 = 0 by rw [show fc 5 M 69 3 = nI w from a2, c]; rfl) ?_
        exact m_fin5 (iv_fc I) q1
      have c0 : ¬ M 69 3 = 0 := by rw [a2]; exact nI_ne0 (by omega) (by omega)
      refine c_isWhen y (fun D t hD ht ew => ?_) (fun nw => ?_)
      · refine c_judgeL3 hp hw n D t n40 hD ht ew a3 (fun i hi hj hb => ?_) (fun hj => ?_)
        · refine q _ _ (fun Q1 q1 => ?_)
          refine CW_wp fX9_judge rfl rfl rfl ?_
          refine m_isSheet_t 3 (by decide) rfl ?_
          refine xelse c0 ?_
          refine m_isWhen_t D t hD ht ew ?_
          refine m_judgeL hw hsr hn 3 n D t (M 58) (by decide) n40 hD ht rfl ew a4 a5 (fun i2 hi2 hj2 hb2 M' hm => ?_) (fun hj2 => absurd (hj2 i hi) hb)
          have e : i2 = i := by
            rcases Nat.lt_trichotomy i2 i with z | z | z
            · exact absurd (hj i2 z) hb2
            · exact z
            · exact absurd (hj2 i z) hb
          subst e
          exact q1 _ (I.rm hm)
        · refine q _ _ (fun Q1 q1 => ?_)
          refine CW_wp fX9_judge rfl rfl rfl ?_
          refine m_isSheet_t 3 (by decide) rfl ?_
          refine xelse c0 ?_
          refine m_isWhen_t D t hD ht ew ?_
          refine m_judgeL hw hsr hn 3 n D t (M 58) (by decide) n40 hD ht rfl ew a4 a5 (fun i2 hi2 hj2 hb2 => absurd (hj i2 hi2) hb2) (fun _ M' hm => ?_)
          exact q1 _ (I.rm hm)
      · refine c_fin0 ?_
        refine q _ _ (fun Q1 q1 => ?_)
        refine CW_wp fX9_judge rfl rfl rfl ?_
        refine m_isSheet_t 3 (by decide) rfl ?_
        refine xelse c0 ?_
        refine m_isWhen_f nw ?_
        exact m_fin0 (iv_fc I) q1
    | s + 4, hs, _ => exact absurd hs (by omega)
  · refine CW_wp fX8_judge rfl rfl rfl ?_
    refine c_isSheet _ (fun p hp0 e0 => absurd e0 (nx p hp0)) (fun _ => ?_)
    refine c_fin0 ?_
    refine q _ _ (fun Q1 q1 => ?_)
    refine CW_wp fX9_judge rfl rfl rfl ?_
    refine m_isSheet_f nx ?_
    exact m_fin0 (iv_fc I) q1
end Q7
