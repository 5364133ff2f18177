/-! What is heard: the class beside the model. -/
theorem ff_no {P : Nat → Bool} : ∀ {k i : Nat}, (∀ t, i ≤ t → P t = false) → ff P k i = none
  | 0, _, _ => rfl
  | k + 1, i, h => by
    rw [ff, if_neg (by simp [h i (Nat.le_refl _)])]
    exact ff_no (fun t ht => h t (by omega))
/-- so, and told -/
def cutS (P : Nat → Bool) (n : Nat) : Nat → Bool := fun s => decide (s < n) && P s
theorem cut_lt {P : Nat → Bool} {n s : Nat} (h : s < n) : cutS P n s = P s := by simp [cutS, h]
theorem cut_ge {P : Nat → Bool} {n s : Nat} (h : n ≤ s) : cutS P n s = false := by simp [cutS, show ¬ s < n by omega]
theorem cn_cut (P : Nat → Bool) {n s : Nat} (h : s ≤ n) : cn (cutS P n) s = cn P s := cn_congr (fun i hi => cut_lt (by omega))
theorem wd_cut (P : Nat → Bool) (f : Nat → Nat) (n : Nat) : ∀ k, wdS (cutS P n) f k = wdS P f (min k n)
  | 0 => by simp [wdS]
  | k + 1 => by
    rw [wdS, wd_cut P f n k]
    by_cases c : k < n
    · rw [cut_lt c, show min (k + 1) n = min k n + 1 by omega, wdS, show min k n = k by omega]
    · rw [cut_ge (by omega), if_neg (by simp), show min (k + 1) n = min k n by omega]
theorem mx_cut (P : Nat → Bool) (f : Nat → Nat) (n : Nat) : ∀ k, mxS (cutS P n) f k = mxS P f (min k n)
  | 0 => by simp [mxS]
  | k + 1 => by
    rw [mxS, mx_cut P f n k]
    by_cases c : k < n
    · rw [cut_lt c, show min (k + 1) n = min k n + 1 by omega, mxS, show min k n = k by omega]
    · rw [cut_ge (by omega), if_neg (by simp), show min (k + 1) n = min k n by omega]
/-- the i-th of those that are so -/
def wS (P : Nat → Bool) (n i : Nat) : Option Nat := ff (fun s => cutS P n s && decide (cn (cutS P n) s = i)) 40 0
section Q2
variable {G : xG} {M : xM} {Q : Option Value → xH → Prop}
theorem isIn_cut {d : Nat} {h : xH} {y : Int64} {x : Int32} (P : Nat → Bool) (n i : Nat) (hn : n ≤ 40) (hy : y = lN (bts P n)) (hx : x = nI i) (hi : i < 62) (q1 : cutS P n i = true → Q (some (.int 1)) h) (q0 : cutS P n i = false → Q (some (.int 0)) h) : CW G d jX8_isIn [.long y, .int x] h Q :=
  c_isIn (bts P n) i hy (bts62 P (by omega)) hx hi (fun c => q1 (by rw [tb_bts] at c; exact c)) (fun c => q0 (by rw [tb_bts] at c; exact c))
theorem c_whichL (P : Nat → Bool) (n i : Nat) (hn : n ≤ 40) {r : Int64} (hr : r = lN (bts P n)) (qs : ∀ w, wS P n i = some w → Q (some (.int (nI w))) (HH M)) (qn : wS P n i = none → Q (some (.int (nF 3))) (HH (fc 3 M))) (hi : i < 40) : Ev G 11 jX8_which 48 [some (.ref 0), none, none, none, some (.long r), none, some (.int (nI i)), some (.int (nI 0))] [] (HH M) 0 0 Q := by
  refine dn (E := fun s => cn (cutS P n) s ≤ i → ff (fun s => cutS P n s && decide (cn (cutS P n) s = i)) (40 - s) s = wS P n i → Ev G 11 jX8_which 48 [some (.ref 0), none, none, none, some (.long r), none, some (.int (nI (i - cn (cutS P n) s))), some (.int (nI s))] [] (HH M) 0 0 Q) (Nat.zero_le 40) (fun _ hf => ?_) (fun s _ h2 ih hc hf => ?_) (Nat.zero_le _) rfl
  · refine Ev_wp fX8_which rfl ?_
    refine c_fin3 ?_
    exact qn hf.symm
  · refine Ev_wp fX8_which rfl ?_
    refine xelse (nI_ge (b := 40) h2 (by decide)) ?_
    rw [ff_step _ h2] at hf
    rw [nI_succ] at ih
    refine isIn_cut P n s hn hr rfl (by omega) (fun c => ?_) (fun c => ?_)
    · refine xeq (i - cn (cutS P n) s) 0 rfl rfl (by omega) (by decide) (fun c2 => ?_) (fun c2 => ?_)
      · rw [if_pos (by simp [c, show cn (cutS P n) s = i by omega])] at hf
        exact qs s hf.symm
      · rw [if_neg (by simp [show ¬ cn (cutS P n) s = i by omega])] at hf
        have h3 := ih (by rw [cn_s1 c]; omega) hf
        rw [cn_s1 c, show i - (cn (cutS P n) s + 1) = i - cn (cutS P n) s - 1 by omega] at h3
        rw [show nI (i - cn (cutS P n) s - 1) = nI (i - cn (cutS P n) s) + (-1) by
          rw [← pk_m1, show i - cn (cutS P n) s - 1 + 1 = i - cn (cutS P n) s by omega]] at h3
        exact h3
    · rw [if_neg (by simp [c])] at hf
      have h3 := ih (by rw [cn_s0 c]; exact hc) hf
      rw [cn_s0 c] at h3
      exact h3
theorem m_whichL {N : Nat → Int32} (hw : Wf N) {M0 : xM} (h0 : SR N M0) (hn0 : M0 60 = N) {x y z : Int32} (a D t i : Nat) (ha : a < 10) (hD : D < 100) (ht : t < 24) (hi : i < 40) (hx : x = nI a) (w1 : y / 100 = nI D) (w2 : y - y / 100 * 100 = nI t) (hz : z = nI i) (qs : ∀ w, wS (htS N a D t) (sN N) i = some w → ∀ M', Rm N M0 M' → Q (some (.int (nI w))) (HH M')) (qn : wS (htS N a D t) (sN N) i = none → ∀ M', Rm N M0 M' → Iv 4 M' ∧ ∀ M2, Iv 0 M2 → Q (some (.int (nF 3))) (HH M2)) : Ev G 11 jX9_which 37 [some (.ref 59), some (.int x), some (.int y), some (.int z), some (.int (-1)), some (.int (nI 0))] [] (HH M0) 0 0 Q := by
  have h40 := hw.2.1.2
  have hge : ∀ M', Rm N M0 M' → M' 60 1 ≤ nI (sN N) := fun M' hm => by rw [hm.n hn0, hw.2.1.1]; exact Int32.le_refl _
  have hlt : ∀ M', Rm N M0 M' → ∀ i, i < sN N → ¬ M' 60 1 ≤ nI i := fun M' hm i hi => by rw [hm.n hn0, hw.2.1.1]; exact nI_ge hi (by omega)
  refine dn (E := fun s => ∀ M', Rm N M0 M' → ∀ v, v + 1 = nI (cn (cutS (htS N a D t) (sN N)) s) → cn (cutS (htS N a D t) (sN N)) s ≤ i → ff (fun s => cutS (htS N a D t) (sN N) s && decide (cn (cutS (htS N a D t) (sN N)) s = i)) (40 - s) s = wS (htS N a D t) (sN N) i → Ev G 11 jX9_which 37 [some (.ref 59), some (.int x), some (.int y), some (.int z), some (.int v), some (.int (nI s))] [] (HH M') 0 0 Q) (Nat.zero_le (sN N)) (fun M' hm v hv _ hf => ?_) (fun s _ h2 ih M' hm v hv hc hf => ?_) M0 (Rm.refl h0) (-1) (show (-1 : Int32) + 1 = nI 0 by decide) (Nat.zero_le _) rfl
  · refine Ev_wp fX9_which rfl ?_
    refine xif (hge M' hm) ?_
    have hz2 := qn (by
      rw [← hf]
      exact ff_no (fun t ht => by rw [cut_ge ht]; rfl)) M' hm
    exact m_fin3 hz2.1 hz2.2
  · refine Ev_wp fX9_which rfl ?_
    refine xelse (hlt M' hm s h2) ?_
    rw [ff_step _ (by omega)] at hf
    rw [nI_succ] at ih
    refine m_isHeardAt (hm.n hn0) hw hm.2.2 s a D t h2 ha hD ht rfl hx w1 w2 (fun M'' hm2 c => ?_) (fun M'' hm2 c => ?_)
    · have c' : cutS (htS N a D t) (sN N) s = true := by rw [cut_lt h2]; exact c
      refine xeq (cn (cutS (htS N a D t) (sN N)) s) i hv hz (by omega) (by omega) (fun c2 => ?_) (fun c2 => ?_)
      · rw [if_pos (by simp [c', c2])] at hf
        exact qs s hf.symm M'' (hm.trans hm2)
      · rw [if_neg (by simp [c2])] at hf
        exact ih M'' (hm.trans hm2) (v + 1) (by rw [hv, cn_s1 c', nI_succ]) (by rw [cn_s1 c']; omega) hf
    · have c' : cutS (htS N a D t) (sN N) s = false := by rw [cut_lt h2]; exact c
      have hne : ¬ v + 0 = z := fun h => by
        rw [Int32.add_zero] at h
        rw [h, hz, ← nI_succ, nI_eq (by omega) (by omega)] at hv
        omega
      refine xelse hne ?_
      rw [if_neg (by simp [c'])] at hf
      exact ih M'' (hm.trans hm2) (v + 0) (by rw [Int32.add_zero, hv, cn_s0 c']) (by rw [cn_s0 c']; exact hc) hf
theorem st_heard (I : Iv 0 M) (x y : Int32) (q : ∀ r M1, Aft G jX9_heard [.ref 59, .int x, .int y] r M1 → Q (some (.int r)) (HH M1)) : CW G 11 jX8_heard [.ref 0, .int x, .int y] (HH M) Q := by
  have hw := I.1
  have hp := I.2.1
  have hsr := I.2.2.2.2.1
  have h40 := hw.2.1.2
  have hn : M 60 = M 60 := rfl
  refine CW_wp fX8_heard rfl rfl rfl ?_
  refine c_isPlace x (fun a ha ea => ?_) (fun na => ?_)
  · refine c_isWhen y (fun D t hD ht ew => ?_) (fun nw => ?_)
    · have w1 : y / 100 = nI D := by rw [ew]; exact (when_div D t hD ht).1
      have w2 : y - y / 100 * 100 = nI t := by rw [ew]; exact (when_div D t hD ht).2

      refine c_heardSet hp hw a D t ha hD ht ea ew (fun r hr => ?_)
      refine c_bitL (htS (M 60) a D t) (sN (M 60)) h40 hr ?_
      refine q _ _ (fun Q1 q1 => ?_)
      refine CW_wp fX9_heard rfl rfl rfl ?_
      refine m_isPlace_t a ha ea ?_
      refine m_isWhen_t D t hD ht ew ?_
      refine m_heardAt hn hw hsr a D t ha hD ht ea w1 w2 (fun M' hm r2 hr2 => ?_)
      subst hr2
      exact q1 _ (I.rm hm)
    · refine c_fin0 ?_
      refine q _ _ (fun Q1 q1 => ?_)
      refine CW_wp fX9_heard rfl rfl rfl ?_
      refine m_isPlace_t a ha ea ?_
      refine m_isWhen_f nw ?_
      exact m_fin0 (iv_fc I) q1
  · refine c_fin0 ?_
    refine q _ _ (fun Q1 q1 => ?_)
    refine CW_wp fX9_heard rfl rfl rfl ?_
    refine m_isPlace_f na ?_
    exact m_fin0 (iv_fc I) q1
theorem st_which (I : Iv 0 M) (x y z : Int32) (q : ∀ r M1, Aft G jX9_which [.ref 59, .int x, .int y, .int z] r M1 → Q (some (.int r)) (HH M1)) : CW G 11 jX8_which [.ref 0, .int x, .int y, .int z] (HH M) Q := by
  have hw := I.1
  have hp := I.2.1
  have hsr := I.2.2.2.2.1
  have h40 := hw.2.1.2
  have hn : M 60 = M 60 := rfl
  refine CW_wp fX8_which rfl rfl rfl ?_
  refine c_isPlace x (fun a ha ea => ?_) (fun na => ?_)
  · refine c_isWhen y (fun D t hD ht ew => ?_) (fun nw => ?_)
    · have w1 : y / 100 = nI D := by rw [ew]; exact (when_div D t hD ht).1
      have w2 : y - y / 100 * 100 = nI t := by rw [ew]; exact (when_div D t hD ht).2

      rcases n_ix z 40 (by decide) with ⟨i, hi, ez⟩ | ⟨hz, nz⟩
      · refine xelse (by rw [ez]; exact nI_pos (by omega)) ?_
        refine xif (by rw [ez]; exact nI_lt (b := 40) hi (by decide)) ?_
        refine c_heardSet hp hw a D t ha hD ht ea ew (fun r hr => ?_)
        rw [ez]
        refine c_whichL (htS (M 60) a D t) (sN (M 60)) i h40 hr (fun w hw2 => ?_) (fun hw2 => ?_) hi
        · skip
          refine q _ _ (fun Q1 q1 => ?_)
          refine CW_wp fX9_which rfl rfl rfl ?_
          refine m_isPlace_t a ha ea ?_
          refine m_isWhen_t D t hD ht ew ?_
          refine m_within_t i 0 39 ez rfl rfl (Nat.zero_le _) (by omega) (by decide) ?_
          exact m_whichL hw hsr hn a D t i ha hD ht hi ea w1 w2 ez (fun w' h' M' hm => by
            have e : w = w' := by rw [hw2] at h'; exact Option.some.inj h'
            subst e
            exact q1 _ (I.rm hm)) (fun h' => by rw [hw2] at h'; cases h')
        · refine q _ _ (fun Q1 q1 => ?_)
          refine CW_wp fX9_which rfl rfl rfl ?_
          refine m_isPlace_t a ha ea ?_
          refine m_isWhen_t D t hD ht ew ?_
          refine m_within_t i 0 39 ez rfl rfl (Nat.zero_le _) (by omega) (by decide) ?_
          exact m_whichL hw (iv_fc (k := 3) I).2.2.2.2.1 (show fc 3 M 60 = M 60 from rfl) a D t i ha hD ht hi ea w1 w2 ez (fun w' h' => by rw [hw2] at h'; cases h') (fun _ M' hm => ⟨(iv_fc (k := 3) I).rm hm, q1⟩)
      · refine xite (fun c => ?_) (fun c => ?_)
        · refine c_fin0 ?_
          refine q _ _ (fun Q1 q1 => ?_)
          refine CW_wp fX9_which rfl rfl rfl ?_
          refine m_isPlace_t a ha ea ?_
          refine m_isWhen_t D t hD ht ew ?_
          refine m_within_f 0 39 rfl rfl (by decide) (by decide) (fun k _ hk => nz k (by omega)) ?_
          exact m_fin0 (iv_fc I) q1
        · refine xelse (by exact Int32.not_lt.mpr (hz.resolve_left c)) ?_
          refine c_fin0 ?_
          refine q _ _ (fun Q1 q1 => ?_)
          refine CW_wp fX9_which rfl rfl rfl ?_
          refine m_isPlace_t a ha ea ?_
          refine m_isWhen_t D t hD ht ew ?_
          refine m_within_f 0 39 rfl rfl (by decide) (by decide) (fun k _ hk => nz k (by omega)) ?_
          exact m_fin0 (iv_fc I) q1
    · refine c_fin0 ?_
      refine q _ _ (fun Q1 q1 => ?_)
      refine CW_wp fX9_which rfl rfl rfl ?_
      refine m_isPlace_t a ha ea ?_
      refine m_isWhen_f nw ?_
      exact m_fin0 (iv_fc I) q1
  · refine c_fin0 ?_
    refine q _ _ (fun Q1 q1 => ?_)
    refine CW_wp fX9_which rfl rfl rfl ?_
    refine m_isPlace_f na ?_
    exact m_fin0 (iv_fc I) q1
theorem st_words (I : Iv 0 M) (x y : Int32) (q : ∀ r M1, Aft G jX9_words [.ref 59, .int x, .int y] r M1 → Q (some (.int r)) (HH M1)) : CW G 11 jX8_words [.ref 0, .int x, .int y] (HH M) Q := by
  have hw := I.1
  have hp := I.2.1
  have hsr := I.2.2.2.2.1
  have h40 := hw.2.1.2
  have hn : M 60 = M 60 := rfl
  refine CW_wp fX8_words rfl rfl rfl ?_
  refine c_isPlace x (fun a ha ea => ?_) (fun na => ?_)
  · refine c_isWhen y (fun D t hD ht ew => ?_) (fun nw => ?_)
    · have w1 : y / 100 = nI D := by rw [ew]; exact (when_div D t hD ht).1
      have w2 : y - y / 100 * 100 = nI t := by rw [ew]; exact (when_div D t hD ht).2
      have hge : ∀ M', Rm (M 60) M M' → M' 60 1 ≤ nI (sN (M 60)) := fun M' hm => by rw [hm.n hn, hw.2.1.1]; exact Int32.le_refl _
      have hlt : ∀ M', Rm (M 60) M M' → ∀ i, i < sN (M 60) → ¬ M' 60 1 ≤ nI i := fun M' hm i hi => by rw [hm.n hn, hw.2.1.1]; exact nI_ge hi (by omega)

      refine c_heardSet hp hw a D t ha hD ht ea ew (fun r hr => ?_)
      have key : Ev G 11 jX8_words 37 [some (.ref 0), none, none, some (.long r), none, some (.int (nI (wdS (cutS (htS (M 60) a D t) (sN (M 60))) (fun s => sF (M 60) s 1) 0))), some (.int (nI 0))] [] (HH M) 0 0 Q := by
        refine dn (E := fun s => Ev G 11 jX8_words 37 [some (.ref 0), none, none, some (.long r), none, some (.int (nI (wdS (cutS (htS (M 60) a D t) (sN (M 60))) (fun s => sF (M 60) s 1) s))), some (.int (nI s))] [] (HH M) 0 0 Q) (Nat.zero_le 40) ?_ (fun s _ h2 ih => ?_)
        · refine Ev_wp fX8_words rfl ?_
          rw [wd_cut, show min 40 (sN (M 60)) = sN (M 60) by omega]
          refine q _ _ (fun Q1 q1 => ?_)
          refine CW_wp fX9_words rfl rfl rfl ?_
          refine m_isPlace_t a ha ea ?_
          refine m_isWhen_t D t hD ht ew ?_
          refine dn (E := fun s => ∀ M', Rm (M 60) M M' → Ev G 11 jX9_words 26 [some (.ref 59), some (.int x), some (.int y), some (.int (nI (wdS (htS (M 60) a D t) (fun s => sF (M 60) s 1) s))), some (.int (nI s))] [] (HH M') 0 0 Q1) (Nat.zero_le (sN (M 60))) (fun M' hm => ?_) (fun s _ h2 ih M' hm => ?_) M (Rm.refl hsr)
          · refine Ev_wp fX9_words rfl ?_
            refine xif (hge M' hm) ?_
            exact q1 _ (I.rm hm)
          · refine Ev_wp fX9_words rfl ?_
            refine xelse (hlt M' hm s h2) ?_
            rw [nI_succ] at ih
            have ws := (hw.2.2.2.2.2.2.2.1 s h2).2.1
            refine m_isHeardAt (hm.n hn) hw hm.2.2 s a D t h2 ha hD ht rfl ea w1 w2 (fun M'' hm2 c => ?_) (fun M'' hm2 c => ?_)
            · refine m_of (hm2.n (hm.n hn)) hw s 1 h2 (by decide) rfl rfl (fun r1 hr1 => ?_)
              have h3 := ih M'' (hm.trans hm2)
              rw [wdS, if_pos c, ← nx_or, ← ish hr1 (by omega)] at h3
              exact h3
            · have h3 := ih M'' (hm.trans hm2)
              rw [wdS, if_neg (by simp [c]), ← Nat.or_zero (wdS _ _ _), ← nx_or] at h3
              exact h3
        · refine Ev_wp fX8_words rfl ?_
          refine xelse (nI_ge (b := 40) h2 (by decide)) ?_
          rw [nI_succ, wdS] at ih
          refine isIn_cut (htS (M 60) a D t) (sN (M 60)) s h40 hr rfl (by omega) (fun c => ?_) (fun c => ?_)
          · have hs : s < sN (M 60) := by
              simp [cutS] at c
              exact c.1
            have ws := (hw.2.2.2.2.2.2.2.1 s hs).2.1
            refine xix (n := 40) s rfl h2 (by decide) (fun e => ?_)
            rw [e, show M 6 s = nI (sF (M 60) s 1) from hp.say hw hs (show 1 < 6 by decide)]
            rw [if_pos c, ← nx_or, ← nx_shl _ (by omega)] at ih
            exact ih
          · rw [if_neg (by simp [c])] at ih
            exact ih
      exact key
    · refine c_fin0 ?_
      refine q _ _ (fun Q1 q1 => ?_)
      refine CW_wp fX9_words rfl rfl rfl ?_
      refine m_isPlace_t a ha ea ?_
      refine m_isWhen_f nw ?_
      exact m_fin0 (iv_fc I) q1
  · refine c_fin0 ?_
    refine q _ _ (fun Q1 q1 => ?_)
    refine CW_wp fX9_words rfl rfl rfl ?_
    refine m_isPlace_f na ?_
    exact m_fin0 (iv_fc I) q1
theorem st_plain (I : Iv 0 M) (x y : Int32) (q : ∀ r M1, Aft G jX9_plain [.ref 59, .int x, .int y] r M1 → Q (some (.int r)) (HH M1)) : CW G 11 jX8_plain [.ref 0, .int x, .int y] (HH M) Q := by
  have hw := I.1
  have hp := I.2.1
  have hsr := I.2.2.2.2.1
  have h40 := hw.2.1.2
  have hn : M 60 = M 60 := rfl
  refine CW_wp fX8_plain rfl rfl rfl ?_
  refine c_isPlace x (fun a ha ea => ?_) (fun na => ?_)
  · refine c_isWhen y (fun D t hD ht ew => ?_) (fun nw => ?_)
    · have w1 : y / 100 = nI D := by rw [ew]; exact (when_div D t hD ht).1
      have w2 : y - y / 100 * 100 = nI t := by rw [ew]; exact (when_div D t hD ht).2
      have hge : ∀ M', Rm (M 60) M M' → M' 60 1 ≤ nI (sN (M 60)) := fun M' hm => by rw [hm.n hn, hw.2.1.1]; exact Int32.le_refl _
      have hlt : ∀ M', Rm (M 60) M M' → ∀ i, i < sN (M 60) → ¬ M' 60 1 ≤ nI i := fun M' hm i hi => by rw [hm.n hn, hw.2.1.1]; exact nI_ge hi (by omega)

      have hle : ∀ s, s < sN (M 60) → sF (M 60) s 2 ≤ 9 := fun s hs => (hw.2.2.2.2.2.2.2.1 s hs).2.2.2.1
      have hb9 : ∀ n, n ≤ sN (M 60) → mxS (htS (M 60) a D t) (fun s => sF (M 60) s 2) n ≤ 9 := fun n hn2 => mxS_le (fun i hi => hle i (by omega))
      have hml : ∀ M0, SR (M 60) M0 → M0 60 = M 60 → ∀ Q1 : Option Value → xH → Prop, (∀ M', Rm (M 60) M0 M' → ∀ v, v = nI (mxS (htS (M 60) a D t) (fun s => sF (M 60) s 2) (sN (M 60))) → (if v = 0 then (Iv 4 M' ∧ ∀ M2, Iv 0 M2 → Q1 (some (.int (nF 3))) (HH M2)) else Q1 (some (.int v)) (HH M'))) → Ev G 11 jX9_plain 26 [some (.ref 59), some (.int x), some (.int y), some (.int (nI 0)), some (.int (nI 0))] [] (HH M0) 0 0 Q1 := fun M0 h0 hn0 Q1 qq => by
        have hge : ∀ M', Rm (M 60) M0 M' → M' 60 1 ≤ nI (sN (M 60)) := fun M' hm => by rw [hm.n hn0, hw.2.1.1]; exact Int32.le_refl _
        have hlt : ∀ M', Rm (M 60) M0 M' → ∀ i, i < sN (M 60) → ¬ M' 60 1 ≤ nI i := fun M' hm i hi => by rw [hm.n hn0, hw.2.1.1]; exact nI_ge hi (by omega)
        refine dn (E := fun s => ∀ M', Rm (M 60) M0 M' → Ev G 11 jX9_plain 26 [some (.ref 59), some (.int x), some (.int y), some (.int (nI (mxS (htS (M 60) a D t) (fun s => sF (M 60) s 2) s))), some (.int (nI s))] [] (HH M') 0 0 Q1) (Nat.zero_le (sN (M 60))) (fun M' hm => ?_) (fun s _ h2 ih M' hm => ?_) M0 (Rm.refl h0)
        · refine Ev_wp fX9_plain rfl ?_
          refine xif (hge M' hm) ?_
          have h3 := qq M' hm _ rfl
          refine xite (fun c => ?_) (fun c => ?_)
          · rw [if_pos c] at h3
            exact m_fin3 h3.1 h3.2
          · rw [if_neg c] at h3
            exact h3
        · refine Ev_wp fX9_plain rfl ?_
          refine xelse (hlt M' hm s h2) ?_
          rw [nI_succ] at ih
          refine m_isHeardAt (hm.n hn0) hw hm.2.2 s a D t h2 ha hD ht rfl ea w1 w2 (fun M'' hm2 c => ?_) (fun M'' hm2 c => ?_)
          · refine m_of (hm2.n (hm.n hn0)) hw s 2 h2 (by decide) rfl rfl (fun r1 hr1 => ?_)
            have h3 := ih M'' (hm.trans hm2)
            have := hb9 s (by omega)
            have := hle s h2
            rw [mxS, if_pos c, ← nI_max _ _ (by omega) (by omega), ← hr1] at h3
            exact h3
          · have h3 := ih M'' (hm.trans hm2)
            rw [mxS, if_neg (by simp [c])] at h3
            exact h3
      refine c_heardSet hp hw a D t ha hD ht ea ew (fun r hr => ?_)
      refine dn (E := fun s => Ev G 11 jX8_plain 37 [some (.ref 0), none, none, some (.long r), none, some (.int (nI (mxS (cutS (htS (M 60) a D t) (sN (M 60))) (fun s => sF (M 60) s 2) s))), some (.int (nI s))] [] (HH M) 0 0 Q) (Nat.zero_le 40) ?_ (fun s _ h2 ih => ?_)
      · refine Ev_wp fX8_plain rfl ?_
        have h9 := hb9 (sN (M 60)) (Nat.le_refl _)
        rw [mx_cut, show min 40 (sN (M 60)) = sN (M 60) by omega]
        refine xeq (mxS (htS (M 60) a D t) (fun s => sF (M 60) s 2) (sN (M 60))) 0 rfl rfl (by omega) (by decide) (fun c => ?_) (fun c => ?_)
        · refine c_fin3 ?_
          refine q _ _ (fun Q1 q1 => ?_)
          refine CW_wp fX9_plain rfl rfl rfl ?_
          refine m_isPlace_t a ha ea ?_
          refine m_isWhen_t D t hD ht ew ?_
          refine hml _ (iv_fc (k := 3) I).2.2.2.2.1 rfl Q1 (fun M' hm v hv => ?_)
          rw [if_pos (by rw [hv, c]; rfl)]
          exact ⟨(iv_fc (k := 3) I).rm hm, q1⟩
        · refine q _ _ (fun Q1 q1 => ?_)
          refine CW_wp fX9_plain rfl rfl rfl ?_
          refine m_isPlace_t a ha ea ?_
          refine m_isWhen_t D t hD ht ew ?_
          refine hml _ hsr rfl Q1 (fun M' hm v hv => ?_)
          rw [if_neg (by rw [hv]; exact nI_ne0 (by omega) (by omega)), hv]
          exact q1 _ (I.rm hm)
      · refine Ev_wp fX8_plain rfl ?_
        refine xelse (nI_ge (b := 40) h2 (by decide)) ?_
        rw [nI_succ, mxS] at ih
        refine isIn_cut (htS (M 60) a D t) (sN (M 60)) s h40 hr rfl (by omega) (fun c => ?_) (fun c => ?_)
        · have hs : s < sN (M 60) := by
            simp [cutS] at c
            exact c.1
          refine xix (n := 40) s rfl h2 (by decide) (fun e => ?_)
          have h5 := hle s hs
          have h6 := hb9 (min s (sN (M 60))) (by omega)
          rw [← mx_cut] at h6
          rw [if_pos c, ← nI_max _ _ (by omega) (by omega)] at ih
          rw [e, show M 7 s = nI (sF (M 60) s 2) from hp.say hw hs (show 2 < 6 by decide)]
          exact ih
        · rw [if_neg (by simp [c])] at ih
          exact ih
    · refine c_fin0 ?_
      refine q _ _ (fun Q1 q1 => ?_)
      refine CW_wp fX9_plain rfl rfl rfl ?_
      refine m_isPlace_t a ha ea ?_
      refine m_isWhen_f nw ?_
      exact m_fin0 (iv_fc I) q1
  · refine c_fin0 ?_
    refine q _ _ (fun Q1 q1 => ?_)
    refine CW_wp fX9_plain rfl rfl rfl ?_
    refine m_isPlace_f na ?_
    exact m_fin0 (iv_fc I) q1
end Q2
