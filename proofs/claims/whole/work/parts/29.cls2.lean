/-! The class's further questions. -/
def agO (N : Nat → Int32) (own D : Nat) : Nat := (D - own) + rs N (own + 1) (D - own)
def opS (N : Nat → Int32) (p q : Nat) : Bool := decide (p = q) || wy N p q
theorem agO_s (N : Nat → Int32) {own D : Nat} (h : own ≤ D) : agO N own (D + 1) = agO N own D + 1 + vN N (4 + (D + 1)) := by
  unfold agO
  rw [show D + 1 - own = (D - own) + 1 by omega, rs, show own + 1 + (D - own) = D + 1 by omega]
  omega
theorem agO_le (N : Nat → Int32) (hw : Wf N) {own D : Nat} (h : own ≤ D) (hD : D < 100) : agO N own D ≤ 200 := by
  have := rs_le N hw (own + 1) (D - own) (by omega)
  unfold agO; omega
theorem bts_0 (n : Nat) : bts (fun _ => false) n = 0 := (bts_eq (fun i => by simp)).symm
theorem anyN_s (P : Nat → Bool) (n : Nat) : anyN P (n + 1) = (anyN P n || P n) := rfl
section CM
variable {G : xG} {d : Nat} {M : xM} {N : Nat → Int32} {Q : Option Value → xH → Prop}
theorem c_has (hp : PV 1 N M) {x y : Int32} (a b : Nat) (ha : a < 10) (hb : b < 10) (hx : x = nI a) (hy : y = nI b) (q1 : wy N a b = true → Q (some (.int 1)) (HH M)) (q0 : wy N a b = false → Q (some (.int 0)) (HH M)) : CW G (d + 1) jX7_has [.ref 2, .int x, .int y] (HH M) Q := by
  subst hx hy
  have hnear : ∀ p, p < 10 → M 3 p = nI (bts (wy N p) 10) := hp.2.2.2.2.2.1
  refine CW_wp fX7_has rfl rfl rfl ?_
  refine c_isPlace _ (fun p hp e => ?_) (fun e => absurd rfl (e a ha))
  refine xix (n := 10) a rfl ha (by decide) (fun e => ?_)
  rw [e, hnear a ha]
  have hb2 := bts31 (wy N a) (show 10 ≤ 30 by decide)
  refine c_isIn (bts (wy N a) 10) b (nI_l hb2) (by omega) rfl (by omega) (fun c => q1 ?_) (fun c => q0 ?_)
  · rw [tb_bts] at c
    simpa [hb] using c
  · rw [tb_bts] at c
    simpa [hb] using c
theorem c_isOpen (hp : PV 1 N M) {x y : Int32} (a b : Nat) (ha : a < 10) (hb : b < 10) (hx : x = nI a) (hy : y = nI b) (q1 : opS N a b = true → Q (some (.int 1)) (HH M)) (q0 : opS N a b = false → Q (some (.int 0)) (HH M)) : CW G (d + 2) jX7_isOpen [.ref 2, .int x, .int y] (HH M) Q := by
  refine CW_wp fX7_isOpen rfl rfl rfl ?_
  refine xeq a b hx hy (by omega) (by omega) (fun c => q1 (by simp [opS, c])) (fun c => ?_)
  exact c_has hp a b ha hb hx hy (fun c2 => q1 (by simp [opS, c2])) (fun c2 => q0 (by simp [opS, c, c2]))
theorem c_placeOf (hp : PV 1 N M) {x y : Int32} (p t : Nat) (hpl : p < 6) (ht : t < 24) (hx : x = nI p) (hy : y = nI t) (q : Q (some (.int (wh N p t))) (HH M)) : CW G d jX1_placeOf [.ref 11, .int x, .int y] (HH M) Q := by
  have hpp : ∀ q, q < 144 → M 12 q = N (444 + q) := hp.2.2.2.2.2.2.2.1
  refine CW_wp fX1_placeOf rfl rfl rfl ?_
  refine xix (n := 144) (p * 24 + t) (ia (im hx rfl) hy) (by omega) (by decide) (fun e => ?_)
  rw [e, hpp _ (by omega), Nat.mul_comm p 24]
  exact q
theorem c_numberAt (hp : PV 1 N M) {x y : Int32} (t : Nat) (ht : t < 24) (hy : y = nI t) (q : ∀ r, r = nI (cn (fun p => decide (wh N p t = x)) 6) → Q (some (.int r)) (HH M)) : CW G (d + 1) jX1_numberAt [.ref 11, .int x, .int y] (HH M) Q := by
  refine CW_wp fX1_numberAt rfl rfl rfl ?_
  refine dn (E := fun i => Ev G (d + 1) jX1_numberAt 5 [some (.ref 11), some (.int x), some (.int y), some (.int (nI (cn (fun p => decide (wh N p t = x)) i))), some (.int (nI i))] [] (HH M) 0 0 Q) (Nat.zero_le 6) ?_ (fun i _ h2 ih => ?_)
  · refine Ev_wp fX1_numberAt rfl ?_
    exact id (q _ rfl)
  · refine Ev_wp fX1_numberAt rfl ?_
    refine xelse (nI_ge h2 (by decide)) ?_
    refine c_placeOf hp i t (by omega) ht rfl hy ?_
    rw [nI_succ, cn] at ih
    refine xite (fun c => ?_) (fun c => ?_)
    · rw [if_pos (by simp [c]), nI_succ] at ih
      exact ih
    · rw [if_neg (by simp [c]), Nat.add_zero] at ih
      exact ih
/-- someone is at a PLACE in an HOUR -/
def tkS (N : Nat → Int32) (t p : Nat) : Bool := anyN (fun k => decide (wh N k t = nI p)) 6
theorem c_placesTaken (hp : PV 1 N M) (hw : Wf N) {y : Int32} (t : Nat) (ht : t < 24) (hy : y = nI t) (q : ∀ r, r = nI (bts (tkS N t) 10) → Q (some (.int r)) (HH M)) : CW G (d + 1) jX1_placesTaken [.ref 11, .int y] (HH M) Q := by
  refine CW_wp fX1_placesTaken rfl rfl rfl ?_
  have key : Ev G (d + 1) jX1_placesTaken 4 [some (.ref 11), some (.int y), some (.int (nI (bts (fun p => anyN (fun k => decide (wh N k t = nI p)) 0) 10))), some (.int (nI 0)), none] [] (HH M) 0 0 Q := by
    refine dn (E := fun i => Ev G (d + 1) jX1_placesTaken 4 [some (.ref 11), some (.int y), some (.int (nI (bts (fun p => anyN (fun k => decide (wh N k t = nI p)) i) 10))), some (.int (nI i)), none] [] (HH M) 0 0 Q) (Nat.zero_le 6) ?_ (fun i _ h2 ih => ?_)
    · refine Ev_wp fX1_placesTaken rfl ?_
      exact id (q _ rfl)
    · refine Ev_wp fX1_placesTaken rfl ?_
      refine xelse (nI_ge h2 (by decide)) ?_
      refine c_placeOf hp i t (by omega) ht rfl hy ?_
      rw [nI_succ] at ih
      rcases wh_c hw (show i < 6 by omega) ht with e | ⟨a, ha, e⟩
      · rw [e]
        rw [bts_congr (P' := fun p => anyN (fun k => decide (wh N k t = nI p)) i) (fun p hp2 => by
          show (anyN (fun k => decide (wh N k t = nI p)) i || decide (wh N i t = nI p)) = _
          rw [e, decide_eq_false (fun z => absurd (z ▸ nI_pos' (show p < 2 ^ 31 by omega)) (by decide)), Bool.or_false])] at ih
        exact ih
      · rw [e]
        refine xelse (fun z => absurd (z ▸ nI_pos' (show a < 2 ^ 31 by omega)) (by decide)) ?_
        have e4 : nI (bts (fun p => anyN (fun k => decide (wh N k t = nI p)) i) 10) ||| (1 : Int32) <<< (nI a &&& 31) = nI (bts (fun p => anyN (fun k => decide (wh N k t = nI p)) (i + 1)) 10) := by
          rw [nx_shl a (by omega), nx_or, bts_one a 10 ha, bts_or]
          congr 1
          refine bts_congr (fun p hp2 => ?_)
          show (anyN (fun k => decide (wh N k t = nI p)) i || decide (a = p)) = (anyN (fun k => decide (wh N k t = nI p)) i || decide (wh N i t = nI p))
          rw [e]
          congr 1
          exact decide_eq_decide.mpr (nI_eq (by omega) (by omega)).symm
        rw [← e4] at ih
        exact ih
  rw [show bts (fun p => anyN (fun k => decide (wh N k t = nI p)) 0) 10 = 0 from bts_0 10] at key
  exact key
theorem c_loudPlaces (hp : PV 1 N M) (hw : Wf N) {x : Int32} (D t : Nat) (hD : D < 100) (ht : t < 24) (hx : x = nI (100 * D + t)) (q : ∀ r, r = nI (bts (fun p => anyN (htS N p D t) (sN N)) 10) → Q (some (.int r)) (HH M)) : CW G (d + 5) jX5_loudPlaces [.ref 1, .int x] (HH M) Q := by
  subst hx
  have hn := hw.2.1.2
  have e1 : M 4 0 = nI (sN N) := hp.2.1.trans hw.2.1.1
  obtain ⟨w1, w2⟩ := when_div D t hD ht
  refine CW_wp fX5_loudPlaces rfl rfl rfl ?_
  have key : Ev G (d + 5) jX5_loudPlaces 4 [some (.ref 1), some (.int (nI (100 * D + t))), some (.int (nI (bts (fun p => anyN (htS N p D t) 0) 10))), some (.int (nI 0))] [] (HH M) 0 0 Q := by
    refine dn (E := fun i => Ev G (d + 5) jX5_loudPlaces 4 [some (.ref 1), some (.int (nI (100 * D + t))), some (.int (nI (bts (fun p => anyN (htS N p D t) i) 10))), some (.int (nI i))] [] (HH M) 0 0 Q) (Nat.zero_le (sN N)) ?_ (fun i _ h2 ih => ?_)
    · refine Ev_wp fX5_loudPlaces rfl ?_
      exact xif (by rw [e1]; exact Int32.le_refl _) (by exact q _ rfl)
    · refine Ev_wp fX5_loudPlaces rfl ?_
      refine xelse (by rw [e1]; exact nI_ge h2 (by omega)) ?_
      rw [nI_succ] at ih
      have wa := hw.2.2.2.2.2.2.2.1 i h2
      refine xelse (nin (n := 40) (by omega) (by decide)) ?_
      rw [nI_clamp (by omega)]
      refine c_hourOf _ ?_
      rw [w2]
      have no : (∀ p, htS N p D t i = false) → bts (fun p => anyN (htS N p D t) (i + 1)) 10 = bts (fun p => anyN (htS N p D t) i) 10 := fun hz => bts_congr (fun p _ => by rw [anyN_s, hz p, Bool.or_false])
      refine xeq (sF N i 4) t (hp.say hw h2 (show 4 < 6 by decide)) rfl (by omega) (by omega) (fun c => ?_) (fun c => ?_)
      · refine c_dayOf _ ?_
        rw [w1]
        refine c_isHeard hp hw i D h2 (by omega) rfl rfl (fun c2 => ?_) (fun c2 => ?_)
        · refine c_around hp hw i h2 rfl (fun r hr => ?_)
          subst hr
          have e4 : nI (bts (fun p => anyN (htS N p D t) i) 10) ||| nI (bts (arS N i) 10) = nI (bts (fun p => anyN (htS N p D t) (i + 1)) 10) := by
            rw [nx_or, bts_or]
            congr 1
            exact bts_congr (fun p _ => by rw [anyN_s]; simp [htS, haS, c, c2])
          rw [← e4] at ih
          exact ih
        · rw [no (fun p => by simp [htS, haS, c2])] at ih
          exact ih
      · rw [no (fun p => by simp [htS, c])] at ih
        exact ih
  rw [show bts (fun p => anyN (htS N p D t) 0) 10 = 0 from bts_0 10] at key
  exact key
theorem c_heardOn (hp : PV 1 N M) (hw : Wf N) {x : Int32} (D : Nat) (hD : D < 100) (hx : x = nI D) (q : ∀ r, r = nI (cn (fun s => hdS N s D) (sN N)) → Q (some (.int r)) (HH M)) : CW G (d + 4) jX5_heardOn [.ref 1, .int x] (HH M) Q := by
  have hn := hw.2.1.2
  have e1 : M 4 0 = nI (sN N) := hp.2.1.trans hw.2.1.1
  refine CW_wp fX5_heardOn rfl rfl rfl ?_
  refine dn (E := fun i => Ev G (d + 4) jX5_heardOn 4 [some (.ref 1), some (.int x), some (.int (nI (cn (fun s => hdS N s D) i))), some (.int (nI i))] [] (HH M) 0 0 Q) (Nat.zero_le (sN N)) ?_ (fun i _ h2 ih => ?_)
  · refine Ev_wp fX5_heardOn rfl ?_
    exact xif (by rw [e1]; exact Int32.le_refl _) (by exact q _ rfl)
  · refine Ev_wp fX5_heardOn rfl ?_
    refine xelse (by rw [e1]; exact nI_ge h2 (by omega)) ?_
    rw [nI_succ, cn] at ih
    refine c_isHeard hp hw i D h2 (by omega) rfl hx (fun c2 => ?_) (fun c2 => ?_)
    · rw [if_pos c2, nI_succ] at ih
      exact ih
    · rw [if_neg (by simp [c2])] at ih
      exact ih
theorem c_lastDayOf (hp : PV 1 N M) (hw : Wf N) {x : Int32} (s : Nat) (hs : s < sN N) (hx : x = nI s) (q : ∀ L, sF N s 5 ≤ L → L < 100 → (∀ D, sF N s 5 < D → D ≤ L → hdS N s D = true) → (L = 99 ∨ hdS N s (L + 1) = false) → ∀ r, r = (if L = sF N s 5 then -1 else nI L) → Q (some (.int r)) (HH M)) : CW G (d + 4) jX5_lastDayOf [.ref 1, .int x] (HH M) Q := by
  subst hx
  have hn := hw.2.1.2
  have w0 := hw.1.2
  have wa := hw.2.2.2.2.2.2.2.1 s hs
  refine CW_wp fX5_lastDayOf rfl rfl rfl ?_
  refine xelse (nin (n := 40) (by omega) (by decide)) ?_
  rw [nI_clamp (by omega), show M 10 s = nI (sF N s 5) from hp.say hw hs (show 5 < 6 by decide)]
  have key : (∀ D, sF N s 5 < D → D ≤ sF N s 5 → hdS N s D = true) → Ev G (d + 4) jX5_lastDayOf 14 [some (.ref 1), some (.int (nI s)), some (.int (if sF N s 5 = sF N s 5 then -1 else nI (sF N s 5))), some (.int (nI (sF N s 5 + 1)))] [] (HH M) 0 0 Q := by
    refine dn (E := fun i => (∀ D, sF N s 5 < D → D ≤ i → hdS N s D = true) → Ev G (d + 4) jX5_lastDayOf 14 [some (.ref 1), some (.int (nI s)), some (.int (if i = sF N s 5 then -1 else nI i)), some (.int (nI (i + 1)))] [] (HH M) 0 0 Q) (show sF N s 5 ≤ 99 by omega) (fun hh => ?_) (fun i h1 h2 ih hh => ?_)
    · refine Ev_wp fX5_lastDayOf rfl ?_
      exact id (q 99 (by omega) (by decide) hh (Or.inl rfl) _ rfl)
    · refine Ev_wp fX5_lastDayOf rfl ?_
      refine xelse (nI_ge (b := 100) (by omega) (by decide)) ?_
      refine c_isHeard hp hw s (i + 1) hs (by omega) rfl rfl (fun c => ?_) (fun c => ?_)
      · have ih := ih (fun D hD1 hD2 => by
          by_cases z : D = i + 1
          · subst z; exact c
          · exact hh D hD1 (by omega))
        rw [if_neg (by omega), nI_succ (i + 1)] at ih
        exact ih
      · exact q i h1 (by omega) hh (Or.inr c) _ rfl
  have k2 := key (fun D h1 h2 => by omega)
  rw [if_pos rfl, nI_succ] at k2
  exact k2
theorem c_lastDayOfOnce (hp : PV 1 N M) (hw : Wf N) {x : Int32} (own : Nat) (ho : own < 100) (hx : x = nI own) (q : ∀ L, own ≤ L → L < 100 → (∀ D, own < D → D ≤ L → agO N own D ≤ vN N 2) → (L = 99 ∨ ¬ agO N own (L + 1) ≤ vN N 2) → Q (some (.int (nI L))) (HH M)) : CW G (d + 2) jX5_lastDayOfOnce [.ref 1, .int x] (HH M) Q := by
  subst hx
  have hk := hw.2.2.1.2
  refine CW_wp fX5_lastDayOfOnce rfl rfl rfl ?_
  refine c_lasting (HH M) 0 (vN N 2) (by decide) hk rfl (hp.2.2.1.trans hw.2.2.1.1) (fun r hr => ?_)
  have hr : r = nI (vN N 2) := hr
  subst hr
  have key : (∀ D, own < D → D ≤ own → agO N own D ≤ vN N 2) → Ev G (d + 2) jX5_lastDayOfOnce 16 [some (.ref 1), some (.int (nI own)), some (.int (nI (vN N 2))), some (.int (nI own)), some (.int (nI (own + 1)))] [] (HH M) 0 0 Q := by
    refine dn (E := fun i => (∀ D, own < D → D ≤ i → agO N own D ≤ vN N 2) → Ev G (d + 2) jX5_lastDayOfOnce 16 [some (.ref 1), some (.int (nI own)), some (.int (nI (vN N 2))), some (.int (nI i)), some (.int (nI (i + 1)))] [] (HH M) 0 0 Q) (show own ≤ 99 by omega) (fun hh => ?_) (fun i h1 h2 ih hh => ?_)
    · refine Ev_wp fX5_lastDayOfOnce rfl ?_
      exact id (q 99 (by omega) (by decide) hh (Or.inl rfl))
    · refine Ev_wp fX5_lastDayOfOnce rfl ?_
      refine xelse (nI_ge (b := 100) (by omega) (by decide)) ?_
      refine c_ageOf hp hw own (i + 1) rfl rfl (by omega) (by omega) (fun r hr => ?_)
      have hb := agO_le N hw (own := own) (D := i + 1) (by omega) (by omega)
      refine xlt (vN N 2) (agO N own (i + 1)) rfl hr (by omega) (by omega) (fun c => ?_) (fun c => ?_)
      · exact q i h1 (by omega) hh (Or.inr (by omega))
      · have ih := ih (fun D hD1 hD2 => by
          by_cases z : D = i + 1
          · subst z; exact c
          · exact hh D hD1 (by omega))
        rw [nI_succ (i + 1)] at ih
        exact ih
  have k2 := key (fun D h1 h2 => by omega)
  rw [nI_succ] at k2
  exact k2
theorem c_doesHear (hp : PV 1 N M) (hw : Wf N) {x z y : Int32} (p s D : Nat) (hs : s < sN N) (hpl : p < 6) (hD : D ≤ 100) (hx : x = nI p) (hz : z = nI s) (hy : y = nI D) (q1 : heS N p s D = true → Q (some (.int 1)) (HH M)) (q0 : heS N p s D = false → Q (some (.int 0)) (HH M)) : CW G (d + 5) jX5_doesHear [.ref 1, .int x, .int z, .int y] (HH M) Q := by
  have hn := hw.2.1.2
  have wa := hw.2.2.2.2.2.2.2.1 s hs
  refine CW_wp fX5_doesHear rfl rfl rfl ?_
  refine xix (n := 40) s hz (by omega) (by decide) (fun e => ?_)
  rw [e, show M 9 s = nI (sF N s 4) from hp.say hw hs (show 4 < 6 by decide)]
  refine c_placeOf hp p (sF N s 4) hpl wa.2.2.2.2.2.1 hx rfl ?_
  rcases wh_c hw hpl wa.2.2.2.2.2.1 with e | ⟨a, ha, e⟩
  · rw [e]
    exact q0 (by simp [heS, e])
  · rw [e]
    have e2 : (nI a).toNatClampNeg = a := nI_clamp (by omega)
    have e3 : nI a ≠ -1 := fun z => absurd (z ▸ nI_pos' (show a < 2 ^ 31 by omega)) (by decide)
    refine xelse e3 ?_
    refine c_isHeardAt hp hw s a D hs ha hD hz rfl hy (fun c => q1 ?_) (fun c => q0 ?_)
    · rw [haS] at c
      simp [heS, e, e2, e3, c]
    · rw [haS] at c
      simp only [heS, e, e2, c]
      simp
end CM
