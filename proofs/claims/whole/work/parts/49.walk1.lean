/-! WALKS: what is reckoned; the class's side. -/
/-- the first of the greatest -/
def amS (P : Nat → Bool) (f : Nat → Nat) : Nat → Option Nat
  | 0 => none
  | k + 1 => if P k = true then (match amS P f k with
    | none => some k
    | some b => if f b < f k then some k else some b) else amS P f k
theorem am_mx (P : Nat → Bool) (f : Nat → Nat) : ∀ k, (∀ b, amS P f k = some b → P b = true ∧ b < k ∧ f b = mxS P f k) ∧ (amS P f k = none → mxS P f k = 0 ∧ ∀ i, i < k → P i = false)
  | 0 => ⟨fun b h => (by cases h), fun _ => ⟨rfl, fun i hi => absurd hi (Nat.not_lt_zero _)⟩⟩
  | k + 1 => by
    obtain ⟨h1, h2⟩ := am_mx P f k
    rw [amS, mxS]
    by_cases c : P k = true
    · rw [if_pos c, if_pos c]
      cases ha : amS P f k with
      | none =>
        obtain ⟨z1, z2⟩ := h2 ha
        refine ⟨fun b h => ?_, fun h => by cases h⟩
        have e : k = b := Option.some.inj h
        subst e
        rw [z1]
        exact ⟨c, Nat.lt_succ_self k, by omega⟩
      | some b0 =>
        obtain ⟨z1, z2, z3⟩ := h1 b0 ha
        refine ⟨fun b h => ?_, fun h => ?_⟩
        · have h : (if f b0 < f k then some k else some b0) = some b := h
          by_cases c2 : f b0 < f k
          · rw [if_pos c2] at h
            have e : k = b := Option.some.inj h
            subst e
            exact ⟨c, Nat.lt_succ_self k, by omega⟩
          · rw [if_neg c2] at h
            have e : b0 = b := Option.some.inj h
            subst e
            exact ⟨z1, by omega, by omega⟩
        · have h : (if f b0 < f k then some k else some b0) = none := h
          by_cases c2 : f b0 < f k
          · rw [if_pos c2] at h; cases h
          · rw [if_neg c2] at h; cases h
    · rw [if_neg c, if_neg c]
      refine ⟨fun b h => ?_, fun h => ?_⟩
      · obtain ⟨z1, z2, z3⟩ := h1 b h
        exact ⟨z1, by omega, z3⟩
      · obtain ⟨z1, z2⟩ := h2 h
        refine ⟨z1, fun i hi => ?_⟩
        by_cases e : i = k
        · subst e; simpa using c
        · exact z2 i (by omega)
theorem am_op {N : Nat → Int32} {p : Nat} (hp : p < 10) (f : Nat → Nat) : ∃ b, amS (opS N p) f 10 = some b ∧ b < 10 ∧ f b = mxS (opS N p) f 10 ∧ opS N p b = true := by
  obtain ⟨h1, h2⟩ := am_mx (opS N p) f 10
  cases h : amS (opS N p) f 10 with
  | none =>
    have := (h2 h).2 p hp
    simp [opS] at this
  | some b => exact ⟨b, rfl, (h1 b h).2.1, (h1 b h).2.2, (h1 b h).1⟩
/-- heard at a PLACE in the i-th HOUR -/
def chS (N : Nat → Int32) (D t i p : Nat) : Nat := cn (htS N p D (t + i)) (sN N)
/-- the most from there on, r HOURS ahead of the last one -/
def tbS (N : Nat → Int32) (D t n : Nat) : Nat → Nat → Nat
  | 0 => fun p => chS N D t (n - 1) p
  | r + 1 => fun p => chS N D t (n - 2 - r) p + mxS (opS N p) (tbS N D t n r) 10
theorem tb_le {N : Nat → Int32} (hw : Wf N) (D t n : Nat) : ∀ r p, tbS N D t n r p ≤ 40 * (r + 1)
  | 0, p => by
    have := cn_le (htS N p D (t + (n - 1))) (sN N)
    have := hw.2.1.2
    show cn _ _ ≤ _
    omega
  | r + 1, p => by
    have h1 := cn_le (htS N p D (t + (n - 2 - r))) (sN N)
    have h2 := hw.2.1.2
    have h3 : mxS (opS N p) (tbS N D t n r) 10 ≤ 40 * (r + 1) := mxS_le (fun i _ => tb_le hw D t n r i)
    show cn _ _ + mxS _ _ _ ≤ _
    omega
/-- the WALK -/
def ptS (N : Nat → Int32) (D t n a : Nat) : Nat → Nat
  | 0 => a
  | k + 1 => (amS (opS N (ptS N D t n a k)) (tbS N D t n (n - 1 - (k + 1))) 10).getD 0
theorem pt_lt (N : Nat → Int32) (D t n a : Nat) (ha : a < 10) : ∀ k, ptS N D t n a k < 10
  | 0 => ha
  | k + 1 => by
    obtain ⟨b, h1, h2, -, -⟩ := am_op (N := N) (pt_lt N D t n a ha k) (tbS N D t n (n - 1 - (k + 1)))
    show (amS _ _ 10).getD 0 < 10
    rw [h1]; exact h2
section K1
variable {G : xG} {d : Nat} {M : xM} {N : Nat → Int32} {Q : Option Value → xH → Prop}
theorem c_bestNext (hp : PV 1 N M) {x y : Int32} (p i : Nat) (f : Nat → Nat) (hpl : p < 10) (hi : i < 24) (hx : x = nI p) (hy : y = nI i) (hf : ∀ q, q < 10 → M 49 (10 * i + q) = nI (f q) ∧ f q < 2 ^ 30) (q : ∀ b, amS (opS N p) f 10 = some b → Q (some (.int (nI b))) (HH M)) : CW G (d + 3) jX6_bestNext [.ref 46, .ref 2, .int x, .int y] (HH M) Q := by
  have opt : ∀ k, k ≤ 10 → ∀ bv mv : Int32, (amS (opS N p) f k = none ∧ bv = nI p ∧ mv = -1 ∨ ∃ b, amS (opS N p) f k = some b ∧ b < k ∧ bv = nI b ∧ mv = nI (f b)) → Ev G (d + 3) jX6_bestNext 9 [some (.ref 46), some (.ref 2), some (.int x), some (.int y), some (.int bv), some (.int mv), some (.int (nI k))] [] (HH M) 0 0 Q := by
    intro k hk
    refine dn (E := fun k => ∀ bv mv : Int32, (amS (opS N p) f k = none ∧ bv = nI p ∧ mv = -1 ∨ ∃ b, amS (opS N p) f k = some b ∧ b < k ∧ bv = nI b ∧ mv = nI (f b)) → Ev G (d + 3) jX6_bestNext 9 [some (.ref 46), some (.ref 2), some (.int x), some (.int y), some (.int bv), some (.int mv), some (.int (nI k))] [] (HH M) 0 0 Q) hk (fun bv mv h => ?_) (fun k _ h2 ih bv mv h => ?_)
    · refine Ev_wp fX6_bestNext rfl ?_
      rcases h with ⟨h, -, -⟩ | ⟨b, h, -, rfl, -⟩
      · obtain ⟨b, hb, -⟩ := am_op (N := N) hpl f
        rw [hb] at h; cases h
      · exact q b h
    · rw [nI_succ k] at ih
      refine Ev_wp fX6_bestNext rfl ?_
      refine xelse (nI_ge (b := 10) h2 (by decide)) ?_
      refine c_isOpen hp p k hpl h2 hx rfl (fun c => ?_) (fun c => ?_)
      · refine xl1 (l := (1 : Int32) = 0) (by decide) ?_
        refine xix (n := 240) (i * 10 + k) (ia (im hy rfl) rfl) (by omega) (by decide) (fun e => ?_)
        obtain ⟨hfk, hfb⟩ := hf k h2
        rw [e, show i * 10 + k = 10 * i + k by omega, hfk]
        rcases h with ⟨h, hb, hm⟩ | ⟨b, h, hb0, hb, hm⟩
        · refine xelse (by rw [hm]; exact fun z => absurd (Int32.le_trans (nI_pos' (show f k < 2 ^ 31 by omega)) z) (by decide)) ?_
          refine xix (n := 240) (i * 10 + k) (ia (im hy rfl) rfl) (by omega) (by decide) (fun e2 => ?_)
          rw [e2, show i * 10 + k = 10 * i + k by omega, hfk]
          exact ih _ _ (Or.inr ⟨k, by rw [amS, if_pos c, h], by omega, rfl, rfl⟩)
        · have hfb2 := (hf b (by omega)).2
          refine xle (f k) (f b) rfl hm (by omega) (by omega) (fun c2 => ?_) (fun c2 => ?_)
          · exact ih _ _ (Or.inr ⟨b, by rw [amS, if_pos c, h]; exact if_neg (by omega), by omega, hb, hm⟩)
          · refine xix (n := 240) (i * 10 + k) (ia (im hy rfl) rfl) (by omega) (by decide) (fun e2 => ?_)
            rw [e2, show i * 10 + k = 10 * i + k by omega, hfk]
            exact ih _ _ (Or.inr ⟨k, by rw [amS, if_pos c, h]; exact if_pos (by omega), by omega, rfl, rfl⟩)
      · refine ih bv mv ?_
        rw [amS, if_neg (by simp [c])]
        rcases h with h | ⟨b, h1, h2, h3⟩
        · exact Or.inl h
        · exact Or.inr ⟨b, h1, by omega, h3⟩
  refine CW_wp fX6_bestNext rfl rfl rfl ?_
  exact opt 0 (by decide) x (-1) (Or.inl ⟨rfl, hx, rfl⟩)
theorem c_addAround {x y : Int32} (S : Nat → Bool) (i : Nat) (hi : i < 24) (hx : x = nI (bts S 10)) (hy : y = nI i) (q : ∀ f, (∀ p, p < 10 → f (10 * i + p) = M 48 (10 * i + p) + (if S p = true then 1 else 0)) → (∀ j, j < 10 * i ∨ 10 * i + 10 ≤ j → f j = M 48 j) → Q none (HH (xrow M 48 f))) : CW G (d + 1) jX6_addAround [.ref 46, .int x, .int y] (HH M) Q := by
  have hb := bts31 S (show 10 ≤ 30 by decide)
  have key : ∀ f, (∀ p, p < 0 → f (10 * i + p) = M 48 (10 * i + p) + (if S p = true then 1 else 0)) → (∀ p, 0 ≤ p → p < 10 → f (10 * i + p) = M 48 (10 * i + p)) → (∀ j, j < 10 * i ∨ 10 * i + 10 ≤ j → f j = M 48 j) → Ev G (d + 1) jX6_addAround 2 [some (.ref 46), some (.int x), some (.int y), some (.int (nI 0))] [] (HH (xrow M 48 f)) 0 0 Q := by
    refine dn (E := fun k => ∀ f, (∀ p, p < k → f (10 * i + p) = M 48 (10 * i + p) + (if S p = true then 1 else 0)) → (∀ p, k ≤ p → p < 10 → f (10 * i + p) = M 48 (10 * i + p)) → (∀ j, j < 10 * i ∨ 10 * i + 10 ≤ j → f j = M 48 j) → Ev G (d + 1) jX6_addAround 2 [some (.ref 46), some (.int x), some (.int y), some (.int (nI k))] [] (HH (xrow M 48 f)) 0 0 Q) (Nat.zero_le 10) (fun f h1 _ h3 => ?_) (fun k _ h2 ih f g1 g2 g3 => ?_)
    · refine Ev_wp fX6_addAround rfl ?_
      exact q f h1 h3
    · rw [nI_succ k] at ih
      refine Ev_wp fX6_addAround rfl ?_
      refine xelse (nI_ge (b := 10) h2 (by decide)) ?_
      refine c_isIn (bts S 10) k (by rw [hx]; exact nI_l hb) (by omega) rfl (by omega) (fun c => ?_) (fun c => ?_)
      · rw [tb_bts] at c
        simp [h2] at c
        refine xl1 (l := (1 : Int32) = 0) (by decide) ?_
        refine xix (n := 240) (i * 10 + k) (ia (im hy rfl) rfl) (by omega) (by decide) (fun e => ?_)
        refine xix (n := 240) (i * 10 + k) (ia (im hy rfl) rfl) (by omega) (by decide) (fun e2 => ?_)
        rw [e, xrow_at, xup_row, show i * 10 + k = 10 * i + k by omega, g2 k (Nat.le_refl _) h2]
        refine ih _ (fun p hp => ?_) (fun p hp1 hp2 => ?_) (fun j hj => ?_)
        · by_cases z : p = k
          · subst z; rw [pk_us, if_pos c]
          · rw [pk_un (by omega)]; exact g1 p (by omega)
        · rw [pk_un (by omega)]; exact g2 p (by omega) hp2
        · rw [pk_un (by omega)]; exact g3 j hj
      · rw [tb_bts] at c
        simp [h2] at c
        refine ih f (fun p hp => ?_) (fun p hp1 hp2 => g2 p (by omega) hp2) g3
        by_cases z : p = k
        · subst z; rw [if_neg (by simp [c]), g2 p (Nat.le_refl _) h2, Int32.add_zero]
        · exact g1 p (by omega)
  refine CW_wp fX6_addAround rfl rfl rfl ?_
  have h0 := key (M 48) (fun p hp => absurd hp (Nat.not_lt_zero _)) (fun p _ _ => rfl) (fun j _ => rfl)
  rw [xrow_self] at h0
  exact h0
theorem c_gather (hp : PV 1 N M) (hw : Wf N) {x y : Int32} (D t n : Nat) (hD : D < 100) (ht : t < 24) (hn : t + n ≤ 24) (hx : x = nI (100 * D + t)) (hy : y = nI n) (q : ∀ f, (∀ i, i < n → ∀ p, p < 10 → f (10 * i + p) = nI (chS N D t i p)) → Q none (HH (xrow M 48 f))) : CW G (d + 4) jX6_gather [.ref 46, .ref 1, .int x, .int y] (HH M) Q := by
  have h40 := hw.2.1.2
  have w1 : x / 100 = nI D := by rw [hx]; exact (when_div D t hD ht).1
  have w2 : x - x / 100 * 100 = nI t := by rw [hx]; exact (when_div D t hD ht).2
  have hour' : ∀ (M0 : xM) (Qx : Option Value → xH → Prop), (∀ r, r = nI t → Qx (some (.int r)) (HH M0)) → CW G (d + 3) jX8_hourOf [.int x] (HH M0) Qx := fun M0 Qx k => c_hourOf x (k _ w2)
  have day' : ∀ (M0 : xM) (Qx : Option Value → xH → Prop), (∀ r, r = nI D → Qx (some (.int r)) (HH M0)) → CW G (d + 3) jX8_dayOf [.int x] (HH M0) Qx := fun M0 Qx k => c_dayOf x (k _ w1)
  refine CW_wp fX6_gather rfl rfl rfl ?_
  refine c_fill SH RR _ 48 240 (by decide) rfl 0 ?_
  have key : ∀ f, (∀ i, i < n → ∀ p, p < 10 → f (10 * i + p) = nI (cn (htS N p D (t + i)) 0)) → Ev G (d + 4) jX6_gather 11 [some (.ref 46), some (.ref 1), some (.int x), some (.int y), some (.int (nI 0)), none] [] (HH (xrow M 48 f)) 0 0 Q := by
    refine dn (E := fun s => ∀ f, (∀ i, i < n → ∀ p, p < 10 → f (10 * i + p) = nI (cn (htS N p D (t + i)) s)) → Ev G (d + 4) jX6_gather 11 [some (.ref 46), some (.ref 1), some (.int x), some (.int y), some (.int (nI s)), none] [] (HH (xrow M 48 f)) 0 0 Q) (Nat.zero_le (sN N)) (fun f hf => ?_) (fun s _ h2 ih f hf => ?_)
    · have e1 : xrow M 48 f 4 0 = nI (sN N) := hp.2.1.trans hw.2.1.1
      refine Ev_wp fX6_gather rfl ?_
      refine xif (by rw [e1]; exact Int32.le_refl _) ?_
      exact q f hf
    · have hp' : PV 1 N (xrow M 48 f) := hp.row (by decide)
      have e1 : xrow M 48 f 4 0 = nI (sN N) := hp.2.1.trans hw.2.1.1
      have wa := hw.2.2.2.2.2.2.2.1 s h2
      have e9 : xrow M 48 f 9 s = nI (sF N s 4) := hp'.say hw h2 (show 4 < 6 by decide)
      rw [nI_succ s] at ih
      have nx : (∀ i, i < n → ∀ p, p < 10 → htS N p D (t + i) s = false) → Ev G (d + 4) jX6_gather 11 [some (.ref 46), some (.ref 1), some (.int x), some (.int y), some (.int (nI s + 1)), none] [] (HH (xrow M 48 f)) 0 0 Q := fun hz => ih f (fun i hi p hp => by rw [cn_s0 (hz i hi p hp)]; exact hf i hi p hp)
      refine Ev_wp fX6_gather rfl ?_
      refine xelse (by rw [e1]; exact nI_ge h2 (by omega)) ?_
      refine xix (n := 40) s rfl (by omega) (by decide) (fun e => ?_)
      rw [e]
      refine hour' _ _ (fun r hr => ?_)
      by_cases c : sF N s 4 < t
      · refine xif (by rw [e9, hr]; exact pk_sneg (by omega) c) ?_
        refine nx (fun i hi p hp => ?_)
        simp [htS, show ¬ sF N s 4 = t + i by omega]
      · have ei : xrow M 48 f 9 s - r = nI (sF N s 4 - t) := isb e9 hr (by omega)
        refine xelse (by rw [ei]; exact nI_pos (by omega)) ?_
        refine xle n (sF N s 4 - t) hy ei (by omega) (by omega) (fun c2 => ?_) (fun c2 => ?_)
        · refine nx (fun i hi p hp => ?_)
          simp [htS, show ¬ sF N s 4 = t + i by omega]
        · refine day' _ _ (fun r2 hr2 => ?_)
          refine c_isHeard hp' hw s D h2 (by omega) rfl hr2 (fun c3 => ?_) (fun c3 => ?_)
          · refine c_around hp' hw s h2 rfl (fun r3 hr3 => ?_)
            refine c_addAround (arS N s) (sF N s 4 - t) (by omega) hr3 ei (fun f' g1 g2 => ?_)
            rw [xrow_xrow]
            refine ih f' (fun i hi p hp => ?_)
            by_cases z : i = sF N s 4 - t
            · subst z
              have e5 := g1 p hp
              rw [show xrow M 48 f 48 (10 * (sF N s 4 - t) + p) = f (10 * (sF N s 4 - t) + p) from rfl, hf _ hi p hp] at e5
              rw [e5]
              have hh : htS N p D (t + (sF N s 4 - t)) s = arS N s p := by
                unfold htS haS
                rw [decide_eq_true (show sF N s 4 = t + (sF N s 4 - t) by omega), c3]
                rfl
              by_cases z2 : arS N s p = true
              · rw [if_pos z2, cn_s1 (hh.trans z2), nI_succ]
              · rw [if_neg z2, cn_s0 (hh.trans (by simpa using z2)), Int32.add_zero]
            · rw [g2 _ (by omega)]
              rw [cn_s0 (show htS N p D (t + i) s = false by simp [htS, show ¬ sF N s 4 = t + i by omega])]
              exact hf i hi p hp
          · refine nx (fun i hi p hp => ?_)
            simp [htS, haS, c3]
  have h0 := key (ffill (M 48) 0 240) (fun i hi p hp => by
    unfold ffill
    rw [if_pos (by omega)]; rfl)
  exact h0
theorem c_reckon (hp : PV 1 N M) {x y : Int32} (i n : Nat) (c g : Nat → Nat) (hin : i < n) (hn : n ≤ 24) (hx : x = nI i) (hy : y = nI n) (hc : ∀ p, p < 10 → M 48 (10 * i + p) = nI (c p)) (hg : i + 1 < n → ∀ p, p < 10 → M 49 (10 * (i + 1) + p) = nI (g p) ∧ g p < 2 ^ 30) (q : ∀ f, (∀ p, p < 10 → f (10 * i + p) = nI (if i + 1 < n then c p + mxS (opS N p) g 10 else c p)) → (∀ j, j < 10 * i ∨ 10 * i + 10 ≤ j → f j = M 49 j) → Q none (HH (xrow M 49 f))) : CW G (d + 4) jX6_reckon [.ref 46, .ref 2, .int x, .int y] (HH M) Q := by
  have key : ∀ f, (∀ p, p < 0 → f (10 * i + p) = nI (if i + 1 < n then c p + mxS (opS N p) g 10 else c p)) → (∀ j, j < 10 * i ∨ 10 * i + 10 ≤ j → f j = M 49 j) → Ev G (d + 4) jX6_reckon 3 [some (.ref 46), some (.ref 2), some (.int x), some (.int y), some (.int (nI 0)), none] [] (HH (xrow M 49 f)) 0 0 Q := by
    refine dn (E := fun k => ∀ f, (∀ p, p < k → f (10 * i + p) = nI (if i + 1 < n then c p + mxS (opS N p) g 10 else c p)) → (∀ j, j < 10 * i ∨ 10 * i + 10 ≤ j → f j = M 49 j) → Ev G (d + 4) jX6_reckon 3 [some (.ref 46), some (.ref 2), some (.int x), some (.int y), some (.int (nI k)), none] [] (HH (xrow M 49 f)) 0 0 Q) (Nat.zero_le 10) (fun f h1 h3 => ?_) (fun k _ h2 ih f g1 g3 => ?_)
    · refine Ev_wp fX6_reckon rfl ?_
      exact q f h1 h3
    · have hp' : PV 1 N (xrow M 49 f) := hp.row (by decide)
      rw [nI_succ k] at ih
      have fin : ∀ v, v = nI (if i + 1 < n then c k + mxS (opS N k) g 10 else c k) → Ev G (d + 4) jX6_reckon 3 [some (.ref 46), some (.ref 2), some (.int x), some (.int y), some (.int (nI k + 1)), none] [] (HH (xup (xrow M 49 f) 49 (10 * i + k) v)) 0 0 Q := fun v hv => by
        rw [xup_row]
        refine ih _ (fun p hp => ?_) (fun j hj => ?_)
        · by_cases z : p = k
          · subst z; rw [pk_us]; exact hv
          · rw [pk_un (by omega)]; exact g1 p (by omega)
        · rw [pk_un (by omega)]; exact g3 j hj
      refine Ev_wp fX6_reckon rfl ?_
      refine xelse (nI_ge (b := 10) h2 (by decide)) ?_
      refine xix (n := 240) (i * 10 + k) (ia (im hx rfl) rfl) (by omega) (by decide) (fun e => ?_)
      rw [e, show xrow M 49 f 48 (i * 10 + k) = M 48 (10 * i + k) by rw [show i * 10 + k = 10 * i + k by omega]; rfl, hc k h2]
      refine xle n (i + 1) hy (by rw [hx, ← nI_succ]) (by omega) (by omega) (fun c1 => ?_) (fun c1 => ?_)
      · refine xix (n := 240) (i * 10 + k) (ia (im hx rfl) rfl) (by omega) (by decide) (fun e2 => ?_)
        rw [e2, show i * 10 + k = 10 * i + k by omega]
        exact fin _ (by rw [if_neg (by omega)])
      · refine c_bestNext hp' k (i + 1) g h2 (by omega) rfl (by rw [hx, ← nI_succ]) (fun q hq => ?_) (fun b hb => ?_)
        · rw [show xrow M 49 f 49 (10 * (i + 1) + q) = f (10 * (i + 1) + q) from rfl, g3 _ (by omega)]
          exact hg c1 q hq
        · obtain ⟨b', z1, z2, z3, z4⟩ := am_op (N := N) h2 g
          have eb : b = b' := by rw [hb] at z1; exact Option.some.inj z1
          subst eb
          refine xix (n := 240) ((i + 1) * 10 + b) (ia (im (by rw [hx, ← nI_succ]) rfl) rfl) (by omega) (by decide) (fun e2 => ?_)
          rw [e2, show xrow M 49 f 49 ((i + 1) * 10 + b) = nI (g b) by
            rw [show (i + 1) * 10 + b = 10 * (i + 1) + b by omega]
            exact (g3 _ (by omega)).trans (hg c1 b z2).1]
          refine xix (n := 240) (i * 10 + k) (ia (im hx rfl) rfl) (by omega) (by decide) (fun e3 => ?_)
          rw [e3, show i * 10 + k = 10 * i + k by omega]
          exact fin _ (by rw [if_pos c1, nI_add, z3])
  refine CW_wp fX6_reckon rfl rfl rfl ?_
  have h0 := key (M 49) (fun p hp => absurd hp (Nat.not_lt_zero _)) (fun j _ => rfl)
  rw [xrow_self] at h0
  exact h0
end K1
