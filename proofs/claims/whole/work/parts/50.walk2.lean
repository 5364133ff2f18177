/-! walk: the class beside the model. -/
section K2
variable {G : xG} {M : xM} {N : Nat → Int32} {Q : Option Value → xH → Prop}
theorem tb_s (N : Nat → Int32) (D t n k p : Nat) (hk : k + 1 < n) : tbS N D t n (n - 1 - k) p = chS N D t k p + mxS (opS N p) (tbS N D t n (n - 1 - (k + 1))) 10 := by
  obtain ⟨r, hr⟩ : ∃ r, n - 1 - k = r + 1 := ⟨n - 1 - (k + 1), by omega⟩
  rw [hr, show n - 1 - (k + 1) = r by omega]
  show chS N D t (n - 2 - r) p + _ = _
  rw [show n - 2 - r = k by omega]
theorem tb_e (N : Nat → Int32) (D t n p : Nat) : tbS N D t n 0 p = chS N D t (n - 1) p := rfl
theorem ch_le (N : Nat → Int32) (hw : Wf N) (D t i p : Nat) : chS N D t i p ≤ 40 := Nat.le_trans (cn_le _ _) hw.2.1.2
theorem c_choose {d : Nat} (hp : PV 1 N M) (hw : Wf N) {x y z : Int32} (a D t n : Nat) (ha : a < 10) (hD : D < 100) (ht : t < 24) (hn : 1 ≤ n ∧ t + n ≤ 24) (hx : x = nI a) (hy : y = nI (100 * D + t)) (hz : z = nI n) (q : ∀ f48 f49 f47, (∀ k, k < n → f47 k = nI (ptS N D t n a k)) → Q (some (.int (nI (tbS N D t n (n - 1) a)))) (HH (xup (xrow (xrow (xrow M 48 f48) 49 f49) 47 f47) 46 0 z))) : CW G (d + 5) jX6_choose [.ref 46, .ref 1, .int x, .int y, .int z] (HH M) Q := by
  refine CW_wp fX6_choose rfl rfl rfl ?_
  refine c_gather hp hw D t n hD ht hn.2 hy hz (fun f48 h48 => ?_)
  have hp1 : PV 1 N (xrow M 48 f48) := hp.row (by decide)
  have l2 : ∀ f49, (∀ k, k < n → ∀ p, p < 10 → f49 (10 * k + p) = nI (tbS N D t n (n - 1 - k) p)) → ∀ f47, (∀ k, k < 1 → f47 k = nI (ptS N D t n a k)) → Ev G (d + 5) jX6_choose 47 [some (.ref 46), some (.ref 1), some (.int x), none, some (.int z), some (.int (nI 1))] [] (HH (xrow (xrow (xrow M 48 f48) 49 f49) 47 f47)) 0 0 Q := fun f49 h49 => by
    refine dn (E := fun i => ∀ f47, (∀ k, k < i → f47 k = nI (ptS N D t n a k)) → Ev G (d + 5) jX6_choose 47 [some (.ref 46), some (.ref 1), some (.int x), none, some (.int z), some (.int (nI i))] [] (HH (xrow (xrow (xrow M 48 f48) 49 f49) 47 f47)) 0 0 Q) hn.1 (fun f47 h47 => ?_) (fun i h1 h2 ih f47 h47 => ?_)
    · refine Ev_wp fX6_choose rfl ?_
      refine xif (by rw [hz]; exact Int32.le_refl _) ?_
      refine xix (n := 240) a hx (by omega) (by decide) (fun e => ?_)
      have e2 : f49 a = nI (tbS N D t n (n - 1) a) := by
        have := h49 0 (by omega) a ha
        rw [show 10 * 0 + a = a by omega] at this
        exact this
      rw [e]
      have h9 := q f48 f49 f47 h47
      rw [← e2] at h9
      exact h9
    · rw [nI_succ i] at ih
      have hp2 : PV 1 N (xrow (xrow (xrow M 48 f48) 49 f49) 47 f47) := (hp1.row (by decide)).row (by decide)
      have hpl := pt_lt N D t n a ha (i - 1)
      refine Ev_wp fX6_choose rfl ?_
      refine xelse (by rw [hz]; exact nI_ge h2 (by omega)) ?_
      refine xix (n := 24) (i - 1) (isb rfl rfl (by omega)) (by omega) (by decide) (fun e => ?_)
      rw [e, xrow_at, h47 (i - 1) (by omega)]
      refine c_bestNext hp2 (ptS N D t n a (i - 1)) i (tbS N D t n (n - 1 - i)) hpl (by omega) rfl rfl (fun q hq => ⟨h49 i h2 q hq, ?_⟩) (fun b hb => ?_)
      · have := tb_le hw D t n (n - 1 - i) q
        omega
      · refine xix (n := 24) i rfl (by omega) (by decide) (fun e2 => ?_)
        rw [e2, xup_row]
        refine ih _ (fun k hk => ?_)
        by_cases c : k = i
        · subst c
          rw [pk_us]
          congr 1
          obtain ⟨k', rfl⟩ : ∃ k', k = k' + 1 := ⟨k - 1, by omega⟩
          show b = (amS (opS N (ptS N D t n a k')) (tbS N D t n (n - 1 - (k' + 1))) 10).getD 0
          rw [show k' + 1 - 1 = k' by omega] at hb
          rw [hb]
          rfl
        · rw [pk_un c]; exact h47 k (by omega)
  have l1 : ∀ k, k ≤ n → ∀ f49, (∀ k', k ≤ k' → k' < n → ∀ p, p < 10 → f49 (10 * k' + p) = nI (tbS N D t n (n - 1 - k') p)) → Ev G (d + 5) jX6_choose 14 [some (.ref 46), some (.ref 1), some (.int x), none, some (.int z), some (.int (nI k + (-1)))] [] (HH (xrow (xrow M 48 f48) 49 f49)) 0 0 Q := by
    intro k
    induction k with
    | zero =>
      intro _ f49 h49
      refine Ev_wp fX6_choose rfl ?_
      have h9 := l2 f49 (fun k hk p hp => h49 k (Nat.zero_le _) hk p hp) (upd (xrow (xrow M 48 f48) 49 f49 47) 0 x) (fun k hk => by
        have e : k = 0 := by omega
        subst e
        rw [pk_us]; exact hx)
      exact h9
    | succ k ih =>
      intro hk f49 h49
      have hp2 : PV 1 N (xrow (xrow M 48 f48) 49 f49) := hp1.row (by decide)
      rw [pk_m1]
      refine Ev_wp fX6_choose rfl ?_
      refine xelse (nI_pos (by omega)) ?_
      refine c_reckon hp2 k n (fun p => chS N D t k p) (tbS N D t n (n - 1 - (k + 1))) (by omega) (by omega) rfl hz (fun p hp => ?_) (fun hkn p hp => ⟨?_, ?_⟩) (fun f g1 g2 => ?_)
      · exact h48 k (by omega) p hp
      · exact h49 (k + 1) (by omega) hkn p hp
      · have := tb_le hw D t n (n - 1 - (k + 1)) p
        omega
      · rw [xrow_xrow]
        refine ih (by omega) f (fun k' hk1 hk2 p hp => ?_)
        by_cases c : k' = k
        · subst c
          rw [g1 p hp]
          congr 1
          by_cases c2 : k' + 1 < n
          · rw [if_pos c2, tb_s N D t n k' p c2]
          · rw [if_neg c2, show n - 1 - k' = 0 by omega, tb_e, show n - 1 = k' by omega]
        · rw [g2 _ (by omega)]
          exact h49 k' (by omega) hk2 p hp
  have h0 := l1 n (Nat.le_refl _) (M 49) (fun k' h1 h2 => absurd h2 (by omega))
  rw [show xrow (xrow M 48 f48) 49 (M 49) = xrow M 48 f48 from xrow_self (xrow M 48 f48) 49, show nI n + (-1) = z - 1 by rw [hz, Int32.sub_eq_add_neg]] at h0
  exact h0
/-- the model's rows of a WALK, and STEPS, changed alone -/
def Wm (N : Nat → Int32) (M M' : xM) : Prop := (∀ r, r ≠ 59 → r ≠ 63 → r ≠ 64 → r ≠ 65 → M' r = M r) ∧ (∀ k, k ≠ 5 → k ≠ 8 → M' 59 k = M 59 k) ∧ SR N M'
theorem Wm.rm {M M' M'' : xM} (h : Wm N M M') (h2 : Rm N M' M'') : Wm N M M'' := ⟨fun r a b c d => (h2.1 r a b).trans (h.1 r a b c d), fun k a b => (h2.2.1 k a).trans (h.2.1 k a b), h2.2.2⟩
theorem Wm.n {M M' : xM} (h : Wm N M M') (hn : M 60 = N) : M' 60 = N := (h.1 60 (by decide) (by decide) (by decide) (by decide)).trans hn
theorem Wm.u64 {M M' : xM} (h : Wm N M M') (k : Nat) (v : Int32) : Wm N M (xup M' 64 k v) := ⟨fun r a b c d => (xrow_ne c).trans (h.1 r a b c d), fun k' a b => h.2.1 k' a b, h.2.2⟩
theorem Wm.u65 {M M' : xM} (h : Wm N M M') (k : Nat) (v : Int32) : Wm N M (xup M' 65 k v) := ⟨fun r a b c d => (xrow_ne d).trans (h.1 r a b c d), fun k' a b => h.2.1 k' a b, h.2.2⟩
theorem Wm.u8 {M M' : xM} (h : Wm N M M') (v : Int32) : Wm N M (xup M' 59 8 v) := ⟨fun r a b c d => (xrow_ne a).trans (h.1 r a b c d), fun k' a b => (show upd (M' 59) 8 v k' = M 59 k' from (pk_un b).trans (h.2.1 k' a b)), by
  have h3 := h.2.2
  unfold SR at h3 ⊢
  exact h3⟩
theorem m_walkT {M0 : xM} (hn0 : M0 60 = N) (hw : Wf N) {x y z : Int32} (D t n : Nat) (hD : D < 100) (ht : t < 24) (hn : 1 ≤ n ∧ t + n ≤ 24) (w1 : y / 100 = nI D) (w2 : y - y / 100 * 100 = nI t) (hz : z = nI n) (q : ∀ M', Wm N M0 M' → (∀ k', k' < n → ∀ p, p < 10 → M' 64 (10 * k' + p) = nI (tbS N D t n (n - 1 - k') p)) → Ev G 11 jX9_walk 47 [some (.ref 59), some (.int x), some (.int y), some (.int z), some (.int (-1)), none, none, none, none] [] (HH M') 0 0 Q) : ∀ k, k ≤ n → ∀ M', Wm N M0 M' → (∀ k', k ≤ k' → k' < n → ∀ p, p < 10 → M' 64 (10 * k' + p) = nI (tbS N D t n (n - 1 - k') p)) → Ev G 11 jX9_walk 47 [some (.ref 59), some (.int x), some (.int y), some (.int z), some (.int (nI k + (-1))), none, none, none, none] [] (HH M') 0 0 Q := by
  intro k
  induction k with
  | zero =>
    intro _ M' hm hT
    exact q M' hm (fun k' hk p hp => hT k' (Nat.zero_le _) hk p hp)
  | succ k ih =>
    intro hk M' hm hT
    rw [pk_m1]
    have hz1 : z - 1 = nI (n - 1) := isb hz rfl (by omega)
    -- the places of this HOUR
    have lp : ∀ M', Wm N M0 M' → (∀ k', k + 1 ≤ k' → k' < n → ∀ p, p < 10 → M' 64 (10 * k' + p) = nI (tbS N D t n (n - 1 - k') p)) → (∀ p, p < 0 → M' 64 (10 * k + p) = nI (tbS N D t n (n - 1 - k) p)) → Ev G 11 jX9_walk 55 [some (.ref 59), some (.int x), some (.int y), some (.int z), some (.int (nI k)), some (.int (nI 0)), none, none, none] [] (HH M') 0 0 Q := by
      refine dn (E := fun p => ∀ M', Wm N M0 M' → (∀ k', k + 1 ≤ k' → k' < n → ∀ p, p < 10 → M' 64 (10 * k' + p) = nI (tbS N D t n (n - 1 - k') p)) → (∀ p', p' < p → M' 64 (10 * k + p') = nI (tbS N D t n (n - 1 - k) p')) → Ev G 11 jX9_walk 55 [some (.ref 59), some (.int x), some (.int y), some (.int z), some (.int (nI k)), some (.int (nI p)), none, none, none] [] (HH M') 0 0 Q) (Nat.zero_le 10) (fun M' hm hT hP => ?_) (fun p _ hp10 ihp M' hm hT hP => ?_)
      · refine Ev_wp fX9_walk rfl ?_
        have h9 := ih (by omega) M' hm (fun k' h1 h2 p hp => by
          by_cases c : k' = k
          · subst c; exact hP p hp
          · exact hT k' (by omega) h2 p hp)
        exact h9
      · rw [nI_succ p] at ihp
        -- behind the best of the next HOUR
        have fin : ∀ v, v = nI (if k + 1 < n then mxS (opS N p) (tbS N D t n (n - 1 - (k + 1))) 10 else 0) → ∀ u, (u = nI 10 ∨ k + 1 = n) → Ev G 11 jX9_walk 68 [some (.ref 59), some (.int x), some (.int y), some (.int z), some (.int (nI k)), some (.int (nI p)), some (.int v), some (.int u), none] [] (HH M') 0 0 Q := fun v hv u hu => by
          have go : ∀ M'', Rm N M' M'' → ∀ r, r = nI (chS N D t k p) → Ev G 11 jX9_walk 55 [some (.ref 59), some (.int x), some (.int y), some (.int z), some (.int (nI k)), some (.int (nI p + 1)), none, none, none] [] (HH (xup M'' 64 (10 * k + p) (v + r))) 0 0 Q := fun M'' hm2 r hr => by
            have e64 : M'' 64 = M' 64 := hm2.1 64 (by decide) (by decide)
            refine ihp _ ((hm.rm hm2).u64 _ _) (fun k' h1 h2 p' hp' => ?_) (fun p' hp' => ?_)
            · show upd (M'' 64) (10 * k + p) (v + r) (10 * k' + p') = _
              rw [pk_un (by omega), e64]; exact hT k' h1 h2 p' hp'
            · show upd (M'' 64) (10 * k + p) (v + r) (10 * k + p') = _
              by_cases c : p' = p
              · subst c
                rw [pk_us, hv, hr, nI_add]
                congr 1
                by_cases c2 : k + 1 < n
                · rw [if_pos c2, tb_s N D t n k p' c2, Nat.add_comm]
                · rw [if_neg c2, show n - 1 - k = 0 by omega, tb_e, show n - 1 = k by omega, Nat.zero_add]
              · rw [pk_un (by omega), e64]; exact hP p' (by omega)
          refine Ev_wp fX9_walk rfl ?_
          by_cases c : (10 : Int32) ≤ u
          · refine xif c ?_
            refine m_heardAt (hm.n hn0) hw hm.2.2 p D (t + k) hp10 hD (by omega) rfl w1 (ia w2 rfl) (fun M'' hm2 r hr => ?_)
            refine xix (n := 240) (10 * k + p) (ia (im rfl rfl) rfl) (by omega) (by decide) (fun e => ?_)
            rw [e]
            exact go M'' hm2 r hr
          · refine xelse c ?_
            refine xif (by
              rcases hu with hu | hu
              · exact absurd (by rw [hu]; exact Int32.le_refl _) c
              · rw [hz1]; exact nI_le (by omega) (by omega)) ?_
            refine m_heardAt (hm.n hn0) hw hm.2.2 p D (t + k) hp10 hD (by omega) rfl w1 (ia w2 rfl) (fun M'' hm2 r hr => ?_)
            refine xix (n := 240) (10 * k + p) (ia (im rfl rfl) rfl) (by omega) (by decide) (fun e => ?_)
            rw [e]
            exact go M'' hm2 r hr
        refine Ev_wp fX9_walk rfl ?_
        refine xelse (nI_ge (b := 10) hp10 (by decide)) ?_
        by_cases c : k + 1 < n
        · refine dn (E := fun s => Ev G 11 jX9_walk 68 [some (.ref 59), some (.int x), some (.int y), some (.int z), some (.int (nI k)), some (.int (nI p)), some (.int (nI (mxS (opS N p) (tbS N D t n (n - 1 - (k + 1))) s))), some (.int (nI s)), none] [] (HH M') 0 0 Q) (Nat.zero_le 10) (fin _ (by rw [if_pos c]) _ (Or.inl rfl)) (fun s _ hs ihs => ?_)
          refine Ev_wp fX9_walk rfl ?_
          refine xelse (nI_ge (b := 10) hs (by decide)) ?_
          refine xelse (by rw [hz1]; exact nI_ge (by omega) (by omega)) ?_
          rw [nI_succ s, mxS] at ihs
          have ht64 := hT (k + 1) (Nat.le_refl _) c s hs
          have b1 : mxS (opS N p) (tbS N D t n (n - 1 - (k + 1))) s ≤ 40 * (n - 1 - (k + 1) + 1) := mxS_le (fun i _ => tb_le hw D t n _ i)
          have b2 := tb_le hw D t n (n - 1 - (k + 1)) s
          have take : opS N p s = true → Ev G 11 jX9_walk 68 [some (.ref 59), some (.int x), some (.int y), some (.int z), some (.int (nI k)), some (.int (nI p)), some (.int (if nI (mxS (opS N p) (tbS N D t n (n - 1 - (k + 1))) s) < M' 64 (10 * (k + 1) + s) then M' 64 (10 * (k + 1) + s) else nI (mxS (opS N p) (tbS N D t n (n - 1 - (k + 1))) s))), some (.int (nI s + 1)), none] [] (HH M') 0 0 Q := fun ho => by
            rw [ht64, nI_max _ _ (by omega) (by omega)]
            rw [if_pos ho] at ihs
            exact ihs
          refine xeq p s rfl rfl (by omega) (by omega) (fun c2 => ?_) (fun c2 => ?_)
          · refine xix (n := 240) (10 * (k + 1) + s) (ia (im rfl (nI_succ k).symm) rfl) (by omega) (by decide) (fun e => ?_)
            rw [e]
            exact take (by simp [opS, c2])
          · refine m_isWay (hm.n hn0) hw p s hp10 hs rfl rfl (fun c3 => ?_) (fun c3 => ?_)
            · refine xl1 (l := (1 : Int32) = 0) (by decide) ?_
              refine xix (n := 240) (10 * (k + 1) + s) (ia (im rfl (nI_succ k).symm) rfl) (by omega) (by decide) (fun e => ?_)
              rw [e]
              exact take (by simp [opS, c3])
            · rw [if_neg (by simp [opS, c2, c3])] at ihs
              exact ihs
        · exact fin 0 (by rw [if_neg c]; rfl) 0 (Or.inr (by omega))
    refine Ev_wp fX9_walk rfl ?_
    refine xelse (nI_pos (by omega)) ?_
    exact lp M' hm (fun k' h1 h2 p hp => hT k' h1 h2 p hp) (fun p hp => absurd hp (Nat.not_lt_zero _))
theorem m_walkP {M0 : xM} (hn0 : M0 60 = N) (hw : Wf N) {x z : Int32} (a D t n : Nat) (ha : a < 10) (hn : 1 ≤ n ∧ n ≤ 24) (hx : x = nI a) (hz : z = nI n) (f64 : Nat → Int32) (hT : ∀ k', k' < n → ∀ p, p < 10 → f64 (10 * k' + p) = nI (tbS N D t n (n - 1 - k') p)) (q : ∀ M', Wm N M0 M' → M' 59 8 = z → M' 64 = f64 → (∀ k, k < n → M' 65 k = nI (ptS N D t n a k)) → Q (some (.int (f64 a))) (HH M')) : ∀ M', Wm N M0 M' → M' 59 8 = z → M' 64 = f64 → (∀ k, k < 1 → M' 65 k = nI (ptS N D t n a k)) → Ev G 11 jX9_walk 194 [some (.ref 59), some (.int x), none, some (.int z), some (.int (nI 1)), none, none, none, none] [] (HH M') 0 0 Q := by
  refine dn (E := fun i => ∀ M', Wm N M0 M' → M' 59 8 = z → M' 64 = f64 → (∀ k, k < i → M' 65 k = nI (ptS N D t n a k)) → Ev G 11 jX9_walk 194 [some (.ref 59), some (.int x), none, some (.int z), some (.int (nI i)), none, none, none, none] [] (HH M') 0 0 Q) hn.1 (fun M' hm h8 h64 h65 => ?_) (fun i h1 h2 ih M' hm h8 h64 h65 => ?_)
  · refine Ev_wp fX9_walk rfl ?_
    refine xif (by rw [hz]; exact Int32.le_refl _) ?_
    refine xix (n := 240) a hx (by omega) (by decide) (fun e => ?_)
    rw [e, h64]
    exact q M' hm h8 h64 h65
  · rw [nI_succ i] at ih
    have hpl := pt_lt N D t n a ha (i - 1)
    have hfb : ∀ s, s < 10 → f64 (10 * i + s) = nI (tbS N D t n (n - 1 - i) s) ∧ tbS N D t n (n - 1 - i) s < 2 ^ 30 := fun s hs => ⟨hT i h2 s hs, by
      have := tb_le hw D t n (n - 1 - i) s
      omega⟩
    have lq : ∀ bv : Int32, (amS (opS N (ptS N D t n a (i - 1))) (tbS N D t n (n - 1 - i)) 0 = none ∧ bv = -1 ∨ ∃ b, amS (opS N (ptS N D t n a (i - 1))) (tbS N D t n (n - 1 - i)) 0 = some b ∧ b < 0 ∧ bv = nI b) → Ev G 11 jX9_walk 217 [some (.ref 59), some (.int x), none, some (.int z), some (.int (nI i)), some (.int (nI (ptS N D t n a (i - 1)))), some (.int bv), some (.int (nI 0)), none] [] (HH M') 0 0 Q := by
      refine dn (E := fun s => ∀ bv : Int32, (amS (opS N (ptS N D t n a (i - 1))) (tbS N D t n (n - 1 - i)) s = none ∧ bv = -1 ∨ ∃ b, amS (opS N (ptS N D t n a (i - 1))) (tbS N D t n (n - 1 - i)) s = some b ∧ b < s ∧ bv = nI b) → Ev G 11 jX9_walk 217 [some (.ref 59), some (.int x), none, some (.int z), some (.int (nI i)), some (.int (nI (ptS N D t n a (i - 1)))), some (.int bv), some (.int (nI s)), none] [] (HH M') 0 0 Q) (Nat.zero_le 10) (fun bv h => ?_) (fun s _ hs ihs bv h => ?_)
      · refine Ev_wp fX9_walk rfl ?_
        rcases h with ⟨h, -⟩ | ⟨b, h, hb, rfl⟩
        · obtain ⟨b, hb, -⟩ := am_op (N := N) hpl (tbS N D t n (n - 1 - i))
          rw [hb] at h; cases h
        · refine xix (n := 24) i rfl (by omega) (by decide) (fun e => ?_)
          rw [e]
          refine ih _ (hm.u65 _ _) h8 h64 (fun k hk => ?_)
          show upd (M' 65) i (nI b) k = _
          by_cases c : k = i
          · subst c
            rw [pk_us]
            congr 1
            obtain ⟨k', rfl⟩ : ∃ k', k = k' + 1 := ⟨k - 1, by omega⟩
            show b = (amS (opS N (ptS N D t n a k')) (tbS N D t n (n - 1 - (k' + 1))) 10).getD 0
            rw [show k' + 1 - 1 = k' by omega] at h
            rw [h]
            rfl
          · rw [pk_un c]; exact h65 k (by omega)
      · rw [nI_succ s] at ihs
        obtain ⟨hf1, hf2⟩ := hfb s hs
        have skip : opS N (ptS N D t n a (i - 1)) s = false → Ev G 11 jX9_walk 217 [some (.ref 59), some (.int x), none, some (.int z), some (.int (nI i)), some (.int (nI (ptS N D t n a (i - 1)))), some (.int bv), some (.int (nI s + 1)), none] [] (HH M') 0 0 Q := fun ho => by
          refine ihs bv ?_
          rw [amS, if_neg (by simp [ho])]
          rcases h with h | ⟨b, g1, g2, g3⟩
          · exact Or.inl h
          · exact Or.inr ⟨b, g1, by omega, g3⟩
        have take : opS N (ptS N D t n a (i - 1)) s = true → (bv = -1 → Ev G 11 jX9_walk 217 [some (.ref 59), some (.int x), none, some (.int z), some (.int (nI i)), some (.int (nI (ptS N D t n a (i - 1)))), some (.int (nI s)), some (.int (nI s + 1)), none] [] (HH M') 0 0 Q) ∧ ∀ b, b < 10 → bv = nI b → (tbS N D t n (n - 1 - i) s ≤ tbS N D t n (n - 1 - i) b → Ev G 11 jX9_walk 217 [some (.ref 59), some (.int x), none, some (.int z), some (.int (nI i)), some (.int (nI (ptS N D t n a (i - 1)))), some (.int bv), some (.int (nI s + 1)), none] [] (HH M') 0 0 Q) ∧ (tbS N D t n (n - 1 - i) b < tbS N D t n (n - 1 - i) s → Ev G 11 jX9_walk 217 [some (.ref 59), some (.int x), none, some (.int z), some (.int (nI i)), some (.int (nI (ptS N D t n a (i - 1)))), some (.int (nI s)), some (.int (nI s + 1)), none] [] (HH M') 0 0 Q) := fun ho => by
          rcases h with ⟨h, hb⟩ | ⟨b, h, hb0, hb⟩
          · refine ⟨fun _ => ihs _ (Or.inr ⟨s, by rw [amS, if_pos ho, h], by omega, rfl⟩), fun b' hb' e => ?_⟩
            exact absurd (e.symm.trans hb) (nm1 (by omega))
          · refine ⟨fun e => absurd (hb.symm.trans e) (nm1 (by omega)), fun b' hb' e => ?_⟩
            rw [hb, nI_eq (by omega) (by omega)] at e
            subst e
            exact ⟨fun c => ihs bv (Or.inr ⟨b, by rw [amS, if_pos ho, h]; exact if_neg (by omega), by omega, hb⟩), fun c => ihs _ (Or.inr ⟨s, by rw [amS, if_pos ho, h]; exact if_pos c, by omega, rfl⟩)⟩
        have hbv : bv = -1 ∨ ∃ b, b < 10 ∧ bv = nI b := by
          rcases h with ⟨-, h⟩ | ⟨b, -, hb0, hb⟩
          · exact Or.inl h
          · exact Or.inr ⟨b, by omega, hb⟩
        refine Ev_wp fX9_walk rfl ?_
        refine xelse (nI_ge (b := 10) hs (by decide)) ?_
        refine xeq (ptS N D t n a (i - 1)) s rfl rfl (by omega) (by omega) (fun c2 => ?_) (fun c2 => ?_)
        · obtain ⟨t1, t2⟩ := take (by simp [opS, c2])
          refine xl1 (l := (1 : Int32) = 0) (by decide) ?_
          rcases hbv with e | ⟨b, hb, e⟩
          · refine xif (by rw [e]; decide) ?_
            exact t1 e
          · obtain ⟨hb1, hb2⟩ := hfb b hb
            refine xelse (by rw [e]; exact nI_pos (by omega)) ?_
            refine xix (n := 240) (10 * i + s) (ia (im rfl rfl) rfl) (by omega) (by decide) (fun e3 => ?_)
            refine xix (n := 240) (10 * i + b) (ia (im rfl rfl) e) (by omega) (by decide) (fun e4 => ?_)
            rw [e3, e4, h64, hf1, hb1]
            refine xle _ _ rfl rfl (by omega) (by omega) (fun c4 => ?_) (fun c4 => ?_)
            · exact (t2 b hb e).1 c4
            · exact (t2 b hb e).2 c4
        · refine m_isWay (hm.n hn0) hw (ptS N D t n a (i - 1)) s hpl hs rfl rfl (fun c3 => ?_) (fun c3 => ?_)
          · obtain ⟨t1, t2⟩ := take (by simp [opS, c3])
            refine xl1 (l := (1 : Int32) = 0) (by decide) ?_
            rcases hbv with e | ⟨b, hb, e⟩
            · refine xif (by rw [e]; decide) ?_
              exact t1 e
            · obtain ⟨hb1, hb2⟩ := hfb b hb
              refine xelse (by rw [e]; exact nI_pos (by omega)) ?_
              refine xix (n := 240) (10 * i + s) (ia (im rfl rfl) rfl) (by omega) (by decide) (fun e3 => ?_)
              refine xix (n := 240) (10 * i + b) (ia (im rfl rfl) e) (by omega) (by decide) (fun e4 => ?_)
              rw [e3, e4, h64, hf1, hb1]
              refine xle _ _ rfl rfl (by omega) (by omega) (fun c4 => ?_) (fun c4 => ?_)
              · exact (t2 b hb e).1 c4
              · exact (t2 b hb e).2 c4
          · exact skip (by simp [opS, c2, c3])
    refine Ev_wp fX9_walk rfl ?_
    refine xelse (by rw [hz]; exact nI_ge h2 (by omega)) ?_
    refine xix (n := 24) (i - 1) (isb rfl rfl (by omega)) (by omega) (by decide) (fun e => ?_)
    rw [e, h65 (i - 1) (by omega)]
    exact lq (-1) (Or.inl ⟨rfl, rfl⟩)
end K2
