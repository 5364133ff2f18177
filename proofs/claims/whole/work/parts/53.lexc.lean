/-! The class's reader, TOKEN by TOKEN. -/
def TpC (b : Nat → Nat) (T : Nat) (M : xM) : Prop := M 43 0 = nI T ∧ T ≤ 120 ∧ (∀ i, i < T → M 44 i = nI (b i)) ∧ ∀ i, b i < 256
def LxC (b : Nat → Nat) (T e : Nat) (M : xM) : Prop := M 43 2 = nI (tkT b T e) ∧ M 43 3 = nI (stT b T e) ∧ M 43 4 = nI (enT b T e) ∧ M 43 5 = nI (vT b T e)
def CfM (M M' : xM) : Prop := (∀ r, r ≠ 43 → M' r = M r) ∧ M' 43 0 = M 43 0
theorem CfM.refl (M : xM) : CfM M M := ⟨fun _ _ => rfl, rfl⟩
theorem CfM.trans {M M' M'' : xM} (h : CfM M M') (h2 : CfM M' M'') : CfM M M'' := ⟨fun r a => (h2.1 r a).trans (h.1 r a), h2.2.trans h.2⟩
theorem CfM.up {M M' : xM} (h : CfM M M') (k : Nat) (v : Int32) (hk : k ≠ 0) : CfM M (xup M' 43 k v) := ⟨fun r a => (xrow_ne a).trans (h.1 r a), (show upd (M' 43) k v 0 = M 43 0 from (pk_un (Ne.symm hk)).trans h.2)⟩
theorem TpC.cf {b : Nat → Nat} {T : Nat} {M M' : xM} (t : TpC b T M) (h : CfM M M') : TpC b T M' := ⟨h.2.trans t.1, t.2.1, fun i hi => by rw [h.1 44 (by decide)]; exact t.2.2.1 i hi, t.2.2.2⟩
theorem xup_xup (M : xM) (a k : Nat) (v w : Int32) : xup (xup M a k v) a k w = xup M a k w := by
  funext i
  unfold xup
  by_cases h : i = a
  · subst h
    rw [xrow_at, xrow_at, xrow_at]
    funext j
    unfold upd
    by_cases h2 : j = k
    · rw [if_pos h2, if_pos h2]
    · rw [if_neg h2, if_neg h2, if_neg h2]
  · rw [xrow_ne h, xrow_ne h, xrow_ne h]
section LC
variable {G : xG} {d : Nat} {M : xM} {Q : Option Value → xH → Prop} {b : Nat → Nat} {T : Nat}
theorem c_typeAt (tp : TpC b T M) {x : Int32} (i : Nat) (hi : i ≤ 120) (hx : x = nI i) (q : ∀ r, r = nI (tyT b T i) → Q (some (.int r)) (HH M)) : CW G d jX2_typeAt [.ref 43, .int x] (HH M) Q := by
  obtain ⟨t1, t2, t3, t4⟩ := tp
  refine CW_wp fX2_typeAt rfl rfl rfl ?_
  refine xlt i T hx t1 (by omega) (by omega) (fun c => ?_) (fun c => q _ (by rw [tyT, if_neg (by omega)]; rfl))
  refine xix (n := 120) i hx (by omega) (by decide) (fun e => ?_)
  rw [e, t3 i c]
  have hb := t4 i
  have ety : tyT b T i = bsT (b i) := if_pos c
  rw [ety] at q
  unfold bsT at q
  have low : ¬ (97 ≤ b i ∧ b i ≤ 122) → ∀ r, r = nI (if 48 ≤ b i ∧ b i ≤ 57 then 2 else if b i = 32 then 4 else if b i = 59 then 3 else 5) → Q (some (.int r)) (HH M) := fun hn r hr => q r (by rw [if_neg hn]; exact hr)
  have low2 : ¬ (97 ≤ b i ∧ b i ≤ 122) → ¬ (48 ≤ b i ∧ b i ≤ 57) → ∀ r, r = nI (if b i = 32 then 4 else if b i = 59 then 3 else 5) → Q (some (.int r)) (HH M) := fun hn hn2 r hr => low hn r (by rw [if_neg hn2]; exact hr)
  refine xlt (b i) 97 rfl rfl (by omega) (by decide) (fun c1 => ?_) (fun c1 => ?_)
  · refine xlt (b i) 48 rfl rfl (by omega) (by decide) (fun c3 => ?_) (fun c3 => ?_)
    · refine xeq (b i) 32 rfl rfl (by omega) (by decide) (fun c5 => low2 (by omega) (by omega) _ (by rw [if_pos c5]; rfl)) (fun c5 => ?_)
      exact xeq (b i) 59 rfl rfl (by omega) (by decide) (fun c6 => low2 (by omega) (by omega) _ (by rw [if_neg c5, if_pos c6]; rfl)) (fun c6 => low2 (by omega) (by omega) _ (by rw [if_neg c5, if_neg c6]; rfl))
    · refine xlt 57 (b i) rfl rfl (by decide) (by omega) (fun c4 => ?_) (fun c4 => low (by omega) _ (by rw [if_pos (by omega)]; rfl))
      refine xeq (b i) 32 rfl rfl (by omega) (by decide) (fun c5 => low2 (by omega) (by omega) _ (by rw [if_pos c5]; rfl)) (fun c5 => ?_)
      exact xeq (b i) 59 rfl rfl (by omega) (by decide) (fun c6 => low2 (by omega) (by omega) _ (by rw [if_neg c5, if_pos c6]; rfl)) (fun c6 => low2 (by omega) (by omega) _ (by rw [if_neg c5, if_neg c6]; rfl))
  · refine xlt 122 (b i) rfl rfl (by decide) (by omega) (fun c2 => ?_) (fun c2 => q _ (by rw [if_pos (by omega)]; rfl))
    refine xlt (b i) 48 rfl rfl (by omega) (by decide) (fun c3 => ?_) (fun c3 => ?_)
    · refine xeq (b i) 32 rfl rfl (by omega) (by decide) (fun c5 => low2 (by omega) (by omega) _ (by rw [if_pos c5]; rfl)) (fun c5 => ?_)
      exact xeq (b i) 59 rfl rfl (by omega) (by decide) (fun c6 => low2 (by omega) (by omega) _ (by rw [if_neg c5, if_pos c6]; rfl)) (fun c6 => low2 (by omega) (by omega) _ (by rw [if_neg c5, if_neg c6]; rfl))
    · refine xlt 57 (b i) rfl rfl (by decide) (by omega) (fun c4 => ?_) (fun c4 => low (by omega) _ (by rw [if_pos (by omega)]; rfl))
      refine xeq (b i) 32 rfl rfl (by omega) (by decide) (fun c5 => low2 (by omega) (by omega) _ (by rw [if_pos c5]; rfl)) (fun c5 => ?_)
      exact xeq (b i) 59 rfl rfl (by omega) (by decide) (fun c6 => low2 (by omega) (by omega) _ (by rw [if_neg c5, if_pos c6]; rfl)) (fun c6 => low2 (by omega) (by omega) _ (by rw [if_neg c5, if_neg c6]; rfl))
theorem c_reckonV (tp : TpC b T M) (s n : Nat) (hn : s + n ≤ T) (h3 : M 43 3 = nI s) (h4 : M 43 4 = nI (s + n)) (h5 : M 43 5 = 0) (hd : ∀ i, i < n → 48 ≤ b (s + i) ∧ b (s + i) ≤ 57) (q : Q none (HH (xup M 43 5 (nI (vaT b s n))))) : CW G d jX2_reckonValue [.ref 43] (HH M) Q := by
  obtain ⟨t1, t2, t3, t4⟩ := tp
  refine CW_wp fX2_reckonValue rfl rfl rfl ?_
  have key : Ev G d jX2_reckonValue 5 [some (.ref 43), some (.int (nI (s + 0)))] [] (HH (xup M 43 5 (nI (vaT b s 0)))) 0 0 Q := by
    refine dn (E := fun i => Ev G d jX2_reckonValue 5 [some (.ref 43), some (.int (nI (s + i)))] [] (HH (xup M 43 5 (nI (vaT b s i)))) 0 0 Q) (Nat.zero_le n) ?_ (fun i _ h2 ih => ?_)
    · refine Ev_wp fX2_reckonValue rfl ?_
      refine xif (show M 43 4 ≤ nI (s + n) by rw [h4]; exact Int32.le_refl _) ?_
      exact q
    · have hv := va_le b t4 s i
      have hdi := hd i h2
      refine Ev_wp fX2_reckonValue rfl ?_
      refine xelse (show ¬ M 43 4 ≤ nI (s + i) by rw [h4]; exact nI_ge (by omega) (by omega)) ?_
      rw [← Nat.add_assoc, nI_succ (s + i), vaT] at ih
      refine xlt (vaT b s i) 1000 rfl rfl (by omega) (by decide) (fun c => ?_) (fun c => ?_)
      · refine xix (n := 120) (s + i) rfl (by omega) (by decide) (fun e => ?_)
        rw [e, show xup M 43 5 (nI (vaT b s i)) 44 (s + i) = nI (b (s + i)) from t3 _ (by omega)]
        rw [if_neg (by omega)] at ih
        have e3 : 10 * nI (vaT b s i) + nI (b (s + i)) - 48 = nI (10 * vaT b s i + b (s + i) - 48) := isb (ia (im rfl rfl) rfl) rfl (by omega)
        rw [← e3, ← xup_xup M 43 5 (nI (vaT b s i))] at ih
        exact ih
      · rw [if_pos c, ← xup_xup M 43 5 (nI (vaT b s i))] at ih
        exact ih
  rw [Nat.add_zero] at key
  rw [show xup M 43 5 (nI (vaT b s 0)) = M by
    have e := xrow_self M 43
    show xrow M 43 (upd (M 43) 5 (nI 0)) = M
    have e2 : upd (M 43) 5 (nI 0) = M 43 := by
      funext j
      unfold upd
      by_cases z : j = 5
      · rw [if_pos z, z, h5]; rfl
      · rw [if_neg z]
    rw [e2, e], ← h3] at key
  exact key
theorem c_nextL (tp : TpC b T M) (s t : Nat) (ht : t = 1 ∨ t = 2) (q : ∀ M', CfM M M' → (M' 43 2 = nI t ∧ M' 43 3 = nI s ∧ M' 43 4 = nI (skT b T t T (s + 1)) ∧ M' 43 5 = nI (vaT b s (skT b T t T (s + 1) - s))) → t = 2 → Q none (HH M')) (q0 : ∀ M', CfM M M' → (M' 43 2 = nI t ∧ M' 43 3 = nI s ∧ M' 43 4 = nI (skT b T t T (s + 1)) ∧ M' 43 5 = 0) → t ≠ 2 → Q none (HH M')) : ∀ (n i : Nat), s < i → i ≤ T → T ≤ n + i → skT b T t n i = skT b T t T (s + 1) → (∀ j, s ≤ j → j < i → tyT b T j = t) → ∀ M', CfM M M' → M' 43 2 = nI t → M' 43 3 = nI s → M' 43 4 = nI i → M' 43 5 = 0 → Ev G (d + 1) jX2_next 94 [some (.ref 43)] [] (HH M') 0 0 Q := by
  intro n
  induction n with
  | zero =>
    intro i hsi hiT hn hsk hin M' hm h2 h3 h4 h5
    have tp' := tp.cf hm
    have eS : skT b T t T (s + 1) = i := hsk.symm
    refine Ev_wp fX2_next rfl ?_
    refine xif (by rw [h4, tp'.1]; exact nI_le (by omega) (by have := tp.2.1; omega)) ?_
    have := tp.2.1
    rw [eS] at q q0
    refine xeq t 2 h2 rfl (by omega) (by decide) (fun c9 => ?_) (fun c9 => ?_)
    · refine c_reckonV (tp.cf hm) s (i - s) (by omega) h3 (by rw [h4, show s + (i - s) = i by omega]) h5 (fun k hk => (ty_2 (by rw [hin (s + k) (by omega) (by omega)]; exact c9)).2) ?_
      exact q _ (hm.up 5 _ (by decide)) ⟨h2, h3, by rw [show xup M' 43 5 (nI (vaT b s (i - s))) 43 4 = M' 43 4 from rfl, h4], rfl⟩ c9
    · exact q0 _ hm ⟨h2, h3, by rw [h4], h5⟩ c9
  | succ n ih =>
    intro i hsi hiT hn hsk hin M' hm h2 h3 h4 h5
    have tp' := tp.cf hm
    have hT := tp.2.1
    refine Ev_wp fX2_next rfl ?_
    by_cases hi : i < T
    · refine xelse (by rw [h4, tp'.1]; exact nI_ge hi (by omega)) ?_
      refine c_typeAt tp' i (by omega) h4 (fun r hr => ?_)
      have hle := tyT_le b T i
      refine xeq (tyT b T i) t hr h2 (by omega) (by omega) (fun c => ?_) (fun c => ?_)
      · rw [skT, if_pos c] at hsk
        refine ih (i + 1) (by omega) (by omega) (by omega) hsk (fun j h1 hj => ?_) (xup M' 43 4 (M' 43 4 + 1)) (hm.up 4 _ (by decide)) h2 h3 (show M' 43 4 + 1 = nI (i + 1) by rw [h4, ← nI_succ]) h5
        by_cases z : j = i
        · subst z; exact c
        · exact hin j h1 (by omega)
      · rw [skT, if_neg c] at hsk
        have eS : skT b T t T (s + 1) = i := hsk.symm
        rw [eS] at q q0
        refine xeq t 2 h2 rfl (by omega) (by decide) (fun c9 => ?_) (fun c9 => ?_)
        · refine c_reckonV (tp.cf hm) s (i - s) (by omega) h3 (by rw [h4, show s + (i - s) = i by omega]) h5 (fun k hk => (ty_2 (by rw [hin (s + k) (by omega) (by omega)]; exact c9)).2) ?_
          exact q _ (hm.up 5 _ (by decide)) ⟨h2, h3, by rw [show xup M' 43 5 (nI (vaT b s (i - s))) 43 4 = M' 43 4 from rfl, h4], rfl⟩ c9
        · exact q0 _ hm ⟨h2, h3, by rw [h4], h5⟩ c9
    · refine xif (by rw [h4, tp'.1]; exact nI_le (by omega) (by omega)) ?_
      have e0 : tyT b T i = 0 := tyT_0.mpr (by omega)
      rw [skT, if_neg (by omega)] at hsk
      have eS : skT b T t T (s + 1) = i := hsk.symm
      rw [eS] at q q0
      refine xeq t 2 h2 rfl (by omega) (by decide) (fun c9 => ?_) (fun c9 => ?_)
      · refine c_reckonV (tp.cf hm) s (i - s) (by omega) h3 (by rw [h4, show s + (i - s) = i by omega]) h5 (fun k hk => (ty_2 (by rw [hin (s + k) (by omega) (by omega)]; exact c9)).2) ?_
        exact q _ (hm.up 5 _ (by decide)) ⟨h2, h3, by rw [show xup M' 43 5 (nI (vaT b s (i - s))) 43 4 = M' 43 4 from rfl, h4], rfl⟩ c9
      · exact q0 _ hm ⟨h2, h3, by rw [h4], h5⟩ c9
theorem c_nextE (tp : TpC b T M) (e : Nat) (q : ∀ M', CfM M M' → LxC b T e M' → Q none (HH M')) : ∀ (n i : Nat), i ≤ T → T ≤ n + i → skT b T 4 n i = stT b T e → ∀ M', CfM M M' → M' 43 4 = nI i → Ev G (d + 1) jX2_next 0 [some (.ref 43)] [] (HH M') 0 0 Q := by
  intro n
  have hT := tp.2.1
  induction n with
  | zero =>
    intro i hiT hn hsk M' hm h4
    have tp' := tp.cf hm
    have eS : stT b T e = i := hsk.symm
    refine Ev_wp fX2_next rfl ?_
    refine xif (by rw [h4, tp'.1]; exact nI_le (by omega) (by omega)) ?_
    refine c_typeAt (M := xup M' 43 3 (M' 43 4)) (tp.cf (hm.up 3 _ (by decide))) i (by omega) h4 (fun r hr => ?_)
    have hk : tkT b T e = tyT b T i := by unfold tkT; rw [eS]
    have hle := tk_le b T e
    rw [← hk] at hr
    have st3 : ∀ v w : Int32, CfM M (xup (xup (xup M' 43 3 (M' 43 4)) 43 2 v) 43 5 w) := fun v w => ((hm.up 3 _ (by decide)).up 2 _ (by decide)).up 5 _ (by decide)
    refine xeq (tkT b T e) 0 hr rfl (by omega) (by decide) (fun c0 => ?_) (fun c0 => ?_)
    · refine xelse (show ¬ r = 1 by rw [hr, c0]; decide) ?_
      refine xelse (show ¬ r = 2 by rw [hr, c0]; decide) ?_
      refine xelse (show ¬ r = 2 by rw [hr, c0]; decide) ?_
      exact q _ (st3 r 0) ⟨hr, by rw [eS]; exact h4, (show M' 43 4 = nI (enT b T e) by unfold enT; rw [if_pos c0, eS]; exact h4), (show (0 : Int32) = nI (vT b T e) by unfold vT; rw [if_neg (by omega)]; rfl)⟩
    · have e4 : M' 43 4 + 1 = nI (i + 1) := by rw [h4, ← nI_succ]
      have hiT' : i < T := by
        have : ¬ T ≤ i := fun z => c0 (hk.trans (tyT_0.mpr z))
        omega
      have l2 : ∀ t, tkT b T e = t → (t = 1 ∨ t = 2) → Ev G (d + 1) jX2_next 94 [some (.ref 43)] [] (HH (xup (xup (xup (xup M' 43 3 (M' 43 4)) 43 2 r) 43 5 0) 43 4 (M' 43 4 + 1))) 0 0 Q := fun t hte ht => c_nextL tp i t ht (fun M2 hm2 hh h2t => by
          obtain ⟨g1, g2, g3, g4⟩ := hh
          have een : enT b T e = skT b T t T (i + 1) := by unfold enT; rw [if_neg c0, if_pos (by omega), hte, eS]
          exact q M2 hm2 ⟨by rw [hte]; exact g1, by rw [eS]; exact g2, by rw [een]; exact g3, by unfold vT; rw [if_pos (by omega), een, eS]; exact g4⟩) (fun M2 hm2 hh h2t => by
          obtain ⟨g1, g2, g3, g4⟩ := hh
          have een : enT b T e = skT b T t T (i + 1) := by unfold enT; rw [if_neg c0, if_pos (by omega), hte, eS]
          exact q M2 hm2 ⟨by rw [hte]; exact g1, by rw [eS]; exact g2, by rw [een]; exact g3, by unfold vT; rw [if_neg (by omega)]; exact g4⟩) T (i + 1) (by omega) (by omega) (by omega) rfl (fun j h1 hj => by rw [show j = i by omega, ← hk]; exact hte) _ ((st3 r 0).up 4 _ (by decide)) (by rw [← hte]; exact hr) h4 e4 rfl
      refine xeq (tkT b T e) 1 hr rfl (by omega) (by decide) (fun c1 => ?_) (fun c1 => ?_)
      · exact l2 1 c1 (Or.inl rfl)
      refine xeq (tkT b T e) 2 hr rfl (by omega) (by decide) (fun c2 => ?_) (fun c2 => ?_)
      · exact l2 2 c2 (Or.inr rfl)
      refine xelse (show ¬ r = 2 by rw [hr, show (2 : Int32) = nI 2 from rfl, nI_eq (by omega) (by decide)]; exact c2) ?_
      exact q _ ((st3 r 0).up 4 _ (by decide)) ⟨hr, by rw [eS]; exact h4, (show M' 43 4 + 1 = nI (enT b T e) by unfold enT; rw [if_neg c0, if_neg (by omega), eS]; exact e4), (show (0 : Int32) = nI (vT b T e) by unfold vT; rw [if_neg c2]; rfl)⟩
  | succ n ih =>
    intro i hiT hn hsk M' hm h4
    have tp' := tp.cf hm
    refine Ev_wp fX2_next rfl ?_
    by_cases hi : i < T
    · refine xelse (by rw [h4, tp'.1]; exact nI_ge hi (by omega)) ?_
      refine c_typeAt tp' i (by omega) h4 (fun r0 hr0 => ?_)
      have hle0 := tyT_le b T i
      refine xeq (tyT b T i) 4 hr0 rfl (by omega) (by decide) (fun c => ?_) (fun c => ?_)
      · rw [skT, if_pos c] at hsk
        exact ih (i + 1) (by omega) (by omega) hsk (xup M' 43 4 (M' 43 4 + 1)) (hm.up 4 _ (by decide)) (show M' 43 4 + 1 = nI (i + 1) by rw [h4, ← nI_succ])
      · rw [skT, if_neg c] at hsk
        have eS : stT b T e = i := hsk.symm
        refine c_typeAt (M := xup M' 43 3 (M' 43 4)) (tp.cf (hm.up 3 _ (by decide))) i (by omega) h4 (fun r hr => ?_)
        have hk : tkT b T e = tyT b T i := by unfold tkT; rw [eS]
        have hle := tk_le b T e
        rw [← hk] at hr
        have st3 : ∀ v w : Int32, CfM M (xup (xup (xup M' 43 3 (M' 43 4)) 43 2 v) 43 5 w) := fun v w => ((hm.up 3 _ (by decide)).up 2 _ (by decide)).up 5 _ (by decide)
        refine xeq (tkT b T e) 0 hr rfl (by omega) (by decide) (fun c0 => ?_) (fun c0 => ?_)
        · refine xelse (show ¬ r = 1 by rw [hr, c0]; decide) ?_
          refine xelse (show ¬ r = 2 by rw [hr, c0]; decide) ?_
          refine xelse (show ¬ r = 2 by rw [hr, c0]; decide) ?_
          exact q _ (st3 r 0) ⟨hr, by rw [eS]; exact h4, (show M' 43 4 = nI (enT b T e) by unfold enT; rw [if_pos c0, eS]; exact h4), (show (0 : Int32) = nI (vT b T e) by unfold vT; rw [if_neg (by omega)]; rfl)⟩
        · have e4 : M' 43 4 + 1 = nI (i + 1) := by rw [h4, ← nI_succ]
          have hiT' : i < T := by
            have : ¬ T ≤ i := fun z => c0 (hk.trans (tyT_0.mpr z))
            omega
          have l2 : ∀ t, tkT b T e = t → (t = 1 ∨ t = 2) → Ev G (d + 1) jX2_next 94 [some (.ref 43)] [] (HH (xup (xup (xup (xup M' 43 3 (M' 43 4)) 43 2 r) 43 5 0) 43 4 (M' 43 4 + 1))) 0 0 Q := fun t hte ht => c_nextL tp i t ht (fun M2 hm2 hh h2t => by
              obtain ⟨g1, g2, g3, g4⟩ := hh
              have een : enT b T e = skT b T t T (i + 1) := by unfold enT; rw [if_neg c0, if_pos (by omega), hte, eS]
              exact q M2 hm2 ⟨by rw [hte]; exact g1, by rw [eS]; exact g2, by rw [een]; exact g3, by unfold vT; rw [if_pos (by omega), een, eS]; exact g4⟩) (fun M2 hm2 hh h2t => by
              obtain ⟨g1, g2, g3, g4⟩ := hh
              have een : enT b T e = skT b T t T (i + 1) := by unfold enT; rw [if_neg c0, if_pos (by omega), hte, eS]
              exact q M2 hm2 ⟨by rw [hte]; exact g1, by rw [eS]; exact g2, by rw [een]; exact g3, by unfold vT; rw [if_neg (by omega)]; exact g4⟩) T (i + 1) (by omega) (by omega) (by omega) rfl (fun j h1 hj => by rw [show j = i by omega, ← hk]; exact hte) _ ((st3 r 0).up 4 _ (by decide)) (by rw [← hte]; exact hr) h4 e4 rfl
          refine xeq (tkT b T e) 1 hr rfl (by omega) (by decide) (fun c1 => ?_) (fun c1 => ?_)
          · exact l2 1 c1 (Or.inl rfl)
          refine xeq (tkT b T e) 2 hr rfl (by omega) (by decide) (fun c2 => ?_) (fun c2 => ?_)
          · exact l2 2 c2 (Or.inr rfl)
          refine xelse (show ¬ r = 2 by rw [hr, show (2 : Int32) = nI 2 from rfl, nI_eq (by omega) (by decide)]; exact c2) ?_
          exact q _ ((st3 r 0).up 4 _ (by decide)) ⟨hr, by rw [eS]; exact h4, (show M' 43 4 + 1 = nI (enT b T e) by unfold enT; rw [if_neg c0, if_neg (by omega), eS]; exact e4), (show (0 : Int32) = nI (vT b T e) by unfold vT; rw [if_neg c2]; rfl)⟩
    · refine xif (by rw [h4, tp'.1]; exact nI_le (by omega) (by omega)) ?_
      have e0 : tyT b T i = 0 := tyT_0.mpr (by omega)
      rw [skT, if_neg (by omega)] at hsk
      have eS : stT b T e = i := hsk.symm
      refine c_typeAt (M := xup M' 43 3 (M' 43 4)) (tp.cf (hm.up 3 _ (by decide))) i (by omega) h4 (fun r hr => ?_)
      have hk : tkT b T e = tyT b T i := by unfold tkT; rw [eS]
      have hle := tk_le b T e
      rw [← hk] at hr
      have st3 : ∀ v w : Int32, CfM M (xup (xup (xup M' 43 3 (M' 43 4)) 43 2 v) 43 5 w) := fun v w => ((hm.up 3 _ (by decide)).up 2 _ (by decide)).up 5 _ (by decide)
      refine xeq (tkT b T e) 0 hr rfl (by omega) (by decide) (fun c0 => ?_) (fun c0 => ?_)
      · refine xelse (show ¬ r = 1 by rw [hr, c0]; decide) ?_
        refine xelse (show ¬ r = 2 by rw [hr, c0]; decide) ?_
        refine xelse (show ¬ r = 2 by rw [hr, c0]; decide) ?_
        exact q _ (st3 r 0) ⟨hr, by rw [eS]; exact h4, (show M' 43 4 = nI (enT b T e) by unfold enT; rw [if_pos c0, eS]; exact h4), (show (0 : Int32) = nI (vT b T e) by unfold vT; rw [if_neg (by omega)]; rfl)⟩
      · have e4 : M' 43 4 + 1 = nI (i + 1) := by rw [h4, ← nI_succ]
        have hiT' : i < T := by
          have : ¬ T ≤ i := fun z => c0 (hk.trans (tyT_0.mpr z))
          omega
        have l2 : ∀ t, tkT b T e = t → (t = 1 ∨ t = 2) → Ev G (d + 1) jX2_next 94 [some (.ref 43)] [] (HH (xup (xup (xup (xup M' 43 3 (M' 43 4)) 43 2 r) 43 5 0) 43 4 (M' 43 4 + 1))) 0 0 Q := fun t hte ht => c_nextL tp i t ht (fun M2 hm2 hh h2t => by
            obtain ⟨g1, g2, g3, g4⟩ := hh
            have een : enT b T e = skT b T t T (i + 1) := by unfold enT; rw [if_neg c0, if_pos (by omega), hte, eS]
            exact q M2 hm2 ⟨by rw [hte]; exact g1, by rw [eS]; exact g2, by rw [een]; exact g3, by unfold vT; rw [if_pos (by omega), een, eS]; exact g4⟩) (fun M2 hm2 hh h2t => by
            obtain ⟨g1, g2, g3, g4⟩ := hh
            have een : enT b T e = skT b T t T (i + 1) := by unfold enT; rw [if_neg c0, if_pos (by omega), hte, eS]
            exact q M2 hm2 ⟨by rw [hte]; exact g1, by rw [eS]; exact g2, by rw [een]; exact g3, by unfold vT; rw [if_neg (by omega)]; exact g4⟩) T (i + 1) (by omega) (by omega) (by omega) rfl (fun j h1 hj => by rw [show j = i by omega, ← hk]; exact hte) _ ((st3 r 0).up 4 _ (by decide)) (by rw [← hte]; exact hr) h4 e4 rfl
        refine xeq (tkT b T e) 1 hr rfl (by omega) (by decide) (fun c1 => ?_) (fun c1 => ?_)
        · exact l2 1 c1 (Or.inl rfl)
        refine xeq (tkT b T e) 2 hr rfl (by omega) (by decide) (fun c2 => ?_) (fun c2 => ?_)
        · exact l2 2 c2 (Or.inr rfl)
        refine xelse (show ¬ r = 2 by rw [hr, show (2 : Int32) = nI 2 from rfl, nI_eq (by omega) (by decide)]; exact c2) ?_
        exact q _ ((st3 r 0).up 4 _ (by decide)) ⟨hr, by rw [eS]; exact h4, (show M' 43 4 + 1 = nI (enT b T e) by unfold enT; rw [if_neg c0, if_neg (by omega), eS]; exact e4), (show (0 : Int32) = nI (vT b T e) by unfold vT; rw [if_neg c2]; rfl)⟩
theorem c_next (tp : TpC b T M) (e : Nat) (he : e ≤ T) (h4 : M 43 4 = nI e) (q : ∀ M', CfM M M' → LxC b T e M' → Q none (HH M')) : CW G (d + 1) jX2_next [.ref 43] (HH M) Q := CW_ev fX2_next rfl rfl (c_nextE tp e q T e he (by omega) rfl M (CfM.refl M) h4)
end LC
