/-! The model's reader, TOKEN by TOKEN. -/
/-- the model's sort of a TOKEN, and its value -/
def tmT (b : Nat → Nat) (T e : Nat) : Nat := if tkT b T e = 5 then 3 else tkT b T e
def vmT (b : Nat → Nat) (T e : Nat) : Nat := if tkT b T e = 2 then min 1000 (vaT b (stT b T e) (enT b T e - stT b T e)) else 0
theorem tm_le (b : Nat → Nat) (T e : Nat) : tmT b T e ≤ 3 := by
  have h1 := tk_le b T e
  have h2 := tk_4 b T e
  unfold tmT
  split <;> omega
theorem vm_le (b : Nat → Nat) (T e : Nat) : vmT b T e ≤ 1000 := by
  unfold vmT
  split <;> omega
def TpM (b : Nat → Nat) (T : Nat) (M : xM) : Prop := M 59 10 = nI T ∧ T ≤ 120 ∧ (∀ i, i < T → M 66 i = nI (b i)) ∧ ∀ i, b i < 256
def LxM (b : Nat → Nat) (T e : Nat) (M : xM) : Prop := M 59 13 = nI (tmT b T e) ∧ M 59 11 = nI (stT b T e) ∧ M 59 12 = nI (enT b T e) ∧ M 59 14 = nI (vmT b T e)
def MfM (M M' : xM) : Prop := (∀ r, r ≠ 59 → M' r = M r) ∧ ∀ j, j < 11 ∨ 14 < j → M' 59 j = M 59 j
theorem MfM.refl (M : xM) : MfM M M := ⟨fun _ _ => rfl, fun _ _ => rfl⟩
theorem MfM.trans {M M' M'' : xM} (h : MfM M M') (h2 : MfM M' M'') : MfM M M'' := ⟨fun r a => (h2.1 r a).trans (h.1 r a), fun j a => (h2.2 j a).trans (h.2 j a)⟩
theorem MfM.up {M M' : xM} (h : MfM M M') (k : Nat) (v : Int32) (hk : 11 ≤ k ∧ k ≤ 14) : MfM M (xup M' 59 k v) := ⟨fun r a => (xrow_ne a).trans (h.1 r a), fun j a => (show upd (M' 59) k v j = M 59 j from (pk_un (by omega)).trans (h.2 j a))⟩
theorem TpM.cf {b : Nat → Nat} {T : Nat} {M M' : xM} (t : TpM b T M) (h : MfM M M') : TpM b T M' := ⟨(h.2 10 (by decide)).trans t.1, t.2.1, fun i hi => by rw [h.1 66 (by decide)]; exact t.2.2.1 i hi, t.2.2.2⟩
theorem bs_1 {c : Nat} : bsT c = 1 ↔ 97 ≤ c ∧ c ≤ 122 := by unfold bsT; (repeat' split) <;> omega
theorem bs_2 {c : Nat} : bsT c = 2 ↔ 48 ≤ c ∧ c ≤ 57 := by unfold bsT; (repeat' split) <;> omega
theorem bs_4 {c : Nat} : bsT c = 4 ↔ c = 32 := by unfold bsT; (repeat' split) <;> omega
theorem sk_f (b : Nat → Nat) (T t : Nat) (ht : t ≠ 0) : ∀ n e, T ≤ n + e → skT b T t (n + 1) e = skT b T t n e
  | 0, e, h => by
    rw [skT, skT, if_neg (by rw [tyT_0.mpr (by omega)]; exact Ne.symm ht)]
  | n + 1, e, h => by
    rw [skT]
    conv => rhs; rw [skT]
    by_cases c : tyT b T e = t
    · rw [if_pos c, if_pos c]
      exact sk_f b T t ht n (e + 1) (by omega)
    · rw [if_neg c, if_neg c]
section LM
variable {G : xG} {d : Nat} {M : xM} {Q : Option Value → xH → Prop} {b : Nat → Nat} {T : Nat}
theorem m_byteAt (tp : TpM b T M) {x : Int32} (i : Nat) (hi : i ≤ 120) (hx : x = nI i) (q1 : i < T → Q (some (.int (nI (b i)))) (HH M)) (q0 : T ≤ i → Q (some (.int (-1))) (HH M)) : CW G d jX9_byteAt [.ref 59, .int x] (HH M) Q := by
  obtain ⟨t1, t2, t3, t4⟩ := tp
  refine CW_wp fX9_byteAt rfl rfl rfl ?_
  refine xle T i t1 hx (by omega) (by omega) (fun c => q0 c) (fun c => ?_)
  refine xix (n := 120) i hx (by omega) (by decide) (fun e => ?_)
  rw [e, t3 i c]
  exact q1 c
/-- a byte of that sort, so asked by the model -/
theorem m_byteS {d : Nat} (tp : TpM b T M) {x : Int32} (i : Nat) (hi : i ≤ 120) (hx : x = nI i) (q : ∀ r : Int32, (i < T → r = nI (b i)) → (T ≤ i → r = -1) → Q (some (.int r)) (HH M)) : CW G d jX9_byteAt [.ref 59, .int x] (HH M) Q :=
  m_byteAt tp i hi hx (fun c => q _ (fun _ => rfl) (fun z => absurd c (by omega))) (fun c => q _ (fun z => absurd c (by omega)) (fun _ => rfl))
theorem m_wiS {h : xH} {r : Int32} (i t lo hi : Nat) {y z : Int32} (hy : y = nI lo) (hz : z = nI hi) (hlo : lo < 1000) (hhi : hi < 1000) (hb : b i < 256) (ht : t ≠ 0) (hbs : bsT (b i) = t ↔ lo ≤ b i ∧ b i ≤ hi) (r1 : i < T → r = nI (b i)) (r0 : T ≤ i → r = -1) (q1 : tyT b T i = t → Q (some (.int 1)) h) (q0 : tyT b T i ≠ t → Q (some (.int 0)) h) : CW G d jX9_within [.int r, .int y, .int z] h Q := by
  by_cases c : i < T
  · by_cases c2 : lo ≤ b i ∧ b i ≤ hi
    · exact m_within_t (b i) lo hi (r1 c) hy hz c2.1 c2.2 (by omega) (q1 (by unfold tyT; rw [if_pos c]; exact hbs.mpr c2))
    · refine m_within_f lo hi hy hz (by omega) (by omega) (fun k h1 h2 z => ?_) (q0 (by unfold tyT; rw [if_pos c]; exact fun z => c2 (hbs.mp z)))
      rw [r1 c] at z
      have : b i = k := (nI_eq (by omega) (by omega)).mp z
      omega
  · refine m_within_f lo hi hy hz (by omega) (by omega) (fun k h1 h2 z => ?_) (q0 (by unfold tyT; rw [if_neg c]; exact Ne.symm ht))
    rw [r0 (by omega)] at z
    exact absurd z.symm (nm1 (by omega))
theorem m_nextW (tp : TpM b T M) (s : Nat) (q : ∀ M', MfM M M' → M' 59 13 = nI 1 → M' 59 11 = nI s → M' 59 12 = nI (skT b T 1 (T + 1) s) → M' 59 14 = 0 → Q none (HH M')) : ∀ (n i : Nat), i ≤ T → T < n + i → skT b T 1 n i = skT b T 1 (T + 1) s → ∀ M', MfM M M' → M' 59 13 = nI 1 → M' 59 11 = nI s → M' 59 12 = nI i → M' 59 14 = 0 → Ev G (d + 1) jX9_next 84 [some (.ref 59), none] [] (HH M') 0 0 Q := by
  intro n
  have hT := tp.2.1
  induction n with
  | zero => intro i hi hn; omega
  | succ n ih =>
    intro i hi hn hsk M' hm h13 h11 h12 h14
    have tp' := tp.cf hm
    refine Ev_wp fX9_next rfl ?_
    refine m_byteS tp' i (by omega) h12 (fun r2 r1 r0 => ?_)
    refine m_wiS (b := b) (T := T) i 1 97 122 rfl rfl (by decide) (by decide) (tp.2.2.2 i) (by decide) bs_1 r1 r0 (fun c => ?_) (fun c => ?_)
    · rw [skT, if_pos c] at hsk
      have : ¬ T ≤ i := fun z => by rw [tyT_0.mpr z] at c; cases c
      exact ih (i + 1) (by omega) (by omega) hsk (xup M' 59 12 (M' 59 12 + 1)) (hm.up 12 _ (by decide)) h13 h11 (show M' 59 12 + 1 = nI (i + 1) by rw [h12, ← nI_succ]) h14
    · rw [skT, if_neg c] at hsk
      exact q M' hm h13 h11 (by rw [h12, hsk]) h14
theorem m_nextD (tp : TpM b T M) (s : Nat) (q : ∀ M', MfM M M' → M' 59 13 = nI 2 → M' 59 11 = nI s → M' 59 12 = nI (skT b T 2 (T + 1) s) → M' 59 14 = nI (min 1000 (vaT b s (skT b T 2 (T + 1) s - s))) → Q none (HH M')) : ∀ (n i : Nat), s ≤ i → i ≤ T → T < n + i → skT b T 2 n i = skT b T 2 (T + 1) s → ∀ M', MfM M M' → M' 59 13 = nI 2 → M' 59 11 = nI s → M' 59 12 = nI i → M' 59 14 = nI (min 1000 (vaT b s (i - s))) → Ev G (d + 1) jX9_next 131 [some (.ref 59), none] [] (HH M') 0 0 Q := by
  intro n
  have hT := tp.2.1
  induction n with
  | zero => intro i hs hi hn; omega
  | succ n ih =>
    intro i hs hi hn hsk M' hm h13 h11 h12 h14
    have tp' := tp.cf hm
    refine Ev_wp fX9_next rfl ?_
    refine m_byteS tp' i (by omega) h12 (fun r2 r1 r0 => ?_)
    refine m_wiS (b := b) (T := T) i 2 48 57 rfl rfl (by decide) (by decide) (tp.2.2.2 i) (by decide) bs_2 r1 r0 (fun c => ?_) (fun c => ?_)
    · rw [skT, if_pos c] at hsk
      have hiT : ¬ T ≤ i := fun z => by rw [tyT_0.mpr z] at c; cases c
      have hdg := ty_2 c
      have hb := tp.2.2.2 i
      refine m_byteS tp' i (by omega) h12 (fun r3 r4 r5 => ?_)
      have e3 : 10 * M' 59 14 + r3 - 48 = nI (10 * min 1000 (vaT b s (i - s)) + b i - 48) := isb (ia (im rfl h14) (r4 (by omega))) rfl (by omega)
      have e4 : (if 10 * M' 59 14 + r3 - 48 < 1000 then 10 * M' 59 14 + r3 - 48 else 1000) = nI (min 1000 (vaT b s (i + 1 - s))) := by
        rw [e3, show (1000 : Int32) = nI 1000 from rfl, nI_min _ _ (by decide) (by omega)]
        congr 1
        rw [show i + 1 - s = (i - s) + 1 by omega, vaT, show s + (i - s) = i by omega]
        split <;> omega
      exact ih (i + 1) (by omega) (by omega) (by omega) hsk (xup (xup M' 59 14 _) 59 12 (M' 59 12 + 1)) ((hm.up 14 _ (by decide)).up 12 _ (by decide)) h13 h11 (show M' 59 12 + 1 = nI (i + 1) by rw [h12, ← nI_succ]) e4
    · rw [skT, if_neg c] at hsk
      exact q M' hm h13 h11 (by rw [h12, hsk]) (by rw [h14, hsk])
theorem m_nextE (tp : TpM b T M) (e : Nat) (q : ∀ M', MfM M M' → LxM b T e M' → Q none (HH M')) : ∀ (n i : Nat), i ≤ T → T < n + i → skT b T 4 n i = stT b T e → ∀ M', MfM M M' → M' 59 11 = nI i → Ev G (d + 1) jX9_next 8 [some (.ref 59), none] [] (HH M') 0 0 Q := by
  intro n
  have hT := tp.2.1
  induction n with
  | zero => intro i hi hn; omega
  | succ n ih =>
    intro i hi hn hsk M' hm h11
    have tp' := tp.cf hm
    have hb := tp.2.2.2 i
    refine Ev_wp fX9_next rfl ?_
    refine m_byteS tp' i (by omega) h11 (fun r2 r1 r0 => ?_)
    have key : r2 = 32 ↔ tyT b T i = 4 := by
      by_cases hi2 : i < T
      · rw [r1 hi2, show (32 : Int32) = nI 32 from rfl, nI_eq (by omega) (by decide)]
        unfold tyT
        rw [if_pos hi2]
        exact bs_4.symm
      · rw [r0 (by omega), tyT_0.mpr (by omega)]
        decide
    refine xite (fun c => ?_) (fun c => ?_)
    · have c := key.mp c
      rw [skT, if_pos c] at hsk
      have : ¬ T ≤ i := fun z => by rw [tyT_0.mpr z] at c; cases c
      exact ih (i + 1) (by omega) (by omega) hsk (xup M' 59 11 (M' 59 11 + 1)) (hm.up 11 _ (by decide)) (show M' 59 11 + 1 = nI (i + 1) by rw [h11, ← nI_succ])
    · have c : ¬ tyT b T i = 4 := fun z => c (key.mpr z)
      rw [skT, if_neg c] at hsk
      have eS : stT b T e = i := hsk.symm
      have hk : tkT b T e = tyT b T i := by unfold tkT; rw [eS]
      have st3 : ∀ v : Int32, MfM M (xup (xup (xup M' 59 12 (M' 59 11)) 59 14 0) 59 13 v) := fun v => ((hm.up 12 _ (by decide)).up 14 _ (by decide)).up 13 _ (by decide)
      refine m_byteS tp' i (by omega) h11 (fun r4 r5 r6 => ?_)
      by_cases hi2 : i < T
      · have c0 : tkT b T e ≠ 0 := fun z => by rw [hk] at z; have := tyT_0.mp z; omega
        refine xle 0 (b i) rfl (r5 hi2) (by decide) (by omega) (fun _ => ?_) (fun z => absurd z (by omega))
        refine m_wiS (b := b) (T := T) i 1 97 122 rfl rfl (by decide) (by decide) hb (by decide) bs_1 r5 r6 (fun c1 => ?_) (fun c1 => ?_)
        · refine m_nextW tp i (fun M2 hm2 g1 g2 g3 g4 => ?_) (T + 1) i (by omega) (by omega) rfl _ (st3 1) rfl h11 h11 rfl
          have een : enT b T e = skT b T 1 (T + 1) i := by unfold enT; rw [if_neg c0, if_pos (by omega), hk, c1, eS, skT, if_pos c1]
          exact q M2 hm2 ⟨by unfold tmT; rw [if_neg (by omega), hk, c1]; exact g1, by rw [eS]; exact g2, by rw [een]; exact g3, by unfold vmT; rw [if_neg (by omega)]; exact g4⟩
        refine m_wiS (b := b) (T := T) i 2 48 57 rfl rfl (by decide) (by decide) hb (by decide) bs_2 r5 r6 (fun c2 => ?_) (fun c2 => ?_)
        · refine m_nextD tp i (fun M2 hm2 g1 g2 g3 g4 => ?_) (T + 1) i (Nat.le_refl _) (by omega) (by omega) rfl _ (st3 2) rfl h11 h11 (by rw [Nat.sub_self]; rfl)
          have een : enT b T e = skT b T 2 (T + 1) i := by unfold enT; rw [if_neg c0, if_pos (by omega), hk, c2, eS, skT, if_pos c2]
          exact q M2 hm2 ⟨by unfold tmT; rw [if_neg (by omega), hk, c2]; exact g1, by rw [eS]; exact g2, by rw [een]; exact g3, by unfold vmT; rw [if_pos (by omega), een, eS]; exact g4⟩
        have k4 := tk_4 b T e
        have k5 := tk_le b T e
        refine q _ ((st3 3).up 12 _ (by decide)) ⟨(show (3 : Int32) = nI (tmT b T e) by unfold tmT; split; rfl; rw [show tkT b T e = 3 by omega]; rfl), by rw [eS]; exact h11, (show M' 59 11 + 1 = nI (enT b T e) by unfold enT; rw [if_neg c0, if_neg (by omega), eS, h11, ← nI_succ]), (show (0 : Int32) = nI (vmT b T e) by unfold vmT; rw [if_neg (by omega)]; rfl)⟩
      · have c0 : tkT b T e = 0 := by rw [hk]; exact tyT_0.mpr (by omega)
        have e6 := r6 (by omega)
        subst e6
        exact q _ (st3 0) ⟨(show (0 : Int32) = nI (tmT b T e) by unfold tmT; rw [if_neg (by omega), c0]; rfl), by rw [eS]; exact h11, (show M' 59 11 = nI (enT b T e) by unfold enT; rw [if_pos c0, eS]; exact h11), (show (0 : Int32) = nI (vmT b T e) by unfold vmT; rw [if_neg (by omega)]; rfl)⟩
theorem m_next (tp : TpM b T M) (e : Nat) (he : e ≤ T) (h12 : M 59 12 = nI e) (q : ∀ M', MfM M M' → LxM b T e M' → Q none (HH M')) : CW G (d + 1) jX9_next [.ref 59] (HH M) Q := by
  refine CW_wp fX9_next rfl rfl rfl ?_
  exact m_nextE tp e q (T + 1) e he (by omega) (sk_f b T 4 (by decide) T e (by omega)) _ ((MfM.refl M).up 11 _ (by decide)) h12
end LM
