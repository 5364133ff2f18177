/-! PERSONS: person, load. -/
def ldF (f : Nat → Int32) (v : Nat → Int32) (b i : Nat) : Nat → Int32 := fun j => if b ≤ j ∧ j < b + i then v (j - b) else f j
theorem ld_un {f v : Nat → Int32} {b i j : Nat} (h : j < b ∨ b + i ≤ j) : ldF f v b i j = f j := if_neg (by omega)
theorem ld_in {f v : Nat → Int32} {b i j : Nat} (h1 : b ≤ j) (h2 : j < b + i) : ldF f v b i j = v (j - b) := if_pos ⟨h1, h2⟩
theorem ld_0 (f v : Nat → Int32) (b : Nat) : ldF f v b 0 = f := by
  funext j
  exact ld_un (by omega)
theorem ld_s (f v : Nat → Int32) (b i : Nat) : upd (ldF f v b i) (b + i) (v i) = ldF f v b (i + 1) := by
  funext j
  unfold upd ldF
  by_cases h : j = b + i
  · rw [if_pos h, if_pos (by omega), show j - b = i by omega]
  · rw [if_neg h]
    by_cases h2 : b ≤ j ∧ j < b + i
    · rw [if_pos h2, if_pos (by omega)]
    · rw [if_neg h2, if_neg (by omega)]
def thP (x : Int32) : Prop := x = -1 ∨ ∃ p, p < 10 ∧ x = nI p
theorem th_w {x : Int32} (h1 : (-1 : Int32) ≤ x) (h2 : x ≤ 9) : thP x := by
  by_cases c : x < 0
  · left
    rw [Int32.le_iff_toInt_le] at h1
    rw [Int32.lt_iff_toInt_lt] at c
    have e1 : (-1 : Int32).toInt = -1 := by decide
    have e0 : (0 : Int32).toInt = 0 := by decide
    exact Int32.toInt_inj.mp (by omega)
  · right
    exact w_ix (n := 9) (by decide) (Int32.not_lt.mp c) h2
theorem w_th {x : Int32} (h : thP x) : (-1 : Int32) ≤ x ∧ x ≤ 9 := by
  rcases h with rfl | ⟨p, hp, rfl⟩
  · exact ⟨by decide, by decide⟩
  · exact ⟨Int32.le_trans (by decide) (nI_pos' (show p < 2 ^ 31 by omega)), nI_le (b := 9) (by omega) (by decide)⟩
section P1
variable {G : xG} {M : xM} {Q : Option Value → xH → Prop}
theorem m_th_t {d : Nat} {h : xH} {x : Int32} (hx : thP x) (q : Q (some (.int 1)) h) : CW G d jX9_within [.int x, .int (-1), .int 9] h Q := m_within _ _ _ (fun _ _ => q) (fun z => absurd (w_th hx) z)
theorem m_th_f {d : Nat} {h : xH} {x : Int32} (hx : ¬ thP x) (q : Q (some (.int 0)) h) : CW G d jX9_within [.int x, .int (-1), .int 9] h Q := m_within _ _ _ (fun a b => absurd (th_w a b) hx) (fun _ => q)
theorem wf_ppl {N : Nat → Int32} (w : Wf N) (v : Nat → Int32) (b i : Nat) (hb : b + i ≤ 144) (hv : ∀ j, j < i → thP (v j)) : Wf (ldF N v (444 + b) i) := by
  have h40 := w.2.1.2
  exact ⟨wc1 (ld_un (by omega)) w, wc2 (ld_un (by omega)) w, wc3 (ld_un (by omega)) w, wc4 (fun j hj => (ld_un (by omega))) w, wc5 (fun a b ha hb => (ld_un (by omega))) w, wc6 (fun a b ha hb => (ld_un (by omega))) w, wc7 (ld_un (by omega)) (fun s f hs hf => (ld_un (by omega))) w, wc8 (Nat.le_of_eq (vN_e (ld_un (by omega))).symm) (ld_un (by omega)) (fun s f hs hf => (ld_un (by omega))) w, wc9 (ld_un (by omega)) (fun s f hs hf => (ld_un (by omega))) w, fun q hq => by
    by_cases z : 444 + b ≤ 444 + q ∧ 444 + q < 444 + b + i
    · rw [ld_in z.1 z.2]; exact hv _ (by omega)
    · rw [ld_un (by omega)]; exact w.2.2.2.2.2.2.2.2.2.1 q hq, wc11 (ld_un (by omega)) (fun j hj => (ld_un (by omega))) w⟩
theorem pv_ppl1 {N : Nat → Int32} (w : Wf N) (i2 : PV 1 N M) (v : Nat → Int32) (b i : Nat) (hb : b + i ≤ 144) : PV 1 (ldF N v (444 + b) i) (xrow M 12 (ldF (M 12) v b i)) := by
  have h40 := w.2.1.2
  exact ⟨i2.1.trans (ld_un (by omega)).symm, i2.2.1.trans (ld_un (by omega)).symm, i2.2.2.1.trans (ld_un (by omega)).symm, i2.2.2.2.1.trans (ld_un (by omega)).symm, fun j hj => (i2.2.2.2.2.1 j hj).trans (ld_un (by omega)).symm, fun p hp => (i2.2.2.2.2.2.1 p hp).trans (congrArg nI (bts_congr (fun q hq => (wy_e (fun a b ha hb => (ld_un (by omega))) hp hq).symm))), fun s hs f hf => by rw [sN_e (ld_un (by omega))] at hs; exact (row_ne (by omega)).trans ((i2.2.2.2.2.2.2.1 s hs f hf).trans (ld_un (by omega)).symm), fun q hq => by
    by_cases z : b ≤ q ∧ q < b + i
    · rw [ld_in (b := 444 + b) (by omega) (by omega), show 444 + q - (444 + b) = q - b by omega]
      exact ld_in z.1 z.2
    · rw [ld_un (b := 444 + b) (by omega), ← i2.2.2.2.2.2.2.2.1 q hq]
      exact ld_un (by omega), fun j hj => (i2.2.2.2.2.2.2.2.2 j hj).trans (ld_un (by omega)).symm⟩
theorem c_pput1 {d : Nat} {x v y z : Int32} (p a e : Nat) (hp : p < 6) (ha : a ≤ e) (he : e < 24) (hx : x = nI p) (hy : y = nI a) (hz : z = nI e) (q : Q none (HH (xrow M 12 (ldF (M 12) (fun _ => v) (24 * p + a) (e + 1 - a))))) : CW G d jX1_put [.ref 11, .int x, .int v, .int y, .int z] (HH M) Q := by
  subst hx hy hz
  refine CW_wp fX1_put rfl rfl rfl ?_
  have key : Ev G d jX1_put 3 [some (.ref 11), some (.int (nI p)), some (.int v), none, some (.int (nI e)), some (.int (nI a))] [] (HH (xrow M 12 (ldF (M 12) (fun _ => v) (24 * p + a) (a - a)))) 0 0 Q := by
    refine dn (E := fun i => Ev G d jX1_put 3 [some (.ref 11), some (.int (nI p)), some (.int v), none, some (.int (nI e)), some (.int (nI i))] [] (HH (xrow M 12 (ldF (M 12) (fun _ => v) (24 * p + a) (i - a)))) 0 0 Q) (show a ≤ e + 1 by omega) ?_ (fun i h1 h2 ih => ?_)
    · refine Ev_wp fX1_put rfl ?_
      refine xif (nI_lt (by omega) (by omega)) ?_
      exact q
    · refine Ev_wp fX1_put rfl ?_
      refine xelse (nI_nlt (by omega) (by omega)) ?_
      refine xix (n := 144) (p * 24 + i) (ia (im rfl rfl) rfl) (by omega) (by decide) (fun e9 => ?_)
      rw [e9, xup_row]
      rw [nI_succ i, show i + 1 - a = (i - a) + 1 by omega, ← ld_s, show 24 * p + a + (i - a) = p * 24 + i by omega] at ih
      exact ih
  rw [Nat.sub_self, ld_0, xrow_self] at key
  exact key
theorem pv_ppl29 {N : Nat → Int32} (w : Wf N) (i2 : PV 29 N M) (v : Nat → Int32) (b i : Nat) (hb : b + i ≤ 144) : PV 29 (ldF N v (444 + b) i) (xrow M 40 (ldF (M 40) v b i)) := by
  have h40 := w.2.1.2
  exact ⟨i2.1.trans (ld_un (by omega)).symm, i2.2.1.trans (ld_un (by omega)).symm, i2.2.2.1.trans (ld_un (by omega)).symm, i2.2.2.2.1.trans (ld_un (by omega)).symm, fun j hj => (i2.2.2.2.2.1 j hj).trans (ld_un (by omega)).symm, fun p hp => (i2.2.2.2.2.2.1 p hp).trans (congrArg nI (bts_congr (fun q hq => (wy_e (fun a b ha hb => (ld_un (by omega))) hp hq).symm))), fun s hs f hf => by rw [sN_e (ld_un (by omega))] at hs; exact (row_ne (by omega)).trans ((i2.2.2.2.2.2.2.1 s hs f hf).trans (ld_un (by omega)).symm), fun q hq => by
    by_cases z : b ≤ q ∧ q < b + i
    · rw [ld_in (b := 444 + b) (by omega) (by omega), show 444 + q - (444 + b) = q - b by omega]
      exact ld_in z.1 z.2
    · rw [ld_un (b := 444 + b) (by omega), ← i2.2.2.2.2.2.2.2.1 q hq]
      exact ld_un (by omega), fun j hj => (i2.2.2.2.2.2.2.2.2 j hj).trans (ld_un (by omega)).symm⟩
theorem c_pput29 {d : Nat} {x v y z : Int32} (p a e : Nat) (hp : p < 6) (ha : a ≤ e) (he : e < 24) (hx : x = nI p) (hy : y = nI a) (hz : z = nI e) (q : Q none (HH (xrow M 40 (ldF (M 40) (fun _ => v) (24 * p + a) (e + 1 - a))))) : CW G d jX1_put [.ref 39, .int x, .int v, .int y, .int z] (HH M) Q := by
  subst hx hy hz
  refine CW_wp fX1_put rfl rfl rfl ?_
  have key : Ev G d jX1_put 3 [some (.ref 39), some (.int (nI p)), some (.int v), none, some (.int (nI e)), some (.int (nI a))] [] (HH (xrow M 40 (ldF (M 40) (fun _ => v) (24 * p + a) (a - a)))) 0 0 Q := by
    refine dn (E := fun i => Ev G d jX1_put 3 [some (.ref 39), some (.int (nI p)), some (.int v), none, some (.int (nI e)), some (.int (nI i))] [] (HH (xrow M 40 (ldF (M 40) (fun _ => v) (24 * p + a) (i - a)))) 0 0 Q) (show a ≤ e + 1 by omega) ?_ (fun i h1 h2 ih => ?_)
    · refine Ev_wp fX1_put rfl ?_
      refine xif (nI_lt (by omega) (by omega)) ?_
      exact q
    · refine Ev_wp fX1_put rfl ?_
      refine xelse (nI_nlt (by omega) (by omega)) ?_
      refine xix (n := 144) (p * 24 + i) (ia (im rfl rfl) rfl) (by omega) (by decide) (fun e9 => ?_)
      rw [e9, xup_row]
      rw [nI_succ i, show i + 1 - a = (i - a) + 1 by omega, ← ld_s, show 24 * p + a + (i - a) = p * 24 + i by omega] at ih
      exact ih
  rw [Nat.sub_self, ld_0, xrow_self] at key
  exact key
theorem m_isAt {d : Nat} {x v y z : Int32} (p a e : Nat) (hp : p < 6) (ha : a ≤ e) (he : e < 24) (hx : x = nI p) (hy : y = nI a) (hz : z = nI e) (q : Q none (HH (xrow M 60 (ldF (M 60) (fun _ => v) (444 + (24 * p + a)) (e + 1 - a))))) : CW G d jX9_isAt [.ref 59, .int x, .int v, .int y, .int z] (HH M) Q := by
  subst hx hy hz
  refine CW_wp fX9_isAt rfl rfl rfl ?_
  have key : Ev G d jX9_isAt 3 [some (.ref 59), some (.int (nI p)), some (.int v), none, some (.int (nI e)), some (.int (nI a))] [] (HH (xrow M 60 (ldF (M 60) (fun _ => v) (444 + (24 * p + a)) (a - a)))) 0 0 Q := by
    refine dn (E := fun i => Ev G d jX9_isAt 3 [some (.ref 59), some (.int (nI p)), some (.int v), none, some (.int (nI e)), some (.int (nI i))] [] (HH (xrow M 60 (ldF (M 60) (fun _ => v) (444 + (24 * p + a)) (i - a)))) 0 0 Q) (show a ≤ e + 1 by omega) ?_ (fun i h1 h2 ih => ?_)
    · refine Ev_wp fX9_isAt rfl ?_
      refine xif (nI_lt (by omega) (by omega)) ?_
      exact q
    · refine Ev_wp fX9_isAt rfl ?_
      refine xelse (nI_nlt (by omega) (by omega)) ?_
      refine xix (n := 598) (444 + 24 * p + i) (ia (ia rfl (im rfl rfl)) rfl) (by omega) (by decide) (fun e9 => ?_)
      rw [e9, xup_row]
      rw [nI_succ i, show i + 1 - a = (i - a) + 1 by omega, ← ld_s, show 444 + (24 * p + a) + (i - a) = 444 + 24 * p + i by omega] at ih
      exact ih
  rw [Nat.sub_self, ld_0, xrow_self] at key
  exact key
theorem iv_ppl (I : Iv 0 M) (v : Nat → Int32) (b i : Nat) (hb : b + i ≤ 144) (hv : ∀ j, j < i → thP (v j)) : Iv 0 (xrow (xrow M 12 (ldF (M 12) v b i)) 60 (ldF (M 60) v (444 + b) i)) := by
  obtain ⟨i1, i2, i3, i4, i5, i6, i7, i8⟩ := I
  exact ⟨wf_ppl i1 v b i hb hv, (pv_ppl1 i1 i2 v b i hb).row (by decide), (i3.row (by decide)).row (by decide), i4, i5.e (N' := ldF (M 60) v (444 + b) i) (fun a b ha hb => ld_un (by omega)) rfl rfl, i6, i7, i8⟩
theorem st_person (I : Iv 0 M) (x y z u : Int32) (q : ∀ r M1, Aft G jX9_person [.ref 59, .int x, .int y, .int z, .int u] r M1 → Q (some (.int r)) (HH M1)) : CW G 11 jX8_person [.ref 0, .int x, .int y, .int z, .int u] (HH M) Q := by
  have hw := I.1
  have hp := I.2.1
  have hsr := I.2.2.2.2.1
  have h40 := hw.2.1.2
  have hn : M 60 = M 60 := rfl
  refine CW_wp fX8_person rfl rfl rfl ?_
  refine c_isPlace y (fun pl hpl epl => ?_) (fun npl => ?_)
  · have hth : thP y := Or.inr ⟨pl, hpl, epl⟩
    refine c_isPerson x (fun p hp0 ep => ?_) (fun np => ?_)
    · refine c_isHour z (fun a ha ea => ?_) (fun na => ?_)
      · refine c_isHour u (fun b hb eb => ?_) (fun nb => ?_)
        · refine xle a b ea eb (by omega) (by omega) (fun c => ?_) (fun c => ?_)
          · refine c_pput1 p a b hp0 c hb ep ea eb ?_
            refine q _ _ (fun Q1 q1 => ?_)
            refine CW_wp fX9_person rfl rfl rfl ?_
            refine m_isPerson_t p hp0 ep ?_
            refine m_th_t hth ?_
            refine m_isHour_t a ha ea ?_
            refine m_isHour_t b hb eb ?_
            refine xif (by rw [ea, eb]; exact nI_le c (by omega)) ?_
            refine m_isAt p a b hp0 c hb ep ea eb ?_
            exact q1 _ (iv_ppl I (fun _ => y) (24 * p + a) (b + 1 - a) (by omega) (fun _ _ => hth))
          · refine c_fin0 ?_
            refine q _ _ (fun Q1 q1 => ?_)
            refine CW_wp fX9_person rfl rfl rfl ?_
            refine m_isPerson_t p hp0 ep ?_
            refine m_th_t hth ?_
            refine m_isHour_t a ha ea ?_
            refine m_isHour_t b hb eb ?_
            refine xelse (by rw [ea, eb]; exact nI_ge c (by omega)) ?_
            exact m_fin0 (iv_fc I) q1
        · refine c_fin0 ?_
          refine q _ _ (fun Q1 q1 => ?_)
          refine CW_wp fX9_person rfl rfl rfl ?_
          refine m_isPerson_t p hp0 ep ?_
          refine m_th_t hth ?_
          refine m_isHour_t a ha ea ?_
          refine m_isHour_f nb ?_
          exact m_fin0 (iv_fc I) q1
      · refine c_fin0 ?_
        refine q _ _ (fun Q1 q1 => ?_)
        refine CW_wp fX9_person rfl rfl rfl ?_
        refine m_isPerson_t p hp0 ep ?_
        refine m_th_t hth ?_
        refine m_isHour_f na ?_
        exact m_fin0 (iv_fc I) q1
    · refine c_fin0 ?_
      refine q _ _ (fun Q1 q1 => ?_)
      refine CW_wp fX9_person rfl rfl rfl ?_
      refine m_isPerson_f np ?_
      exact m_fin0 (iv_fc I) q1
  · refine xite (fun c => ?_) (fun c => ?_)
    · have hth : thP y := Or.inl c
      refine c_isPerson x (fun p hp0 ep => ?_) (fun np => ?_)
      · refine c_isHour z (fun a ha ea => ?_) (fun na => ?_)
        · refine c_isHour u (fun b hb eb => ?_) (fun nb => ?_)
          · refine xle a b ea eb (by omega) (by omega) (fun c => ?_) (fun c => ?_)
            · refine c_pput1 p a b hp0 c hb ep ea eb ?_
              refine q _ _ (fun Q1 q1 => ?_)
              refine CW_wp fX9_person rfl rfl rfl ?_
              refine m_isPerson_t p hp0 ep ?_
              refine m_th_t hth ?_
              refine m_isHour_t a ha ea ?_
              refine m_isHour_t b hb eb ?_
              refine xif (by rw [ea, eb]; exact nI_le c (by omega)) ?_
              refine m_isAt p a b hp0 c hb ep ea eb ?_
              exact q1 _ (iv_ppl I (fun _ => y) (24 * p + a) (b + 1 - a) (by omega) (fun _ _ => hth))
            · refine c_fin0 ?_
              refine q _ _ (fun Q1 q1 => ?_)
              refine CW_wp fX9_person rfl rfl rfl ?_
              refine m_isPerson_t p hp0 ep ?_
              refine m_th_t hth ?_
              refine m_isHour_t a ha ea ?_
              refine m_isHour_t b hb eb ?_
              refine xelse (by rw [ea, eb]; exact nI_ge c (by omega)) ?_
              exact m_fin0 (iv_fc I) q1
          · refine c_fin0 ?_
            refine q _ _ (fun Q1 q1 => ?_)
            refine CW_wp fX9_person rfl rfl rfl ?_
            refine m_isPerson_t p hp0 ep ?_
            refine m_th_t hth ?_
            refine m_isHour_t a ha ea ?_
            refine m_isHour_f nb ?_
            exact m_fin0 (iv_fc I) q1
        · refine c_fin0 ?_
          refine q _ _ (fun Q1 q1 => ?_)
          refine CW_wp fX9_person rfl rfl rfl ?_
          refine m_isPerson_t p hp0 ep ?_
          refine m_th_t hth ?_
          refine m_isHour_f na ?_
          exact m_fin0 (iv_fc I) q1
      · refine c_fin0 ?_
        refine q _ _ (fun Q1 q1 => ?_)
        refine CW_wp fX9_person rfl rfl rfl ?_
        refine m_isPerson_f np ?_
        exact m_fin0 (iv_fc I) q1
    · have hth : ¬ thP y := fun z => by
        rcases z with z | ⟨p, hp, z⟩
        · exact c z
        · exact npl p hp z
      refine c_isPerson x (fun p hp0 ep => ?_) (fun np => ?_)
      · refine c_fin0 ?_
        refine q _ _ (fun Q1 q1 => ?_)
        refine CW_wp fX9_person rfl rfl rfl ?_
        refine m_isPerson_t p hp0 ep ?_
        refine m_th_f hth ?_
        exact m_fin0 (iv_fc I) q1
      · refine c_fin0 ?_
        refine q _ _ (fun Q1 q1 => ?_)
        refine CW_wp fX9_person rfl rfl rfl ?_
        refine m_isPerson_f np ?_
        exact m_fin0 (iv_fc I) q1
theorem m_loadL {x y : Int32} (s n p : Nat) (v : Nat → Int32) (hs : s < 4) (hp : p < 6) (hn : n ≤ 40) (hx : x = nI s) (hy : y = nI p) (h70 : M 70 s = nI n) (h71 : ∀ k, k < 40 → v k = M 71 (40 * s + k)) (c : Nat) (hc : c ≤ n ∧ c ≤ 24) (hth : ∀ j, j < c → thP (v j)) (hend : c = min n 24 ∨ ¬ thP (v c)) (q : Q (some (.int (nI c))) (HH (xrow M 60 (ldF (M 60) v (444 + 24 * p) c)))) : Ev G 11 jX9_load 47 [some (.ref 59), some (.int x), some (.int y), some (.int (nI 0))] [] (HH M) 0 0 Q := by
  have key : Ev G 11 jX9_load 47 [some (.ref 59), some (.int x), some (.int y), some (.int (nI 0))] [] (HH (xrow M 60 (ldF (M 60) v (444 + 24 * p) 0))) 0 0 Q := by
    refine dn (E := fun i => Ev G 11 jX9_load 47 [some (.ref 59), some (.int x), some (.int y), some (.int (nI i))] [] (HH (xrow M 60 (ldF (M 60) v (444 + 24 * p) i))) 0 0 Q) (Nat.zero_le c) ?_ (fun i _ h2 ih => ?_)
    · refine Ev_wp fX9_load rfl ?_
      refine xix (n := 4) s hx hs (by decide) (fun e => ?_)
      rw [e, show xrow M 60 (ldF (M 60) v (444 + 24 * p) c) 70 s = nI n from h70]
      refine xle n c rfl rfl (by omega) (by omega) (fun z => ?_) (fun z => ?_)
      · exact q
      refine xle 24 c rfl rfl (by decide) (by omega) (fun z2 => ?_) (fun z2 => ?_)
      · exact q
      have hb : ¬ thP (v c) := by rcases hend with h | h; · omega
                                  · exact h
      refine xix (n := 160) (40 * s + c) (ia (im rfl hx) rfl) (by omega) (by decide) (fun e => ?_)
      rw [e, show xrow M 60 (ldF (M 60) v (444 + 24 * p) c) 71 (40 * s + c) = v c from (h71 c (by omega)).symm]
      refine m_th_f hb ?_
      exact q
    · refine Ev_wp fX9_load rfl ?_
      refine xix (n := 4) s hx hs (by decide) (fun e => ?_)
      rw [e, show xrow M 60 (ldF (M 60) v (444 + 24 * p) i) 70 s = nI n from h70]
      refine xelse (nI_ge (by omega) (by omega)) ?_
      refine xelse (nI_ge (b := 24) (by omega) (by decide)) ?_
      refine xix (n := 160) (40 * s + i) (ia (im rfl hx) rfl) (by omega) (by decide) (fun e => ?_)
      rw [e, show xrow M 60 (ldF (M 60) v (444 + 24 * p) i) 71 (40 * s + i) = v i from (h71 i (by omega)).symm]
      refine m_th_t (hth i h2) ?_
      refine xl1 (l := (1 : Int32) = 0) (by decide) ?_
      refine xix (n := 160) (40 * s + i) (ia (im rfl hx) rfl) (by omega) (by decide) (fun e => ?_)
      refine xix (n := 598) (444 + 24 * p + i) (ia (ia rfl (im rfl hy)) rfl) (by omega) (by decide) (fun e2 => ?_)
      rw [e, e2, show xrow M 60 (ldF (M 60) v (444 + 24 * p) i) 71 (40 * s + i) = v i from (h71 i (by omega)).symm, xup_row]
      rw [nI_succ i, ← ld_s] at ih
      exact ih
  rw [ld_0, xrow_self] at key
  exact key
theorem c_loadL0 {y z : Int32} (n p : Nat) (hp : p < 6) (hn : n ≤ 40) (hy : y = nI p) (hz : z = nI (min n 24)) (q : ∀ c, c ≤ n ∧ c ≤ 24 → (∀ j, j < c → thP (M 52 j)) → (c = min n 24 ∨ ¬ thP (M 52 c)) → Q (some (.int (nI c))) (HH (xrow M 12 (ldF (M 12) (M 52) (24 * p) c)))) : Ev G 11 jX8_load 64 [some (.ref 0), none, some (.int y), some (.ref 51), some (.int z), some (.int (nI 0)), none] [] (HH M) 0 0 Q := by
  have key : (∀ j, j < 0 → thP (M 52 j)) → Ev G 11 jX8_load 64 [some (.ref 0), none, some (.int y), some (.ref 51), some (.int z), some (.int (nI 0)), none] [] (HH (xrow M 12 (ldF (M 12) (M 52) (24 * p) 0))) 0 0 Q := by
    refine dn (E := fun i => (∀ j, j < i → thP (M 52 j)) → Ev G 11 jX8_load 64 [some (.ref 0), none, some (.int y), some (.ref 51), some (.int z), some (.int (nI i)), none] [] (HH (xrow M 12 (ldF (M 12) (M 52) (24 * p) i))) 0 0 Q) (Nat.zero_le (min n 24)) (fun hj => ?_) (fun i _ h2 ih hj => ?_)
    · refine Ev_wp fX8_load rfl ?_
      refine xif (by rw [hz]; exact Int32.le_refl _) ?_
      rw [hz]
      exact q (min n 24) (by omega) hj (Or.inl rfl)
    · have nxt : thP (M 52 i) → CW G 10 jX1_put [.ref 11, .int y, .int (M 52 i), .int (nI i), .int (nI i)] (HH (xrow M 12 (ldF (M 12) (M 52) (24 * p) i))) (fun w h => w = none ∧ h = HH (xrow M 12 (ldF (M 12) (M 52) (24 * p) (i + 1)))) := fun ht => by
        refine c_pput1 p i i hp (Nat.le_refl _) (by omega) hy rfl rfl ⟨rfl, ?_⟩
        rw [show i + 1 - i = 0 + 1 by omega, ← ld_s, ld_0, xrow_xrow]
        rw [← ld_s]
        rfl
      have cont : thP (M 52 i) → ∀ Qx : Option Value → xH → Prop, Qx none (HH (xrow M 12 (ldF (M 12) (M 52) (24 * p) (i + 1)))) → CW G 10 jX1_put [.ref 11, .int y, .int (M 52 i), .int (nI i), .int (nI i)] (HH (xrow M 12 (ldF (M 12) (M 52) (24 * p) i))) Qx := fun ht Qx hq => by
        refine c_pput1 p i i hp (Nat.le_refl _) (by omega) hy rfl rfl ?_
        rw [show i + 1 - i = 0 + 1 by omega, ← ld_s, ld_0, xrow_xrow]
        rw [← ld_s] at hq
        exact hq
      refine Ev_wp fX8_load rfl ?_
      refine xelse (by rw [hz]; exact nI_ge h2 (by omega)) ?_
      refine xix (n := 40) i rfl (by omega) (by decide) (fun e => ?_)
      rw [e, show xrow M 12 (ldF (M 12) (M 52) (24 * p) i) 52 i = M 52 i from rfl]
      have ih' : thP (M 52 i) → Ev G 11 jX8_load 64 [some (.ref 0), none, some (.int y), some (.ref 51), some (.int z), some (.int (nI i + 1)), none] [] (HH (xrow M 12 (ldF (M 12) (M 52) (24 * p) (i + 1)))) 0 0 Q := fun ht => by
        rw [← nI_succ]
        exact ih (fun j hj2 => by
          by_cases z : j = i
          · subst z; exact ht
          · exact hj j (by omega))
      refine c_isPlace _ (fun pl hpl epl => ?_) (fun npl => ?_)
      · refine cont (Or.inr ⟨pl, hpl, epl⟩) _ ?_
        exact ih' (Or.inr ⟨pl, hpl, epl⟩)
      · refine xite (fun c => ?_) (fun c => ?_)
        · refine cont (Or.inl c) _ ?_
          exact ih' (Or.inl c)
        · exact q i (by omega) hj (Or.inr (fun z => by
            rcases z with z | ⟨pl, hpl, z⟩
            · exact c z
            · exact npl pl hpl z))
  have k2 := key (fun j hj => absurd hj (Nat.not_lt_zero _))
  rw [ld_0, xrow_self] at k2
  exact k2
theorem c_loadL1 {y z : Int32} (n p : Nat) (hp : p < 6) (hn : n ≤ 40) (hy : y = nI p) (hz : z = nI (min n 24)) (q : ∀ c, c ≤ n ∧ c ≤ 24 → (∀ j, j < c → thP (M 54 j)) → (c = min n 24 ∨ ¬ thP (M 54 c)) → Q (some (.int (nI c))) (HH (xrow M 12 (ldF (M 12) (M 54) (24 * p) c)))) : Ev G 11 jX8_load 64 [some (.ref 0), none, some (.int y), some (.ref 53), some (.int z), some (.int (nI 0)), none] [] (HH M) 0 0 Q := by
  have key : (∀ j, j < 0 → thP (M 54 j)) → Ev G 11 jX8_load 64 [some (.ref 0), none, some (.int y), some (.ref 53), some (.int z), some (.int (nI 0)), none] [] (HH (xrow M 12 (ldF (M 12) (M 54) (24 * p) 0))) 0 0 Q := by
    refine dn (E := fun i => (∀ j, j < i → thP (M 54 j)) → Ev G 11 jX8_load 64 [some (.ref 0), none, some (.int y), some (.ref 53), some (.int z), some (.int (nI i)), none] [] (HH (xrow M 12 (ldF (M 12) (M 54) (24 * p) i))) 0 0 Q) (Nat.zero_le (min n 24)) (fun hj => ?_) (fun i _ h2 ih hj => ?_)
    · refine Ev_wp fX8_load rfl ?_
      refine xif (by rw [hz]; exact Int32.le_refl _) ?_
      rw [hz]
      exact q (min n 24) (by omega) hj (Or.inl rfl)
    · have nxt : thP (M 54 i) → CW G 10 jX1_put [.ref 11, .int y, .int (M 54 i), .int (nI i), .int (nI i)] (HH (xrow M 12 (ldF (M 12) (M 54) (24 * p) i))) (fun w h => w = none ∧ h = HH (xrow M 12 (ldF (M 12) (M 54) (24 * p) (i + 1)))) := fun ht => by
        refine c_pput1 p i i hp (Nat.le_refl _) (by omega) hy rfl rfl ⟨rfl, ?_⟩
        rw [show i + 1 - i = 0 + 1 by omega, ← ld_s, ld_0, xrow_xrow]
        rw [← ld_s]
        rfl
      have cont : thP (M 54 i) → ∀ Qx : Option Value → xH → Prop, Qx none (HH (xrow M 12 (ldF (M 12) (M 54) (24 * p) (i + 1)))) → CW G 10 jX1_put [.ref 11, .int y, .int (M 54 i), .int (nI i), .int (nI i)] (HH (xrow M 12 (ldF (M 12) (M 54) (24 * p) i))) Qx := fun ht Qx hq => by
        refine c_pput1 p i i hp (Nat.le_refl _) (by omega) hy rfl rfl ?_
        rw [show i + 1 - i = 0 + 1 by omega, ← ld_s, ld_0, xrow_xrow]
        rw [← ld_s] at hq
        exact hq
      refine Ev_wp fX8_load rfl ?_
      refine xelse (by rw [hz]; exact nI_ge h2 (by omega)) ?_
      refine xix (n := 40) i rfl (by omega) (by decide) (fun e => ?_)
      rw [e, show xrow M 12 (ldF (M 12) (M 54) (24 * p) i) 54 i = M 54 i from rfl]
      have ih' : thP (M 54 i) → Ev G 11 jX8_load 64 [some (.ref 0), none, some (.int y), some (.ref 53), some (.int z), some (.int (nI i + 1)), none] [] (HH (xrow M 12 (ldF (M 12) (M 54) (24 * p) (i + 1)))) 0 0 Q := fun ht => by
        rw [← nI_succ]
        exact ih (fun j hj2 => by
          by_cases z : j = i
          · subst z; exact ht
          · exact hj j (by omega))
      refine c_isPlace _ (fun pl hpl epl => ?_) (fun npl => ?_)
      · refine cont (Or.inr ⟨pl, hpl, epl⟩) _ ?_
        exact ih' (Or.inr ⟨pl, hpl, epl⟩)
      · refine xite (fun c => ?_) (fun c => ?_)
        · refine cont (Or.inl c) _ ?_
          exact ih' (Or.inl c)
        · exact q i (by omega) hj (Or.inr (fun z => by
            rcases z with z | ⟨pl, hpl, z⟩
            · exact c z
            · exact npl pl hpl z))
  have k2 := key (fun j hj => absurd hj (Nat.not_lt_zero _))
  rw [ld_0, xrow_self] at k2
  exact k2
theorem c_loadL2 {y z : Int32} (n p : Nat) (hp : p < 6) (hn : n ≤ 40) (hy : y = nI p) (hz : z = nI (min n 24)) (q : ∀ c, c ≤ n ∧ c ≤ 24 → (∀ j, j < c → thP (M 56 j)) → (c = min n 24 ∨ ¬ thP (M 56 c)) → Q (some (.int (nI c))) (HH (xrow M 12 (ldF (M 12) (M 56) (24 * p) c)))) : Ev G 11 jX8_load 64 [some (.ref 0), none, some (.int y), some (.ref 55), some (.int z), some (.int (nI 0)), none] [] (HH M) 0 0 Q := by
  have key : (∀ j, j < 0 → thP (M 56 j)) → Ev G 11 jX8_load 64 [some (.ref 0), none, some (.int y), some (.ref 55), some (.int z), some (.int (nI 0)), none] [] (HH (xrow M 12 (ldF (M 12) (M 56) (24 * p) 0))) 0 0 Q := by
    refine dn (E := fun i => (∀ j, j < i → thP (M 56 j)) → Ev G 11 jX8_load 64 [some (.ref 0), none, some (.int y), some (.ref 55), some (.int z), some (.int (nI i)), none] [] (HH (xrow M 12 (ldF (M 12) (M 56) (24 * p) i))) 0 0 Q) (Nat.zero_le (min n 24)) (fun hj => ?_) (fun i _ h2 ih hj => ?_)
    · refine Ev_wp fX8_load rfl ?_
      refine xif (by rw [hz]; exact Int32.le_refl _) ?_
      rw [hz]
      exact q (min n 24) (by omega) hj (Or.inl rfl)
    · have nxt : thP (M 56 i) → CW G 10 jX1_put [.ref 11, .int y, .int (M 56 i), .int (nI i), .int (nI i)] (HH (xrow M 12 (ldF (M 12) (M 56) (24 * p) i))) (fun w h => w = none ∧ h = HH (xrow M 12 (ldF (M 12) (M 56) (24 * p) (i + 1)))) := fun ht => by
        refine c_pput1 p i i hp (Nat.le_refl _) (by omega) hy rfl rfl ⟨rfl, ?_⟩
        rw [show i + 1 - i = 0 + 1 by omega, ← ld_s, ld_0, xrow_xrow]
        rw [← ld_s]
        rfl
      have cont : thP (M 56 i) → ∀ Qx : Option Value → xH → Prop, Qx none (HH (xrow M 12 (ldF (M 12) (M 56) (24 * p) (i + 1)))) → CW G 10 jX1_put [.ref 11, .int y, .int (M 56 i), .int (nI i), .int (nI i)] (HH (xrow M 12 (ldF (M 12) (M 56) (24 * p) i))) Qx := fun ht Qx hq => by
        refine c_pput1 p i i hp (Nat.le_refl _) (by omega) hy rfl rfl ?_
        rw [show i + 1 - i = 0 + 1 by omega, ← ld_s, ld_0, xrow_xrow]
        rw [← ld_s] at hq
        exact hq
      refine Ev_wp fX8_load rfl ?_
      refine xelse (by rw [hz]; exact nI_ge h2 (by omega)) ?_
      refine xix (n := 40) i rfl (by omega) (by decide) (fun e => ?_)
      rw [e, show xrow M 12 (ldF (M 12) (M 56) (24 * p) i) 56 i = M 56 i from rfl]
      have ih' : thP (M 56 i) → Ev G 11 jX8_load 64 [some (.ref 0), none, some (.int y), some (.ref 55), some (.int z), some (.int (nI i + 1)), none] [] (HH (xrow M 12 (ldF (M 12) (M 56) (24 * p) (i + 1)))) 0 0 Q := fun ht => by
        rw [← nI_succ]
        exact ih (fun j hj2 => by
          by_cases z : j = i
          · subst z; exact ht
          · exact hj j (by omega))
      refine c_isPlace _ (fun pl hpl epl => ?_) (fun npl => ?_)
      · refine cont (Or.inr ⟨pl, hpl, epl⟩) _ ?_
        exact ih' (Or.inr ⟨pl, hpl, epl⟩)
      · refine xite (fun c => ?_) (fun c => ?_)
        · refine cont (Or.inl c) _ ?_
          exact ih' (Or.inl c)
        · exact q i (by omega) hj (Or.inr (fun z => by
            rcases z with z | ⟨pl, hpl, z⟩
            · exact c z
            · exact npl pl hpl z))
  have k2 := key (fun j hj => absurd hj (Nat.not_lt_zero _))
  rw [ld_0, xrow_self] at k2
  exact k2
theorem c_loadL3 {y z : Int32} (n p : Nat) (hp : p < 6) (hn : n ≤ 40) (hy : y = nI p) (hz : z = nI (min n 24)) (q : ∀ c, c ≤ n ∧ c ≤ 24 → (∀ j, j < c → thP (M 58 j)) → (c = min n 24 ∨ ¬ thP (M 58 c)) → Q (some (.int (nI c))) (HH (xrow M 12 (ldF (M 12) (M 58) (24 * p) c)))) : Ev G 11 jX8_load 64 [some (.ref 0), none, some (.int y), some (.ref 57), some (.int z), some (.int (nI 0)), none] [] (HH M) 0 0 Q := by
  have key : (∀ j, j < 0 → thP (M 58 j)) → Ev G 11 jX8_load 64 [some (.ref 0), none, some (.int y), some (.ref 57), some (.int z), some (.int (nI 0)), none] [] (HH (xrow M 12 (ldF (M 12) (M 58) (24 * p) 0))) 0 0 Q := by
    refine dn (E := fun i => (∀ j, j < i → thP (M 58 j)) → Ev G 11 jX8_load 64 [some (.ref 0), none, some (.int y), some (.ref 57), some (.int z), some (.int (nI i)), none] [] (HH (xrow M 12 (ldF (M 12) (M 58) (24 * p) i))) 0 0 Q) (Nat.zero_le (min n 24)) (fun hj => ?_) (fun i _ h2 ih hj => ?_)
    · refine Ev_wp fX8_load rfl ?_
      refine xif (by rw [hz]; exact Int32.le_refl _) ?_
      rw [hz]
      exact q (min n 24) (by omega) hj (Or.inl rfl)
    · have nxt : thP (M 58 i) → CW G 10 jX1_put [.ref 11, .int y, .int (M 58 i), .int (nI i), .int (nI i)] (HH (xrow M 12 (ldF (M 12) (M 58) (24 * p) i))) (fun w h => w = none ∧ h = HH (xrow M 12 (ldF (M 12) (M 58) (24 * p) (i + 1)))) := fun ht => by
        refine c_pput1 p i i hp (Nat.le_refl _) (by omega) hy rfl rfl ⟨rfl, ?_⟩
        rw [show i + 1 - i = 0 + 1 by omega, ← ld_s, ld_0, xrow_xrow]
        rw [← ld_s]
        rfl
      have cont : thP (M 58 i) → ∀ Qx : Option Value → xH → Prop, Qx none (HH (xrow M 12 (ldF (M 12) (M 58) (24 * p) (i + 1)))) → CW G 10 jX1_put [.ref 11, .int y, .int (M 58 i), .int (nI i), .int (nI i)] (HH (xrow M 12 (ldF (M 12) (M 58) (24 * p) i))) Qx := fun ht Qx hq => by
        refine c_pput1 p i i hp (Nat.le_refl _) (by omega) hy rfl rfl ?_
        rw [show i + 1 - i = 0 + 1 by omega, ← ld_s, ld_0, xrow_xrow]
        rw [← ld_s] at hq
        exact hq
      refine Ev_wp fX8_load rfl ?_
      refine xelse (by rw [hz]; exact nI_ge h2 (by omega)) ?_
      refine xix (n := 40) i rfl (by omega) (by decide) (fun e => ?_)
      rw [e, show xrow M 12 (ldF (M 12) (M 58) (24 * p) i) 58 i = M 58 i from rfl]
      have ih' : thP (M 58 i) → Ev G 11 jX8_load 64 [some (.ref 0), none, some (.int y), some (.ref 57), some (.int z), some (.int (nI i + 1)), none] [] (HH (xrow M 12 (ldF (M 12) (M 58) (24 * p) (i + 1)))) 0 0 Q := fun ht => by
        rw [← nI_succ]
        exact ih (fun j hj2 => by
          by_cases z : j = i
          · subst z; exact ht
          · exact hj j (by omega))
      refine c_isPlace _ (fun pl hpl epl => ?_) (fun npl => ?_)
      · refine cont (Or.inr ⟨pl, hpl, epl⟩) _ ?_
        exact ih' (Or.inr ⟨pl, hpl, epl⟩)
      · refine xite (fun c => ?_) (fun c => ?_)
        · refine cont (Or.inl c) _ ?_
          exact ih' (Or.inl c)
        · exact q i (by omega) hj (Or.inr (fun z => by
            rcases z with z | ⟨pl, hpl, z⟩
            · exact c z
            · exact npl pl hpl z))
  have k2 := key (fun j hj => absurd hj (Nat.not_lt_zero _))
  rw [ld_0, xrow_self] at k2
  exact k2
theorem st_load (I : Iv 0 M) (x y : Int32) (q : ∀ r M1, Aft G jX9_load [.ref 59, .int x, .int y] r M1 → Q (some (.int r)) (HH M1)) : CW G 11 jX8_load [.ref 0, .int x, .int y] (HH M) Q := by
  have hw := I.1
  have hp := I.2.1
  have hsr := I.2.2.2.2.1
  have h40 := hw.2.1.2
  have hn : M 60 = M 60 := rfl
  rcases n_ix x 4 (by decide) with ⟨s, hs, es⟩ | ⟨hx, nx⟩
  · match s, hs, es with
    | 0, _, es =>
      subst es
      obtain ⟨w, n, w4, n40, a1, a2, a3, a4, a5⟩ := I.2.2.2.2.2.2.2.1
      have w32 : w ≤ 32 := by omega
      refine CW_wp fX8_load rfl rfl rfl ?_
      refine c_isSheet _ (fun p hp0 e0 => ?_) (fun h => absurd rfl (h 0 (by decide)))
      refine c_missing0 a1 w32 (fun c => ?_) (fun c => ?_)
      · refine c_fin5 ?_
        refine q _ _ (fun Q1 q1 => ?_)
        refine CW_wp fX9_load rfl rfl rfl ?_
        refine m_isSheet_t 0 (by decide) rfl ?_
        refine xif (show fc 5 M 69 0 = 0 by rw [show fc 5 M 69 0 = nI w from a2, c]; rfl) ?_
        exact m_fin5 (iv_fc I) q1
      have c0 : ¬ M 69 0 = 0 := by rw [a2]; exact nI_ne0 (by omega) (by omega)
      refine c_isPerson y (fun p hp1 ep => ?_) (fun np => ?_)
      · have ez : (if (24 : Int32) < M 51 1 then 24 else M 51 1) = nI (min n 24) := by
          rw [a3, show (24 : Int32) = nI 24 from rfl]
          exact nI_min n 24 (by omega) (by decide)
        refine c_loadL0 n p hp1 n40 ep ez (fun c hc hth hend => ?_)
        refine q _ _ (fun Q1 q1 => ?_)
        refine CW_wp fX9_load rfl rfl rfl ?_
        refine m_isSheet_t 0 (by decide) rfl ?_
        refine xelse c0 ?_
        refine m_isPerson_t p hp1 ep ?_
        refine m_loadL (M := xrow M 12 (ldF (M 12) (M 52) (24 * p) c)) 0 n p (M 52) (by decide) hp1 n40 rfl ep a4 a5 c hc hth hend ?_
        exact q1 _ (iv_ppl I (M 52) (24 * p) c (by omega) hth)
      · refine c_fin0 ?_
        refine q _ _ (fun Q1 q1 => ?_)
        refine CW_wp fX9_load rfl rfl rfl ?_
        refine m_isSheet_t 0 (by decide) rfl ?_
        refine xelse c0 ?_
        refine m_isPerson_f np ?_
        exact m_fin0 (iv_fc I) q1
    | 1, _, es =>
      subst es
      obtain ⟨w, n, w4, n40, a1, a2, a3, a4, a5⟩ := I.2.2.2.2.2.2.2.2.1
      have w32 : w ≤ 32 := by omega
      refine CW_wp fX8_load rfl rfl rfl ?_
      refine c_isSheet _ (fun p hp0 e0 => ?_) (fun h => absurd rfl (h 1 (by decide)))
      refine c_missing1 a1 w32 (fun c => ?_) (fun c => ?_)
      · refine c_fin5 ?_
        refine q _ _ (fun Q1 q1 => ?_)
        refine CW_wp fX9_load rfl rfl rfl ?_
        refine m_isSheet_t 1 (by decide) rfl ?_
        refine xif (show fc 5 M 69 1 = 0 by rw [show fc 5 M 69 1 = nI w from a2, c]; rfl) ?_
        exact m_fin5 (iv_fc I) q1
      have c0 : ¬ M 69 1 = 0 := by rw [a2]; exact nI_ne0 (by omega) (by omega)
      refine c_isPerson y (fun p hp1 ep => ?_) (fun np => ?_)
      · have ez : (if (24 : Int32) < M 53 1 then 24 else M 53 1) = nI (min n 24) := by
          rw [a3, show (24 : Int32) = nI 24 from rfl]
          exact nI_min n 24 (by omega) (by decide)
        refine c_loadL1 n p hp1 n40 ep ez (fun c hc hth hend => ?_)
        refine q _ _ (fun Q1 q1 => ?_)
        refine CW_wp fX9_load rfl rfl rfl ?_
        refine m_isSheet_t 1 (by decide) rfl ?_
        refine xelse c0 ?_
        refine m_isPerson_t p hp1 ep ?_
        refine m_loadL (M := xrow M 12 (ldF (M 12) (M 54) (24 * p) c)) 1 n p (M 54) (by decide) hp1 n40 rfl ep a4 a5 c hc hth hend ?_
        exact q1 _ (iv_ppl I (M 54) (24 * p) c (by omega) hth)
      · refine c_fin0 ?_
        refine q _ _ (fun Q1 q1 => ?_)
        refine CW_wp fX9_load rfl rfl rfl ?_
        refine m_isSheet_t 1 (by decide) rfl ?_
        refine xelse c0 ?_
        refine m_isPerson_f np ?_
        exact m_fin0 (iv_fc I) q1
    | 2, _, es =>
      subst es
      obtain ⟨w, n, w4, n40, a1, a2, a3, a4, a5⟩ := I.2.2.2.2.2.2.2.2.2.1
      have w32 : w ≤ 32 := by omega
      refine CW_wp fX8_load rfl rfl rfl ?_
      refine c_isSheet _ (fun p hp0 e0 => ?_) (fun h => absurd rfl (h 2 (by decide)))
      refine c_missing2 a1 w32 (fun c => ?_) (fun c => ?_)
      · refine c_fin5 ?_
        refine q _ _ (fun Q1 q1 => ?_)
        refine CW_wp fX9_load rfl rfl rfl ?_
        refine m_isSheet_t 2 (by decide) rfl ?_
        refine xif (show fc 5 M 69 2 = 0 by rw [show fc 5 M 69 2 = nI w from a2, c]; rfl) ?_
        exact m_fin5 (iv_fc I) q1
      have c0 : ¬ M 69 2 = 0 := by rw [a2]; exact nI_ne0 (by omega) (by omega)
      refine c_isPerson y (fun p hp1 ep => ?_) (fun np => ?_)
      · have ez : (if (24 : Int32) < M 55 1 then 24 else M 55 1) = nI (min n 24) := by
          rw [a3, show (24 : Int32) = nI 24 from rfl]
          exact nI_min n 24 (by omega) (by decide)
        refine c_loadL2 n p hp1 n40 ep ez (fun c hc hth hend => ?_)
        refine q _ _ (fun Q1 q1 => ?_)
        refine CW_wp fX9_load rfl rfl rfl ?_
        refine m_isSheet_t 2 (by decide) rfl ?_
        refine xelse c0 ?_
        refine m_isPerson_t p hp1 ep ?_
        refine m_loadL (M := xrow M 12 (ldF (M 12) (M 56) (24 * p) c)) 2 n p (M 56) (by decide) hp1 n40 rfl ep a4 a5 c hc hth hend ?_
        exact q1 _ (iv_ppl I (M 56) (24 * p) c (by omega) hth)
      · refine c_fin0 ?_
        refine q _ _ (fun Q1 q1 => ?_)
        refine CW_wp fX9_load rfl rfl rfl ?_
        refine m_isSheet_t 2 (by decide) rfl ?_
        refine xelse c0 ?_
        refine m_isPerson_f np ?_
        exact m_fin0 (iv_fc I) q1
    | 3, _, es =>
      subst es
      obtain ⟨w, n, w4, n40, a1, a2, a3, a4, a5⟩ := I.2.2.2.2.2.2.2.2.2.2
      have w32 : w ≤ 32 := by omega
      refine CW_wp fX8_load rfl rfl rfl ?_
      refine c_isSheet _ (fun p hp0 e0 => ?_) (fun h => absurd rfl (h 3 (by decide)))
      refine c_missing3 a1 w32 (fun c => ?_) (fun c => ?_)
      · refine c_fin5 ?_
        refine q _ _ (fun Q1 q1 => ?_)
        refine CW_wp fX9_load rfl rfl rfl ?_
        refine m_isSheet_t 3 (by decide) rfl ?_
        refine xif (show fc 5 M 69 3 = 0 by rw [show fc 5 M 69 3 = nI w from a2, c]; rfl) ?_
        exact m_fin5 (iv_fc I) q1
      have c0 : ¬ M 69 3 = 0 := by rw [a2]; exact nI_ne0 (by omega) (by omega)
      refine c_isPerson y (fun p hp1 ep => ?_) (fun np => ?_)
      · have ez : (if (24 : Int32) < M 57 1 then 24 else M 57 1) = nI (min n 24) := by
          rw [a3, show (24 : Int32) = nI 24 from rfl]
          exact nI_min n 24 (by omega) (by decide)
        refine c_loadL3 n p hp1 n40 ep ez (fun c hc hth hend => ?_)
        refine q _ _ (fun Q1 q1 => ?_)
        refine CW_wp fX9_load rfl rfl rfl ?_
        refine m_isSheet_t 3 (by decide) rfl ?_
        refine xelse c0 ?_
        refine m_isPerson_t p hp1 ep ?_
        refine m_loadL (M := xrow M 12 (ldF (M 12) (M 58) (24 * p) c)) 3 n p (M 58) (by decide) hp1 n40 rfl ep a4 a5 c hc hth hend ?_
        exact q1 _ (iv_ppl I (M 58) (24 * p) c (by omega) hth)
      · refine c_fin0 ?_
        refine q _ _ (fun Q1 q1 => ?_)
        refine CW_wp fX9_load rfl rfl rfl ?_
        refine m_isSheet_t 3 (by decide) rfl ?_
        refine xelse c0 ?_
        refine m_isPerson_f np ?_
        exact m_fin0 (iv_fc I) q1
    | s + 4, hs, _ => exact absurd hs (by omega)
  · refine CW_wp fX8_load rfl rfl rfl ?_
    refine c_isSheet _ (fun p hp0 e0 => absurd e0 (nx p hp0)) (fun _ => ?_)
    refine c_fin0 ?_
    refine q _ _ (fun Q1 q1 => ?_)
    refine CW_wp fX9_load rfl rfl rfl ?_
    refine m_isSheet_f nx ?_
    exact m_fin0 (iv_fc I) q1
end P1
