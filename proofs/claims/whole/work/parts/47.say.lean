/-! say, weather: the class beside the model. -/
section Y1
variable {G : xG} {M : xM} {Q : Option Value → xH → Prop}
theorem m_says {d : Nat} {N : Nat → Int32} (hn : M 60 = N) (w : Wf N) (hs40 : sN N < 40) {x y z u t : Int32} (k o l p h : Nat) (hx : x = nI k) (hy : y = nI o) (hz : z = nI l) (hu : u = nI p) (ht : t = nI h) (q : Q (some (.int (nI (sN N)))) (HH (xrow M 60 (syF N (sN N) (nI k) (nI o) (nI l) (nI p) (nI h) (nI (vN N 0)) (nI (sN N + 1)))))) : CW G d jX9_says [.ref 59, .int x, .int y, .int z, .int u, .int t] (HH M) Q := by
  subst hx hy hz hu ht
  have e1 : M 60 1 = nI (sN N) := by rw [hn]; exact w.2.1.1
  have e0 : M 60 0 = nI (vN N 0) := by rw [hn]; exact w.1.1
  have at1 : ∀ j, j < 6 → (204 : Int32) + 6 * M 60 1 + nI j = nI (204 + 6 * sN N + j) := fun j _ => ia (ia rfl (im rfl e1)) rfl
  refine CW_wp fX9_says rfl rfl rfl ?_
  refine xix (n := 598) (204 + 6 * sN N + 0) (at1 0 (by decide)) (by omega) (by decide) (fun i0 => ?_)
  refine xix (n := 598) (204 + 6 * sN N + 1) (at1 1 (by decide)) (by omega) (by decide) (fun i1 => ?_)
  refine xix (n := 598) (204 + 6 * sN N + 2) (at1 2 (by decide)) (by omega) (by decide) (fun i2 => ?_)
  refine xix (n := 598) (204 + 6 * sN N + 3) (at1 3 (by decide)) (by omega) (by decide) (fun i3 => ?_)
  refine xix (n := 598) (204 + 6 * sN N + 4) (at1 4 (by decide)) (by omega) (by decide) (fun i4 => ?_)
  refine xix (n := 598) (204 + 6 * sN N + 5) (at1 5 (by decide)) (by omega) (by decide) (fun i5 => ?_)
  rw [i0, i1, i2, i3, i4, i5]
  have hq : Q (some (.int (M 60 1))) (HH (xup (xup (xrow M 60 (upd (upd (upd (upd (upd (M 60) (204 + 6 * sN N + 0) (nI k)) (204 + 6 * sN N + 1) (nI o)) (204 + 6 * sN N + 2) (nI l)) (204 + 6 * sN N + 3) (nI p)) (204 + 6 * sN N + 4) (nI h))) 60 (204 + 6 * sN N + 5) (upd (upd (upd (upd (upd (M 60) (204 + 6 * sN N + 0) (nI k)) (204 + 6 * sN N + 1) (nI o)) (204 + 6 * sN N + 2) (nI l)) (204 + 6 * sN N + 3) (nI p)) (204 + 6 * sN N + 4) (nI h) 0)) 60 1 (upd (upd (upd (upd (upd (upd (M 60) (204 + 6 * sN N + 0) (nI k)) (204 + 6 * sN N + 1) (nI o)) (204 + 6 * sN N + 2) (nI l)) (204 + 6 * sN N + 3) (nI p)) (204 + 6 * sN N + 4) (nI h)) (204 + 6 * sN N + 5) (upd (upd (upd (upd (upd (M 60) (204 + 6 * sN N + 0) (nI k)) (204 + 6 * sN N + 1) (nI o)) (204 + 6 * sN N + 2) (nI l)) (204 + 6 * sN N + 3) (nI p)) (204 + 6 * sN N + 4) (nI h) 0) 1 + 1))) := by
    have h0 : upd (upd (upd (upd (upd (M 60) (204 + 6 * sN N + 0) (nI k)) (204 + 6 * sN N + 1) (nI o)) (204 + 6 * sN N + 2) (nI l)) (204 + 6 * sN N + 3) (nI p)) (204 + 6 * sN N + 4) (nI h) 0 = nI (vN N 0) := by
      rw [pk_un (by omega), pk_un (by omega), pk_un (by omega), pk_un (by omega), pk_un (by omega)]; exact e0
    rw [h0]
    have h1 : upd (upd (upd (upd (upd (upd (M 60) (204 + 6 * sN N + 0) (nI k)) (204 + 6 * sN N + 1) (nI o)) (204 + 6 * sN N + 2) (nI l)) (204 + 6 * sN N + 3) (nI p)) (204 + 6 * sN N + 4) (nI h)) (204 + 6 * sN N + 5) (nI (vN N 0)) 1 = nI (sN N) := by
      rw [pk_un (by omega), pk_un (by omega), pk_un (by omega), pk_un (by omega), pk_un (by omega), pk_un (by omega)]; exact e1
    rw [h1, e1, xup_row, xup_row, ← nI_succ, hn]
    exact q
  have hc : ∀ f : Nat → Int32, ∀ a v, xup (xrow M 60 f) 60 a v = xrow M 60 (upd f a v) := fun f a v => xup_row _ _ _ _ _
  rw [show xup M 60 (204 + 6 * sN N + 0) (nI k) = xrow M 60 (upd (M 60) (204 + 6 * sN N + 0) (nI k)) from rfl, hc, hc, hc, hc]
  exact hq
theorem iv_say (I : Iv 0 M) (k o l p h : Nat) (hk : k < 7) (ho : o < 16) (hl : 1 ≤ l ∧ l ≤ 9) (hp : p < 10) (hh : h < 24) (hs40 : sN (M 60) < 40) : Iv 0 (xrow (xup (xup (xup (xup (xup (xup (xup M 5 (sN (M 60)) (nI k)) 6 (sN (M 60)) (nI o)) 7 (sN (M 60)) (nI l)) 8 (sN (M 60)) (nI p)) 9 (sN (M 60)) (nI h)) 10 (sN (M 60)) (nI (vN (M 60) 0))) 4 0 (nI (sN (M 60) + 1))) 60 (syF (M 60) (sN (M 60)) (nI k) (nI o) (nI l) (nI p) (nI h) (nI (vN (M 60) 0)) (nI (sN (M 60) + 1)))) := by
  obtain ⟨i1, i2, i3, i4, i5, i6, i7, i8⟩ := I
  refine ⟨wf_say i1 k o l p h hk ho hl hp hh hs40, (pv_say1 i1 i2 k o l p h hk ho hl hp hh hs40).row (by decide), ?_, i4, i5.e (N' := syF (M 60) (sN (M 60)) (nI k) (nI o) (nI l) (nI p) (nI h) (nI (vN (M 60) 0)) (nI (sN (M 60) + 1))) (fun a b ha hb => syF_un (by omega) (by omega)) rfl rfl, i6, i7, i8⟩
  exact (((((((i3.up (by decide)).up (by decide)).up (by decide)).up (by decide)).up (by decide)).up (by decide)).up (by decide)).row (by decide)
theorem st_say (I : Iv 0 M) (x y z u t : Int32) (q : ∀ r M1, Aft G jX9_say [.ref 59, .int x, .int y, .int z, .int u, .int t] r M1 → Q (some (.int r)) (HH M1)) : CW G 11 jX8_say [.ref 0, .int x, .int y, .int z, .int u, .int t] (HH M) Q := by
  have hw := I.1
  have hp := I.2.1
  have hsr := I.2.2.2.2.1
  have h40 := hw.2.1.2
  have hn : M 60 = M 60 := rfl
  have hp' := hp
  refine CW_wp fX8_say rfl rfl rfl ?_
  refine c_isKind x (fun k hk ek => ?_) (fun nk => ?_)
  · refine c_isWord y (fun o ho eo => ?_) (fun no => ?_)
    · refine c_isLoud z (fun l hl1 hl2 el => ?_) (fun nl => ?_)
      · refine c_isPlace u (fun p hp ep => ?_) (fun np => ?_)
        · refine c_isHour t (fun h hh eh => ?_) (fun nh => ?_)
          · have e4 : M 4 0 = nI (sN (M 60)) := hp'.2.1.trans hw.2.1.1
            have e5 : M 1 5 = nI (vN (M 60) 0) := hp'.1.trans hw.1.1
            refine c_isFull1 hw e4 (fun c => ?_) (fun c => ?_)
            · refine c_fin1 ?_
              refine q _ _ (fun Q1 q1 => ?_)
              refine CW_wp fX9_say rfl rfl rfl ?_
              refine m_within_t k 0 6 ek rfl rfl (Nat.zero_le _) (by omega) (by decide) ?_
              refine m_within_t o 0 15 eo rfl rfl (Nat.zero_le _) (by omega) (by decide) ?_
              refine m_within_t l 1 9 el rfl rfl hl1 hl2 (by decide) ?_
              refine m_isPlace_t p hp ep ?_
              refine m_isHour_t h hh eh ?_
              refine xif (show fc 1 M 60 1 = 40 by rw [show fc 1 M 60 1 = nI (sN (M 60)) from hw.2.1.1, c]; rfl) ?_
              exact m_fin1 (iv_fc I) q1
            · refine c_add1 hw e4 c k o l p h ek eo el ep eh e5 ?_
              refine q _ _ (fun Q1 q1 => ?_)
              refine CW_wp fX9_say rfl rfl rfl ?_
              refine m_within_t k 0 6 ek rfl rfl (Nat.zero_le _) (by omega) (by decide) ?_
              refine m_within_t o 0 15 eo rfl rfl (Nat.zero_le _) (by omega) (by decide) ?_
              refine m_within_t l 1 9 el rfl rfl hl1 hl2 (by decide) ?_
              refine m_isPlace_t p hp ep ?_
              refine m_isHour_t h hh eh ?_
              refine xelse (show ¬ M 60 1 = 40 by rw [hw.2.1.1, show (40 : Int32) = nI 40 from rfl, nI_eq (by omega) (by omega)]; omega) ?_
              refine m_says (show (xup (xup (xup (xup (xup (xup (xup M 5 (sN (M 60)) (nI k)) 6 (sN (M 60)) (nI o)) 7 (sN (M 60)) (nI l)) 8 (sN (M 60)) (nI p)) 9 (sN (M 60)) (nI h)) 10 (sN (M 60)) (nI (vN (M 60) 0))) 4 0 (nI (sN (M 60) + 1))) 60 = M 60 from rfl) hw c k o l p h ek eo el ep eh ?_
              exact q1 _ (iv_say I k o l p h hk ho ⟨hl1, hl2⟩ hp hh c)
          · refine c_fin0 ?_
            refine q _ _ (fun Q1 q1 => ?_)
            refine CW_wp fX9_say rfl rfl rfl ?_
            refine m_within_t k 0 6 ek rfl rfl (Nat.zero_le _) (by omega) (by decide) ?_
            refine m_within_t o 0 15 eo rfl rfl (Nat.zero_le _) (by omega) (by decide) ?_
            refine m_within_t l 1 9 el rfl rfl hl1 hl2 (by decide) ?_
            refine m_isPlace_t p hp ep ?_
            refine m_isHour_f nh ?_
            exact m_fin0 (iv_fc I) q1
        · refine c_fin0 ?_
          refine q _ _ (fun Q1 q1 => ?_)
          refine CW_wp fX9_say rfl rfl rfl ?_
          refine m_within_t k 0 6 ek rfl rfl (Nat.zero_le _) (by omega) (by decide) ?_
          refine m_within_t o 0 15 eo rfl rfl (Nat.zero_le _) (by omega) (by decide) ?_
          refine m_within_t l 1 9 el rfl rfl hl1 hl2 (by decide) ?_
          refine m_isPlace_f np ?_
          exact m_fin0 (iv_fc I) q1
      · refine c_fin0 ?_
        refine q _ _ (fun Q1 q1 => ?_)
        refine CW_wp fX9_say rfl rfl rfl ?_
        refine m_within_t k 0 6 ek rfl rfl (Nat.zero_le _) (by omega) (by decide) ?_
        refine m_within_t o 0 15 eo rfl rfl (Nat.zero_le _) (by omega) (by decide) ?_
        refine m_within_f 1 9 rfl rfl (by decide) (by decide) nl ?_
        exact m_fin0 (iv_fc I) q1
    · refine c_fin0 ?_
      refine q _ _ (fun Q1 q1 => ?_)
      refine CW_wp fX9_say rfl rfl rfl ?_
      refine m_within_t k 0 6 ek rfl rfl (Nat.zero_le _) (by omega) (by decide) ?_
      refine m_within_f 0 15 rfl rfl (by decide) (by decide) (fun k _ hk => no k (by omega)) ?_
      exact m_fin0 (iv_fc I) q1
  · refine c_fin0 ?_
    refine q _ _ (fun Q1 q1 => ?_)
    refine CW_wp fX9_say rfl rfl rfl ?_
    refine m_within_f 0 6 rfl rfl (by decide) (by decide) (fun k _ hk => nk k (by omega)) ?_
    exact m_fin0 (iv_fc I) q1
end Y1
def zS (z : Int32) : Nat → Int32
  | 0 => z
  | i + 1 => zS z i * 1103515245 + 12345
def shS (z : Int32) : Int32 := (z.toUInt32 >>> ((8 : Int32).toUInt32 &&& Int32.toUInt32 31)).toInt32
def dwS (z : Int32) : Int32 := shS z - shS z / 100 * 100
/-- whether there is RAIN on the i-th -/
def ruS (z c : Int32) (i : Nat) : Int32 := if c ≤ dwS (zS z (i + 1)) then 0 else 1
theorem ru_01 (z c : Int32) (i : Nat) : ruS z c i = 0 ∨ ruS z c i = 1 := by
  unfold ruS
  split
  · exact Or.inl rfl
  · exact Or.inr rfl
def suS (r : Nat → Int32) : Nat → Nat
  | 0 => 0
  | i + 1 => suS r i + (r i).toNatClampNeg
def weN (N r : Nat → Int32) (a i : Nat) (z : Int32) : Nat → Int32 := upd (ldF N r (4 + a) i) 3 z
theorem we_un {N r : Nat → Int32} {a i j : Nat} {z : Int32} (h1 : j ≠ 3) (h2 : j < 4 + a ∨ 4 + a + i ≤ j) : weN N r a i z j = N j := (pk_un h1).trans (ld_un h2)
theorem we_in {N r : Nat → Int32} {a i j : Nat} {z : Int32} (h1 : a ≤ j) (h2 : j < a + i) : weN N r a i z (4 + j) = r (j - a) := (pk_un (by omega)).trans ((ld_in (by omega) (by omega)).trans (by rw [show 4 + j - (4 + a) = j - a by omega]))
theorem we_rs (N r : Nat → Int32) (a L : Nat) (z : Int32) : ∀ i, i ≤ L → rs (weN N r a L z) a i = suS r i
  | 0, _ => rfl
  | i + 1, h => by
    rw [rs, suS, we_rs N r a L z i (by omega)]
    unfold vN
    rw [we_in (by omega) (by omega), show a + i - a = i by omega]
section Y2
variable {G : xG} {M : xM} {Q : Option Value → xH → Prop}
theorem wf_wea {N : Nat → Int32} (w : Wf N) (r : Nat → Int32) (a i : Nat) (z : Int32) (hr : ∀ j, r j = 0 ∨ r j = 1) (hi : a + i ≤ 100) : Wf (weN N r a i z) := by
  have h40 := w.2.1.2
  exact ⟨wc1 (we_un (by omega) (by omega)) w, wc2 (we_un (by omega) (by omega)) w, wc3 (we_un (by omega) (by omega)) w, fun j hj => by
    by_cases z2 : a ≤ j ∧ j < a + i
    · unfold vN
      rw [we_in z2.1 z2.2]
      rcases hr (j - a) with e | e
      · rw [e]; exact ⟨rfl, by decide⟩
      · rw [e]; exact ⟨rfl, by decide⟩
    · unfold vN
      rw [we_un (by omega) (by omega)]
      exact w.2.2.2.1 j hj, wc5 (fun a b ha hb => (we_un (by omega) (by omega))) w, wc6 (fun a b ha hb => (we_un (by omega) (by omega))) w, wc7 (we_un (by omega) (by omega)) (fun s f hs hf => (we_un (by omega) (by omega))) w, wc8 (Nat.le_of_eq (vN_e (we_un (by omega) (by omega))).symm) (we_un (by omega) (by omega)) (fun s f hs hf => (we_un (by omega) (by omega))) w, wc9 (we_un (by omega) (by omega)) (fun s f hs hf => (we_un (by omega) (by omega))) w, wc10 (fun q hq => (we_un (by omega) (by omega))) w, wc11 (we_un (by omega) (by omega)) (fun j hj => (we_un (by omega) (by omega))) w⟩
def weM (M : xM) (F : Nat → Int32) (z : Int32) : xM := xup (xrow M 13 F) 1 7 z
theorem pv_wea {N : Nat → Int32} (w : Wf N) (i2 : PV 1 N M) (r : Nat → Int32) (a i : Nat) (z : Int32) (hi : a + i ≤ 100) : PV 1 (weN N r a i z) (weM M (ldF (M 13) r a i) z) := by
  have h40 := w.2.1.2
  exact ⟨i2.1.trans (we_un (by omega) (by omega)).symm, i2.2.1.trans (we_un (by omega) (by omega)).symm, i2.2.2.1.trans (we_un (by omega) (by omega)).symm, (pk_us).symm, fun j hj => by
    by_cases z2 : a ≤ j ∧ j < a + i
    · rw [we_in z2.1 z2.2]
      exact ld_in z2.1 z2.2
    · rw [we_un (by omega) (by omega), ← i2.2.2.2.2.1 j hj]
      exact ld_un (by omega), fun p hp => (i2.2.2.2.2.2.1 p hp).trans (congrArg nI (bts_congr (fun q hq => (wy_e (fun a b ha hb => (we_un (by omega) (by omega))) hp hq).symm))), fun s hs f hf => by rw [sN_e (we_un (by omega) (by omega))] at hs; exact ((row_ne (by omega)).trans (row_ne (by omega))).trans ((i2.2.2.2.2.2.2.1 s hs f hf).trans (we_un (by omega) (by omega)).symm), fun q hq => (i2.2.2.2.2.2.2.2.1 q hq).trans (we_un (by omega) (by omega)).symm, fun j hj => (i2.2.2.2.2.2.2.2.2 j hj).trans (we_un (by omega) (by omega)).symm⟩
theorem weM_up (M : xM) (F : Nat → Int32) (z z2 : Int32) (k : Nat) (v : Int32) : xup (xup (weM M F z) 1 7 z2) 13 k v = weM M (upd F k v) z2 := by
  funext i
  unfold weM xup xrow
  by_cases h : i = 13
  · subst h
    rfl
  · by_cases h2 : i = 1
    · subst h2
      funext j
      show upd (upd (M 1) 7 z) 7 z2 j = upd (M 1) 7 z2 j
      unfold upd
      by_cases h3 : j = 7
      · rw [if_pos h3, if_pos h3]
      · rw [if_neg h3, if_neg h3, if_neg h3]
    · rw [if_neg h, if_neg h2, if_neg h2, if_neg h, if_neg h2, if_neg h]
theorem c_draw {d : Nat} (q : Q (some (.int (shS (M 1 7 * 1103515245 + 12345)))) (HH (xup M 1 7 (M 1 7 * 1103515245 + 12345)))) : CW G d jX5_draw [.ref 1] (HH M) Q := by
  refine CW_wp fX5_draw rfl rfl rfl ?_
  exact q
theorem m_drawn {d : Nat} (q : Q (some (.int (dwS (M 60 3 * 1103515245 + 12345)))) (HH (xup M 60 3 (M 60 3 * 1103515245 + 12345)))) : CW G d jX9_drawn [.ref 59, .int 100] (HH M) Q := by
  refine CW_wp fX9_drawn rfl rfl rfl ?_
  exact q
theorem we_s (N r : Nat → Int32) (a i : Nat) (z z2 : Int32) : upd (upd (weN N r a i z) 3 z2) (4 + (a + i)) (r i) = weN N r a (i + 1) z2 := by
  funext j
  unfold weN
  rw [← ld_s, Nat.add_assoc 4 a i]
  unfold upd
  by_cases h : j = 4 + (a + i)
  · rw [if_pos h, if_neg (by omega), if_pos h]
  · rw [if_neg h]
    by_cases h2 : j = 3
    · rw [if_pos h2, if_pos h2]
    · rw [if_neg h2, if_neg h2, if_neg h2, if_neg h]
theorem we_0 (N r : Nat → Int32) (a : Nat) : weN N r a 0 (N 3) = N := by
  unfold weN
  rw [ld_0]
  funext j
  unfold upd
  by_cases h : j = 3
  · rw [if_pos h, h]
  · rw [if_neg h]
theorem weM_0 (M : xM) (r : Nat → Int32) (a : Nat) : weM M (ldF (M 13) r a 0) (M 1 7) = M := by
  unfold weM
  rw [ld_0, xrow_self]
  funext i
  unfold xup xrow
  by_cases h : i = 1
  · rw [if_pos h, h]
    funext j
    unfold upd
    by_cases h2 : j = 7
    · rw [if_pos h2, h2]
    · rw [if_neg h2]
  · rw [if_neg h]
theorem m_weaL {N : Nat → Int32} (hn : M 60 = N) {x y c : Int32} (a e : Nat) (ha : a ≤ e) (he : e < 100) (hy : y = nI e) (q : Q (some (.int (nI (suS (ruS (N 3) c) (e + 1 - a))))) (HH (xrow M 60 (weN N (ruS (N 3) c) a (e + 1 - a) (zS (N 3) (e + 1 - a)))))) : Ev G 11 jX9_weather 42 [some (.ref 59), none, some (.int y), some (.int c), some (.int (nI 0)), some (.int (nI a))] [] (HH M) 0 0 Q := by
  have key : Ev G 11 jX9_weather 42 [some (.ref 59), none, some (.int y), some (.int c), some (.int (nI (suS (ruS (N 3) c) (a - a)))), some (.int (nI a))] [] (HH (xrow M 60 (weN N (ruS (N 3) c) a (a - a) (zS (N 3) (a - a))))) 0 0 Q := by
    refine dn (E := fun i => Ev G 11 jX9_weather 42 [some (.ref 59), none, some (.int y), some (.int c), some (.int (nI (suS (ruS (N 3) c) (i - a)))), some (.int (nI i))] [] (HH (xrow M 60 (weN N (ruS (N 3) c) a (i - a) (zS (N 3) (i - a))))) 0 0 Q) (show a ≤ e + 1 by omega) ?_ (fun i h1 h2 ih => ?_)
    · refine Ev_wp fX9_weather rfl ?_
      refine xif (by rw [hy]; exact nI_lt (by omega) (by omega)) ?_
      exact q
    · rw [nI_succ i, show i + 1 - a = (i - a) + 1 by omega, ← we_s N (ruS (N 3) c) a (i - a) (zS (N 3) (i - a)), suS, show a + (i - a) = i by omega] at ih
      have e3 : xrow M 60 (weN N (ruS (N 3) c) a (i - a) (zS (N 3) (i - a))) 60 3 = zS (N 3) (i - a) := by
        rw [xrow_at]; exact pk_us
      have hz : zS (N 3) (i - a + 1) = zS (N 3) (i - a) * 1103515245 + 12345 := rfl
      refine Ev_wp fX9_weather rfl ?_
      refine xelse (by rw [hy]; exact nI_nlt (by omega) (by omega)) ?_
      refine m_drawn ?_
      rw [e3, ← hz, xup_row]
      have fin : ∀ v, v = ruS (N 3) c (i - a) → Ev G 11 jX9_weather 42 [some (.ref 59), none, some (.int y), some (.int c), some (.int (nI (suS (ruS (N 3) c) (i - a)) + v)), some (.int (nI i + 1))] [] (HH (xrow M 60 (upd (upd (weN N (ruS (N 3) c) a (i - a) (zS (N 3) (i - a))) 3 (zS (N 3) (i - a + 1))) (4 + i) v))) 0 0 Q := fun v hv => by
        subst hv
        have e9 : nI (suS (ruS (N 3) c) (i - a) + (ruS (N 3) c (i - a)).toNatClampNeg) = nI (suS (ruS (N 3) c) (i - a)) + ruS (N 3) c (i - a) := by
          rw [← nI_add]
          rcases ru_01 (N 3) c (i - a) with z | z <;> rw [z] <;> rfl
        rw [e9] at ih
        exact ih
      refine xite (fun c1 => ?_) (fun c1 => ?_)
      · refine xix (n := 598) (4 + i) (ia rfl rfl) (by omega) (by decide) (fun e5 => ?_)
        refine xix (n := 598) (4 + i) (ia rfl rfl) (by omega) (by decide) (fun e6 => ?_)
        rw [e5, xup_row, xrow_at, pk_us]
        exact fin 0 (by unfold ruS; rw [if_pos c1])
      · refine xix (n := 598) (4 + i) (ia rfl rfl) (by omega) (by decide) (fun e5 => ?_)
        refine xix (n := 598) (4 + i) (ia rfl rfl) (by omega) (by decide) (fun e6 => ?_)
        rw [e5, xup_row, xrow_at, pk_us]
        exact fin 1 (by unfold ruS; rw [if_neg c1])
  rw [Nat.sub_self, show zS (N 3) 0 = N 3 from rfl, we_0, ← hn, xrow_self] at key
  exact key
theorem iv_wea (I : Iv 0 M) (r : Nat → Int32) (a i : Nat) (z : Int32) (hr : ∀ j, r j = 0 ∨ r j = 1) (hi : a + i ≤ 100) : Iv 0 (xrow (weM M (ldF (M 13) r a i) z) 60 (weN (M 60) r a i z)) := by
  obtain ⟨i1, i2, i3, i4, i5, i6, i7, i8⟩ := I
  exact ⟨wf_wea i1 r a i z hr hi, (pv_wea i1 i2 r a i z hi).row (by decide), (SK.up (i3.row (by decide)) (by decide)).row (by decide), i4, i5.e (N' := weN (M 60) r a i z) (fun a b ha hb => we_un (by omega) (by omega)) rfl rfl, i6, i7, i8⟩
theorem st_weather (I : Iv 0 M) (x y z : Int32) (q : ∀ r M1, Aft G jX9_weather [.ref 59, .int x, .int y, .int z] r M1 → Q (some (.int r)) (HH M1)) : CW G 11 jX8_weather [.ref 0, .int x, .int y, .int z] (HH M) Q := by
  have hw := I.1
  have hp := I.2.1
  have hsr := I.2.2.2.2.1
  have h40 := hw.2.1.2
  have hn : M 60 = M 60 := rfl
  refine CW_wp fX8_weather rfl rfl rfl ?_
  refine c_isDay x (fun a ha ea => ?_) (fun na => ?_)
  · refine c_isDay y (fun e he ee => ?_) (fun ne => ?_)
    · refine xl1 (l := (1 : Int32) = 0) (by decide) ?_
      refine xlt e a ee ea (by omega) (by omega) (fun c => ?_) (fun c => ?_)
      · refine c_fin0 ?_
        refine q _ _ (fun Q1 q1 => ?_)
        refine CW_wp fX9_weather rfl rfl rfl ?_
        refine m_isDay_t a ha ea ?_
        refine m_isDay_t e he ee ?_
        refine xl1 (l := (1 : Int32) = 0) (by decide) ?_
        refine xif (by rw [ea, ee]; exact nI_lt c (by omega)) ?_
        exact m_fin0 (iv_fc I) q1
      have c0 : ¬ y < x := by rw [ea, ee]; exact nI_nlt c (by omega)
      refine xite (fun c1 => ?_) (fun c1 => ?_)
      · refine c_fin0 ?_
        refine q _ _ (fun Q1 q1 => ?_)
        refine CW_wp fX9_weather rfl rfl rfl ?_
        refine m_isDay_t a ha ea ?_
        refine m_isDay_t e he ee ?_
        refine xl1 (l := (1 : Int32) = 0) (by decide) ?_
        refine xelse c0 ?_
        refine m_within _ _ _ (fun z1 _ => absurd c1 (Int32.not_lt.mpr z1)) (fun _ => ?_)
        exact m_fin0 (iv_fc I) q1
      refine xite (fun c2 => ?_) (fun c2 => ?_)
      · have key : Ev G 11 jX8_weather 39 [some (.ref 0), some (.int x), some (.int y), some (.int z), some (.int (nI a))] [] (HH (weM M (ldF (M 13) (ruS (M 1 7) z) a (a - a)) (zS (M 1 7) (a - a)))) 0 0 Q := by
          refine dn (E := fun i => Ev G 11 jX8_weather 39 [some (.ref 0), some (.int x), some (.int y), some (.int z), some (.int (nI i))] [] (HH (weM M (ldF (M 13) (ruS (M 1 7) z) a (i - a)) (zS (M 1 7) (i - a)))) 0 0 Q) (show a ≤ e + 1 by omega) ?_ (fun i h1 h2 ih => ?_)
          · refine Ev_wp fX8_weather rfl ?_
            refine xif (by rw [ee]; exact nI_lt (by omega) (by omega)) ?_
            have hpw := pv_wea hw hp (ruS (M 1 7) z) a (e + 1 - a) (zS (M 1 7) (e + 1 - a)) (by omega)
            have hww := wf_wea hw (ruS (M 1 7) z) a (e + 1 - a) (zS (M 1 7) (e + 1 - a)) (ru_01 _ _) (by omega)
            refine c_rainy hpw hww a e ea ee he (by omega) (fun r hr => ?_)
            rw [we_rs _ _ _ _ _ _ (Nat.le_refl _)] at hr
            subst hr
            refine q _ _ (fun Q1 q1 => ?_)
            refine CW_wp fX9_weather rfl rfl rfl ?_
            refine m_isDay_t a ha ea ?_
            refine m_isDay_t e he ee ?_
            refine xl1 (l := (1 : Int32) = 0) (by decide) ?_
            refine xelse c0 ?_
            refine m_within _ _ _ (fun _ _ => ?_) (fun z1 => absurd ⟨Int32.not_lt.mp c1, c2⟩ z1)
            have e7 : M 1 7 = M 60 3 := hp.2.2.2.1
            have h9 := m_weaL (G := G) (M := weM M (ldF (M 13) (ruS (M 1 7) z) a (e + 1 - a)) (zS (M 1 7) (e + 1 - a))) (N := M 60) (Q := Q1) rfl (x := x) (y := y) (c := z) a e c he ee (by
              rw [← e7]
              exact q1 _ (iv_wea I (ruS (M 1 7) z) a (e + 1 - a) (zS (M 1 7) (e + 1 - a)) (ru_01 _ _) (by omega)))
            rw [← ea] at h9
            exact h9
          · rw [nI_succ i, show i + 1 - a = (i - a) + 1 by omega, ← ld_s, show a + (i - a) = i by omega] at ih
            refine Ev_wp fX8_weather rfl ?_
            refine xelse (by rw [ee]; exact nI_nlt (by omega) (by omega)) ?_
            refine c_draw ?_
            have hz : zS (M 1 7) (i - a + 1) = zS (M 1 7) (i - a) * 1103515245 + 12345 := rfl
            have ez : weM M (ldF (M 13) (ruS (M 1 7) z) a (i - a)) (zS (M 1 7) (i - a)) 1 7 = zS (M 1 7) (i - a) := rfl
            rw [ez, ← hz]
            have fin : ∀ v, v = ruS (M 1 7) z (i - a) → Ev G 11 jX8_weather 39 [some (.ref 0), some (.int x), some (.int y), some (.int z), some (.int (nI i + 1))] [] (HH (xup (xup (weM M (ldF (M 13) (ruS (M 1 7) z) a (i - a)) (zS (M 1 7) (i - a))) 1 7 (zS (M 1 7) (i - a + 1))) 13 i v)) 0 0 Q := fun v hv => by
              subst hv
              rw [weM_up]
              exact ih
            refine xl1 (l := (100 : Int32) = 0) (by decide) ?_
            refine xite (fun c4 => ?_) (fun c4 => ?_)
            · refine xix (n := 100) i rfl (by omega) (by decide) (fun e5 => ?_)
              rw [e5]
              exact fin 0 (by unfold ruS; exact (if_pos (show z ≤ dwS _ from c4)).symm)
            · refine xix (n := 100) i rfl (by omega) (by decide) (fun e5 => ?_)
              rw [e5]
              exact fin 1 (by unfold ruS; exact (if_neg (show ¬ z ≤ dwS _ from c4)).symm)
        rw [Nat.sub_self, show zS (M 1 7) 0 = M 1 7 from rfl, weM_0, ← ea] at key
        exact key
      · refine c_fin0 ?_
        refine q _ _ (fun Q1 q1 => ?_)
        refine CW_wp fX9_weather rfl rfl rfl ?_
        refine m_isDay_t a ha ea ?_
        refine m_isDay_t e he ee ?_
        refine xl1 (l := (1 : Int32) = 0) (by decide) ?_
        refine xelse c0 ?_
        refine m_within _ _ _ (fun _ z1 => absurd z1 c2) (fun _ => ?_)
        exact m_fin0 (iv_fc I) q1
    · refine c_fin0 ?_
      refine q _ _ (fun Q1 q1 => ?_)
      refine CW_wp fX9_weather rfl rfl rfl ?_
      refine m_isDay_t a ha ea ?_
      refine m_isDay_f ne ?_
      exact m_fin0 (iv_fc I) q1
  · refine c_fin0 ?_
    refine q _ _ (fun Q1 q1 => ?_)
    refine CW_wp fX9_weather rfl rfl rfl ?_
    refine m_isDay_f na ?_
    exact m_fin0 (iv_fc I) q1
end Y2
