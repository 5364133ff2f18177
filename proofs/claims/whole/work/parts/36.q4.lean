/-! tell, needs, step, crowd, count, status, as: the class beside the model. -/
section Q4
variable {G : xG} {M : xM} {Q : Option Value → xH → Prop}
def tlS (N : Nat → Int32) (a b : Nat) (h : Nat) : Bool := decide (wh N a h ≠ -1) && decide (wh N a h ≠ wh N b h)
theorem nm1 {p : Nat} (h : p < 2 ^ 31) : nI p ≠ -1 := fun z => absurd (z ▸ nI_pos' h) (by decide)
/-- the model finds none at an HOUR where LOUD can't part the two -/
theorem m_tellH {N : Nat → Int32} (hw : Wf N) {M0 : xM} (hn0 : M0 60 = N) {x y lv : Int32} (a b l h : Nat) (ha : a < 6) (hb : b < 6) (hl : l ≤ 9) (hh : h < 24) (hx : x = nI a) (hy : y = nI b) (hlv : lv = nI l) (hno : tlS N a b h = false) (q : ∀ M', Rm N M0 M' → Ev G 11 jX9_tell 37 [some (.ref 59), some (.int x), some (.int y), some (.int lv), some (.int (nI (h + 1))), none] [] (HH M') 0 0 Q) : ∀ M', Rm N M0 M' → Ev G 11 jX9_tell 47 [some (.ref 59), some (.int x), some (.int y), some (.int lv), some (.int (nI h)), some (.int (nI 0))] [] (HH M') 0 0 Q := by
  refine dn (E := fun p => ∀ M', Rm N M0 M' → Ev G 11 jX9_tell 47 [some (.ref 59), some (.int x), some (.int y), some (.int lv), some (.int (nI h)), some (.int (nI p))] [] (HH M') 0 0 Q) (Nat.zero_le 10) (fun M' hm => ?_) (fun p _ h2 ih M' hm => ?_)
  · refine Ev_wp fX9_tell rfl ?_
    have h3 := q M' hm
    rw [nI_succ] at h3
    exact h3
  · refine Ev_wp fX9_tell rfl ?_
    refine xelse (nI_ge (b := 10) h2 (by decide)) ?_
    rw [nI_succ p] at ih
    refine m_isNear (hm.n hn0) hw hm.2.2 a p l h ha h2 hl hh hx rfl hlv rfl (fun M2 hm2 c hc e1 e2 => ?_) (fun M2 hm2 _ => ih M2 (hm.trans hm2))
    refine m_isNear (hm2.n (hm.n hn0)) hw hm2.2.2 b p l h hb h2 hl hh hy rfl hlv rfl (fun M3 hm3 _ _ _ _ => ih M3 ((hm.trans hm2).trans hm3)) (fun M3 hm3 hz => ?_)
    have e3 : wh N a h = wh N b h := by
      by_cases z : wh N a h = wh N b h
      · exact z
      · simp [tlS, z] at hno
        exact absurd (e1 ▸ hno) (nm1 (by omega))
    rcases hz with hz | ⟨d, hd, hz, hz2⟩
    · rw [← e3, e1] at hz
      exact absurd hz (nm1 (by omega))
    · rw [← e3, e1, nI_eq (by omega) (by omega)] at hz
      subst hz
      rw [e2] at hz2; cases hz2
theorem st_tell (I : Iv 0 M) (x y : Int32) (q : ∀ r M1, Aft G jX9_tell [.ref 59, .int x, .int y] r M1 → Q (some (.int r)) (HH M1)) : CW G 11 jX8_tell [.ref 0, .int x, .int y] (HH M) Q := by
  have hw := I.1
  have hp := I.2.1
  have hsr := I.2.2.2.2.1
  have h40 := hw.2.1.2
  have hn : M 60 = M 60 := rfl
  refine CW_wp fX8_tell rfl rfl rfl ?_
  refine c_isPerson x (fun a ha ea => ?_) (fun na => ?_)
  · refine c_isPerson y (fun b hb eb => ?_) (fun nb => ?_)
    · refine xite (fun c => ?_) (fun c => ?_)
      · refine c_fin0 ?_
        refine q _ _ (fun Q1 q1 => ?_)
        refine CW_wp fX9_tell rfl rfl rfl ?_
        refine m_isPerson_t a ha ea ?_
        refine m_isPerson_t b hb eb ?_
        refine xif c ?_
        exact m_fin0 (iv_fc I) q1
      refine dn (E := fun h => ff (tlS (M 60) a b) (24 - h) h = ff (tlS (M 60) a b) 24 0 → (∀ i, i < h → tlS (M 60) a b i = false) → Ev G 11 jX8_tell 28 [some (.ref 0), some (.int x), some (.int y), some (.int (nI h)), none] [] (HH M) 0 0 Q) (Nat.zero_le 24) (fun _ hno => ?_) (fun h _ h2 ih hf hno => ?_) rfl (fun i hi => absurd hi (Nat.not_lt_zero _))
      · refine Ev_wp fX8_tell rfl ?_
        refine c_fin3 ?_
        refine q _ _ (fun Q1 q1 => ?_)
        refine CW_wp fX9_tell rfl rfl rfl ?_
        refine m_isPerson_t a ha ea ?_
        refine m_isPerson_t b hb eb ?_
        refine xelse c ?_
        refine dn (E := fun l => ∀ M', Rm (M 60) (fc 3 M) M' → Ev G 11 jX9_tell 28 [some (.ref 59), some (.int x), some (.int y), some (.int (nI l)), none, none] [] (HH M') 0 0 Q1) (show 1 ≤ 10 by decide) (fun M' hm => ?_) (fun l _ hl2 ih M' hm => ?_) (fc 3 M) (Rm.refl (iv_fc (k := 3) I).2.2.2.2.1)
        · refine Ev_wp fX9_tell rfl ?_
          exact m_fin3 ((iv_fc (k := 3) I).rm hm) q1
        · refine Ev_wp fX9_tell rfl ?_
          refine xelse (nI_nlt (b := l) (a := 9) (by omega) (by decide)) ?_
          rw [nI_succ l] at ih
          refine dn (E := fun h => ∀ M', Rm (M 60) (fc 3 M) M' → Ev G 11 jX9_tell 37 [some (.ref 59), some (.int x), some (.int y), some (.int (nI l)), some (.int (nI h)), none] [] (HH M') 0 0 Q1) (Nat.zero_le 24) (fun M' hm => ?_) (fun h _ hh2 ih2 M' hm => ?_) M' hm
          · refine Ev_wp fX9_tell rfl ?_
            exact ih M' hm
          · refine Ev_wp fX9_tell rfl ?_
            refine xelse (nI_ge (b := 24) hh2 (by decide)) ?_
            exact m_tellH hw (show fc 3 M 60 = M 60 from rfl) a b l h ha hb (by omega) hh2 ea eb rfl (hno h hh2) ih2 M' hm
      · refine Ev_wp fX8_tell rfl ?_
        refine xelse (nI_ge (b := 24) h2 (by decide)) ?_
        rw [nI_succ h] at ih
        rw [ff_step _ h2] at hf
        have ih' : tlS (M 60) a b h = false → Ev G 11 jX8_tell 28 [some (.ref 0), some (.int x), some (.int y), some (.int (nI h + 1)), none] [] (HH M) 0 0 Q := fun z => by
          rw [if_neg (by simp [z])] at hf
          exact ih hf (fun i hi => by
            by_cases e : i = h
            · subst e; exact z
            · exact hno i (by omega))
        refine c_placeOf hp a h ha h2 ea rfl ?_
        refine xite (fun c2 => ih' (by simp [tlS, c2])) (fun c2 => ?_)
        refine c_placeOf hp b h hb h2 eb rfl ?_
        refine xite (fun c3 => ih' (by simp [tlS, c3])) (fun c3 => ?_)
        rcases wh_c hw ha h2 with e | ⟨p, hp10, e⟩
        · exact absurd e c2
        have hans : 10000 + 100 * nI h + wh (M 60) a h = nI (10000 + 100 * h + p) := ia (ia rfl (im rfl rfl)) e
        refine q _ _ (fun Q1 q1 => ?_)
        refine CW_wp fX9_tell rfl rfl rfl ?_
        refine m_isPerson_t a ha ea ?_
        refine m_isPerson_t b hb eb ?_
        refine xelse c ?_
        have kp : ∀ M', Rm (M 60) M M' → Ev G 11 jX9_tell 47 [some (.ref 59), some (.int x), some (.int y), some (.int (nI 1)), some (.int (nI h)), some (.int (nI 0))] [] (HH M') 0 0 Q1 := by
          refine dn (E := fun k => ∀ M', Rm (M 60) M M' → Ev G 11 jX9_tell 47 [some (.ref 59), some (.int x), some (.int y), some (.int (nI 1)), some (.int (nI h)), some (.int (nI k))] [] (HH M') 0 0 Q1) (Nat.zero_le p) (fun M' hm => ?_) (fun k _ hk2 ih3 M' hm => ?_)
          · refine Ev_wp fX9_tell rfl ?_
            refine xelse (nI_ge (b := 10) hp10 (by decide)) ?_
            refine m_isNear (hm.n hn) hw hm.2.2 a p 1 h ha hp10 (by decide) h2 ea rfl rfl rfl (fun M2 hm2 d hd e1 e2 => ?_) (fun M2 hm2 hz => ?_)
            · refine m_isNear (hm2.n (hm.n hn)) hw hm2.2.2 b p 1 h hb hp10 (by decide) h2 eb rfl rfl rfl (fun M3 hm3 d3 hd3 e3 e4 => ?_) (fun M3 hm3 hz => ?_)
              · have e5 : p = d3 := of_decide_eq_true e4
                subst e5
                rw [e, ← e3] at c3
                exact absurd rfl c3
              · have e6 : 10000 * nI 1 + 100 * nI h + nI p = nI (10000 + 100 * h + p) := ia (ia rfl (im rfl rfl)) rfl
                rw [hans, ← e6] at q1
                exact q1 _ (I.rm ((hm.trans hm2).trans hm3))
            · rcases hz with hz | ⟨d, hd, hz, hz2⟩
              · exact absurd hz c2
              · rw [e, nI_eq (by omega) (by omega)] at hz
                subst hz
                rw [show (1 : Nat) / 3 = 0 from rfl, rc_0] at hz2
                simp at hz2
          · refine Ev_wp fX9_tell rfl ?_
            refine xelse (nI_ge (b := 10) (by omega) (by decide)) ?_
            rw [nI_succ k] at ih3
            refine m_isNear (hm.n hn) hw hm.2.2 a k 1 h ha (by omega) (by decide) h2 ea rfl rfl rfl (fun M2 hm2 d hd e1 e2 => ?_) (fun M2 hm2 hz => ih3 M2 (hm.trans hm2))
            have e5 : k = d := of_decide_eq_true e2
            rw [e, nI_eq (by omega) (by omega)] at e1
            omega
        have k1 : ∀ M', Rm (M 60) M M' → Ev G 11 jX9_tell 37 [some (.ref 59), some (.int x), some (.int y), some (.int (nI 1)), some (.int (nI 0)), none] [] (HH M') 0 0 Q1 := by
          refine dn (E := fun k => ∀ M', Rm (M 60) M M' → Ev G 11 jX9_tell 37 [some (.ref 59), some (.int x), some (.int y), some (.int (nI 1)), some (.int (nI k)), none] [] (HH M') 0 0 Q1) (Nat.zero_le h) (fun M' hm => ?_) (fun k _ hk2 ih3 M' hm => ?_)
          · refine Ev_wp fX9_tell rfl ?_
            refine xelse (nI_ge (b := 24) h2 (by decide)) ?_
            exact kp M' hm
          · refine Ev_wp fX9_tell rfl ?_
            refine xelse (nI_ge (b := 24) (by omega) (by decide)) ?_
            exact m_tellH hw hn a b 1 k ha hb (by decide) (by omega) ea eb rfl (hno k hk2) ih3 M' hm
        have k0 : Ev G 11 jX9_tell 28 [some (.ref 59), some (.int x), some (.int y), some (.int (nI 1)), none, none] [] (HH M) 0 0 Q1 := by
          refine Ev_wp fX9_tell rfl ?_
          exact k1 M (Rm.refl hsr)
        exact k0
    · refine c_fin0 ?_
      refine q _ _ (fun Q1 q1 => ?_)
      refine CW_wp fX9_tell rfl rfl rfl ?_
      refine m_isPerson_t a ha ea ?_
      refine m_isPerson_f nb ?_
      exact m_fin0 (iv_fc I) q1
  · refine c_fin0 ?_
    refine q _ _ (fun Q1 q1 => ?_)
    refine CW_wp fX9_tell rfl rfl rfl ?_
    refine m_isPerson_f na ?_
    exact m_fin0 (iv_fc I) q1
theorem st_step (I : Iv 0 M) (x : Int32) (q : ∀ r M1, Aft G jX9_step [.ref 59, .int x] r M1 → Q (some (.int r)) (HH M1)) : CW G 11 jX8_step [.ref 0, .int x] (HH M) Q := by
  have hw := I.1
  have hp := I.2.1
  have hsr := I.2.2.2.2.1
  have h40 := hw.2.1.2
  have hn : M 60 = M 60 := rfl
  refine CW_wp fX8_step rfl rfl rfl ?_
  obtain ⟨L, hL, l1, l2, l3⟩ := I.2.2.2.2.2.1
  rcases n_ix x 24 (by decide) with ⟨i, hi, ex⟩ | ⟨hx, nx⟩
  · refine xelse (by rw [ex]; exact nI_pos (by omega)) ?_
    refine xif (by rw [ex]; exact nI_lt (b := 24) hi (by decide)) ?_
    refine xle L i l1 ex (by omega) (by omega) (fun c => ?_) (fun c => ?_)
    · refine c_fin3 ?_
      refine q _ _ (fun Q1 q1 => ?_)
      refine CW_wp fX9_step rfl rfl rfl ?_
      refine m_isHour_t i hi ex ?_
      refine xif (show fc 3 M 59 8 ≤ x from by rw [show fc 3 M 59 8 = nI L from l2, ex]; exact nI_le c (by omega)) ?_
      exact m_fin3 (iv_fc I) q1
    · refine xix (n := 24) i ex hi (by decide) (fun e => ?_)
      rw [e]
      refine q _ _ (fun Q1 q1 => ?_)
      refine CW_wp fX9_step rfl rfl rfl ?_
      refine m_isHour_t i hi ex ?_
      refine xelse (show ¬ M 59 8 ≤ x from by rw [l2, ex]; exact nI_ge c (by omega)) ?_
      refine xix (n := 24) i ex hi (by decide) (fun e => ?_)
      rw [e, ← l3 i c]
      exact q1 _ I
  · refine xite (fun c => ?_) (fun c => ?_)
    · refine c_fin0 ?_
      refine q _ _ (fun Q1 q1 => ?_)
      refine CW_wp fX9_step rfl rfl rfl ?_
      refine m_isHour_f nx ?_
      exact m_fin0 (iv_fc I) q1
    · refine xelse (by exact Int32.not_lt.mpr (hx.resolve_left c)) ?_
      refine c_fin0 ?_
      refine q _ _ (fun Q1 q1 => ?_)
      refine CW_wp fX9_step rfl rfl rfl ?_
      refine m_isHour_f nx ?_
      exact m_fin0 (iv_fc I) q1
/-- THE CROWD, of the first k of 240: how many, and where -/
def crC (N : Nat → Int32) (k : Nat) : Nat := cn (fun p => decide (wh N p (k / 10) = nI (k % 10))) 6
def crM (N : Nat → Int32) : Nat → Nat
  | 0 => 0
  | k + 1 => if crM N k < crC N k then crC N k else crM N k
def crT (N : Nat → Int32) : Nat → Nat
  | 0 => 0
  | k + 1 => if crM N k < crC N k then 100 * (k / 10) + k % 10 else crT N k
theorem crM_le (N : Nat → Int32) : ∀ k, crM N k ≤ 6
  | 0 => Nat.zero_le _
  | k + 1 => by
    have h1 := crM_le N k
    have h2 : crC N k ≤ 6 := cn_le _ _
    rw [crM]
    split <;> omega
theorem crT_le (N : Nat → Int32) : ∀ k, crT N k ≤ 100 * k
  | 0 => Nat.zero_le _
  | k + 1 => by
    have h1 := crT_le N k
    rw [crT]
    split <;> omega
def crB (N : Nat → Int32) (k : Nat) : Int32 := if crM N k = 0 then -1 else nI (crT N k)
theorem cr_0 {N : Nat → Int32} {k : Nat} (c : crC N k ≤ crM N k) : crM N (k + 1) = crM N k ∧ crT N (k + 1) = crT N k ∧ crB N (k + 1) = crB N k := by
  have h1 : crM N (k + 1) = crM N k := by rw [crM, if_neg (by omega)]
  have h2 : crT N (k + 1) = crT N k := by rw [crT, if_neg (by omega)]
  exact ⟨h1, h2, by rw [crB, crB, h1, h2]⟩
theorem cr_1 {N : Nat → Int32} {k : Nat} (c : crM N k < crC N k) : crM N (k + 1) = crC N k ∧ crT N (k + 1) = 100 * (k / 10) + k % 10 ∧ crB N (k + 1) = nI (100 * (k / 10) + k % 10) := by
  have h1 : crM N (k + 1) = crC N k := by rw [crM, if_pos c]
  have h2 : crT N (k + 1) = 100 * (k / 10) + k % 10 := by rw [crT, if_pos c]
  exact ⟨h1, h2, by rw [crB, h1, h2, if_neg (by omega)]⟩
theorem st_crowd (I : Iv 0 M) (q : ∀ r M1, Aft G jX9_crowd [.ref 59] r M1 → Q (some (.int r)) (HH M1)) : CW G 11 jX8_crowd [.ref 0] (HH M) Q := by
  have hw := I.1
  have hp := I.2.1
  have hsr := I.2.2.2.2.1
  have h40 := hw.2.1.2
  have hn : M 60 = M 60 := rfl
  refine CW_wp fX8_crowd rfl rfl rfl ?_
  have hin : ∀ h, h < 24 → (Ev G 11 jX8_crowd 6 [some (.ref 0), some (.int (nI (crM (M 60) (10 * (h + 1))))), some (.int (nI (crT (M 60) (10 * (h + 1))))), some (.int (nI (h + 1))), none, none] [] (HH M) 0 0 Q) → Ev G 11 jX8_crowd 15 [some (.ref 0), some (.int (nI (crM (M 60) (10 * h)))), some (.int (nI (crT (M 60) (10 * h)))), some (.int (nI h)), some (.int (nI 0)), none] [] (HH M) 0 0 Q := fun h hh hq => by
    refine dn (E := fun p => Ev G 11 jX8_crowd 15 [some (.ref 0), some (.int (nI (crM (M 60) (10 * h + p)))), some (.int (nI (crT (M 60) (10 * h + p)))), some (.int (nI h)), some (.int (nI p)), none] [] (HH M) 0 0 Q) (Nat.zero_le 10) ?_ (fun p _ h2 ih => ?_)
    · refine Ev_wp fX8_crowd rfl ?_
      rw [nI_succ] at hq
      exact hq
    · refine Ev_wp fX8_crowd rfl ?_
      refine xelse (nI_ge (b := 10) h2 (by decide)) ?_
      refine c_numberAt hp h hh rfl (fun r hr => ?_)
      have b1 := crM_le (M 60) (10 * h + p)
      have b2 : crC (M 60) (10 * h + p) ≤ 6 := cn_le _ _
      have e : crC (M 60) (10 * h + p) = cn (fun k => decide (wh (M 60) k h = nI p)) 6 := by
        unfold crC
        rw [show (10 * h + p) / 10 = h by omega, show (10 * h + p) % 10 = p by omega]
      rw [← e] at hr
      rw [nI_succ p, ← Nat.add_assoc] at ih
      refine xle (crC (M 60) (10 * h + p)) (crM (M 60) (10 * h + p)) hr rfl (by omega) (by omega) (fun c => ?_) (fun c => ?_)
      · obtain ⟨z1, z2, -⟩ := cr_0 c
        rw [z1, z2] at ih
        exact ih
      · obtain ⟨z1, z2, -⟩ := cr_1 c
        rw [z1, z2, show (10 * h + p) / 10 = h by omega, show (10 * h + p) % 10 = p by omega, ← nI_add, ← pk_mul, ← hr] at ih
        exact ih
  refine dn (E := fun h => Ev G 11 jX8_crowd 6 [some (.ref 0), some (.int (nI (crM (M 60) (10 * h)))), some (.int (nI (crT (M 60) (10 * h)))), some (.int (nI h)), none, none] [] (HH M) 0 0 Q) (Nat.zero_le 24) ?_ (fun h _ hh ih => ?_)
  · refine Ev_wp fX8_crowd rfl ?_
    have b1 := crM_le (M 60) (10 * 24)
    have hmod : ∀ (M0 : xM), M0 60 = M 60 → ∀ Q1 : Option Value → xH → Prop, (crM (M 60) (10 * 24) = 0 → Iv 4 M0 ∧ ∀ M2, Iv 0 M2 → Q1 (some (.int (nF 3))) (HH M2)) → (crM (M 60) (10 * 24) ≠ 0 → Q1 (some (.int (nI (crT (M 60) (10 * 24))))) (HH M0)) → Ev G 11 jX9_crowd 6 [some (.ref 59), some (.int (crB (M 60) (10 * 0))), some (.int (nI (crM (M 60) (10 * 0)))), some (.int (nI 0)), none] [] (HH M0) 0 0 Q1 := fun M0 hn0 Q1 qq qq2 => by
      have hin2 : ∀ h, h < 24 → (Ev G 11 jX9_crowd 6 [some (.ref 59), some (.int (crB (M 60) (10 * (h + 1)))), some (.int (nI (crM (M 60) (10 * (h + 1))))), some (.int (nI (h + 1))), none] [] (HH M0) 0 0 Q1) → Ev G 11 jX9_crowd 15 [some (.ref 59), some (.int (crB (M 60) (10 * h))), some (.int (nI (crM (M 60) (10 * h)))), some (.int (nI h)), some (.int (nI 0))] [] (HH M0) 0 0 Q1 := fun h hh hq => by
        refine dn (E := fun p => Ev G 11 jX9_crowd 15 [some (.ref 59), some (.int (crB (M 60) (10 * h + p))), some (.int (nI (crM (M 60) (10 * h + p)))), some (.int (nI h)), some (.int (nI p))] [] (HH M0) 0 0 Q1) (Nat.zero_le 10) ?_ (fun p _ h2 ih => ?_)
        · refine Ev_wp fX9_crowd rfl ?_
          rw [nI_succ] at hq
          exact hq
        · refine Ev_wp fX9_crowd rfl ?_
          refine xelse (nI_ge (b := 10) h2 (by decide)) ?_
          refine m_manyAt hn0 h hh rfl ?_
          have b1 := crM_le (M 60) (10 * h + p)
          have b2 : crC (M 60) (10 * h + p) ≤ 6 := cn_le _ _
          have e : crC (M 60) (10 * h + p) = cn (fun k => decide (wh (M 60) k h = nI p)) 6 := by
            unfold crC
            rw [show (10 * h + p) / 10 = h by omega, show (10 * h + p) % 10 = p by omega]
          rw [← e]
          rw [nI_succ p, ← Nat.add_assoc] at ih
          refine xle (crC (M 60) (10 * h + p)) (crM (M 60) (10 * h + p)) rfl rfl (by omega) (by omega) (fun c => ?_) (fun c => ?_)
          · obtain ⟨z1, -, z2⟩ := cr_0 c
            rw [z1, z2] at ih
            exact ih
          · refine m_manyAt hn0 h hh rfl ?_
            rw [← e]
            obtain ⟨z1, -, z2⟩ := cr_1 c
            rw [z1, z2, show (10 * h + p) / 10 = h by omega, show (10 * h + p) % 10 = p by omega, ← nI_add, ← pk_mul] at ih
            exact ih
      refine dn (E := fun h => Ev G 11 jX9_crowd 6 [some (.ref 59), some (.int (crB (M 60) (10 * h))), some (.int (nI (crM (M 60) (10 * h)))), some (.int (nI h)), none] [] (HH M0) 0 0 Q1) (Nat.zero_le 24) ?_ (fun h _ hh ih => ?_)
      · have b2 := crT_le (M 60) (10 * 24)
        by_cases c : crM (M 60) (10 * 24) = 0
        · rw [show crB (M 60) (10 * 24) = -1 from if_pos c]
          refine Ev_wp fX9_crowd rfl ?_
          exact m_fin3 (qq c).1 (qq c).2
        · rw [show crB (M 60) (10 * 24) = nI (crT (M 60) (10 * 24)) from if_neg c]
          refine Ev_wp fX9_crowd rfl ?_
          refine xif (nI_pos' (by omega)) ?_
          exact qq2 c
      · refine Ev_wp fX9_crowd rfl ?_
        refine xelse (nI_ge (b := 24) hh (by decide)) ?_
        exact hin2 h hh ih
    refine xeq (crM (M 60) (10 * 24)) 0 rfl rfl (by omega) (by decide) (fun c => ?_) (fun c => ?_)
    · refine c_fin3 ?_
      refine q _ _ (fun Q1 q1 => ?_)
      refine CW_wp fX9_crowd rfl rfl rfl ?_
      exact hmod (fc 3 M) rfl Q1 (fun _ => ⟨iv_fc I, q1⟩) (fun z => absurd c z)
    · refine q _ _ (fun Q1 q1 => ?_)
      refine CW_wp fX9_crowd rfl rfl rfl ?_
      exact hmod M rfl Q1 (fun z => absurd z c) (fun _ => q1 _ I)
  · refine Ev_wp fX8_crowd rfl ?_
    refine xelse (nI_ge (b := 24) hh (by decide)) ?_
    exact hin h hh ih
end Q4
