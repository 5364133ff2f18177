/-! ITEMS read, the model's side: PERSON, SAYING. -/
def RmQ (b : Nat → Nat) (T : Nat) (M : xM) (Q : Option Value → xH → Prop) (c s : Nat) (r : R7) : Prop := (r.1 = true → ∀ M', MrM M M' → M' 59 15 = 0 → LxM b T r.2.1 M' → M' 59 18 = nI (c + 1) → M' 59 19 = (if r.2.2.1 < 7 then nI (s + 1) else nI s) → M' 68 = itM M c (nI r.2.2.1) (nI r.2.2.2.1) (nI r.2.2.2.2.1) (nI r.2.2.2.2.2.1) (nI r.2.2.2.2.2.2) 68 → Q none (HH M')) ∧ (r.1 = false → ∀ M', MrM M M' → M' 59 15 = 1 → M' 59 11 = nI (stT b T r.2.1) → Q none (HH M'))
theorem nu_no {b : Nat → Nat} {T e lo hi : Nat} (hb : ∀ i, b i < 256) (h : ¬ (nuT b T e lo hi = true ∧ (-1 : Int32) ≠ nI (vT b T e))) : nuT b T e lo hi = false := by
  cases h2 : nuT b T e lo hi with
  | true => exact absurd ⟨h2, Ne.symm (nm1 (by have := v_le b hb T e; omega))⟩ h
  | false => rfl
theorem it_68 {M M' : xM} (h : M' 68 = M 68) (n : Nat) (k x y z u : Int32) : itM M' n k x y z u 68 = itM M n k x y z u 68 := by
  unfold itM xup
  simp only [xrow_at, h]
section LP
variable {G : xG} {d : Nat} {M : xM} {Q : Option Value → xH → Prop} {b : Nat → Nat} {T : Nat}
theorem m_readPerson (tp0 : TpM b T M) (e : Nat) (he0 : e ≤ T) (lx0 : LxM b T e M) (hr0 : M 59 15 = 0) (c s : Nat) (hc : c < 120) (h180 : M 59 18 = nI c) (h190 : M 59 19 = nI s) (q : RmQ b T M Q c s (piPers b T (enT b T e))) : CW G (d + 5) jX9_readPerson [.ref 59] (HH M) Q := by
  have hb := tp0.2.2.2
  have e680 : M 68 = M 68 := rfl
  have D0 := MrM.refl M
  unfold piPers at q
  refine CW_wp fX9_readPerson rfl rfl rfl ?_
  refine m_must1 tp0 e he0 lx0 hr0 (fun M1 hm1 lx1 => ?_)
  have tp1 := tp0.cf hm1
  have he1 := (en_b b T e he0).2.1
  have hr1 := (hm1.2 15 (by decide)).trans hr0
  have h181 := (hm1.2 18 (by decide)).trans h180
  have h191 := (hm1.2 19 (by decide)).trans h190
  have e681 := (hm1.1 68 (by decide)).trans e680
  have D1 := D0.trans (MrM.cf hm1)
  refine m_number tp1 (enT b T e) he1 lx1 hr1 0 5 rfl rfl (by decide) (by decide) (fun c1 _ M2 hm2 lx2 => ?_) (fun c1 v1 => ?_)
  · rw [if_pos c1] at q
    obtain ⟨g1, l1, u1⟩ := nu_iff.mp c1
    have tp2 := tp1.cf hm2
    have he2 := (en_b b T (enT b T e) he1).2.1
    have hr2 := (hm2.2 15 (by decide)).trans hr1
    have h182 := (hm2.2 18 (by decide)).trans h181
    have h192 := (hm2.2 19 (by decide)).trans h191
    have e682 := (hm2.1 68 (by decide)).trans e681
    have D2 := D1.trans (MrM.cf hm2)
    unfold piP1 at q
    refine m_isWord2 tp2 (enT b T (enT b T e)) he2 lx2 (fun c2 => ?_) (fun c2 => ?_)
    · rw [if_pos c2] at q
      refine m_must1 tp2 (enT b T (enT b T e)) he2 lx2 hr2 (fun M3 hm3 lx3 => ?_)
      have tp3 := tp2.cf hm3
      have he3 := (en_b b T (enT b T (enT b T e)) he2).2.1
      have hr3 := (hm3.2 15 (by decide)).trans hr2
      have h183 := (hm3.2 18 (by decide)).trans h182
      have h193 := (hm3.2 19 (by decide)).trans h192
      have e683 := (hm3.1 68 (by decide)).trans e682
      have D3 := D2.trans (MrM.cf hm3)
      unfold piP2 at q
      refine m_number tp3 (enT b T (enT b T (enT b T e))) he3 lx3 hr3 0 9 rfl rfl (by decide) (by decide) (fun c3 _ M4 hm4 lx4 => ?_) (fun c3 v3 => ?_)
      · rw [if_pos c3] at q
        obtain ⟨g3, l3, u3⟩ := nu_iff.mp c3
        have tp4 := tp3.cf hm4
        have he4 := (en_b b T (enT b T (enT b T (enT b T e))) he3).2.1
        have hr4 := (hm4.2 15 (by decide)).trans hr3
        have h184 := (hm4.2 18 (by decide)).trans h183
        have h194 := (hm4.2 19 (by decide)).trans h193
        have e684 := (hm4.1 68 (by decide)).trans e683
        have D4 := D3.trans (MrM.cf hm4)
        refine xif hr4 ?_
        unfold piP3 at q
        refine m_isWord3 tp4 (enT b T (enT b T (enT b T (enT b T e)))) he4 lx4 (fun c4 => ?_) (fun c4 => ?_)
        · rw [if_pos c4] at q
          refine m_must1 tp4 (enT b T (enT b T (enT b T (enT b T e)))) he4 lx4 hr4 (fun M5 hm5 lx5 => ?_)
          have tp5 := tp4.cf hm5
          have he5 := (en_b b T (enT b T (enT b T (enT b T (enT b T e)))) he4).2.1
          have hr5 := (hm5.2 15 (by decide)).trans hr4
          have h185 := (hm5.2 18 (by decide)).trans h184
          have h195 := (hm5.2 19 (by decide)).trans h194
          have e685 := (hm5.1 68 (by decide)).trans e684
          have D5 := D4.trans (MrM.cf hm5)
          refine m_number tp5 (enT b T (enT b T (enT b T (enT b T (enT b T e))))) he5 lx5 hr5 0 23 rfl rfl (by decide) (by decide) (fun c5 _ M6 hm6 lx6 => ?_) (fun c5 v5 => ?_)
          · rw [if_pos c5] at q
            obtain ⟨g5, l5, u5⟩ := nu_iff.mp c5
            have tp6 := tp5.cf hm6
            have he6 := (en_b b T (enT b T (enT b T (enT b T (enT b T (enT b T e))))) he5).2.1
            have hr6 := (hm6.2 15 (by decide)).trans hr5
            have h186 := (hm6.2 18 (by decide)).trans h185
            have h196 := (hm6.2 19 (by decide)).trans h195
            have e686 := (hm6.1 68 (by decide)).trans e685
            have D6 := D5.trans (MrM.cf hm6)
            refine m_number tp6 (enT b T (enT b T (enT b T (enT b T (enT b T (enT b T e)))))) he6 lx6 hr6 (vT b T (enT b T (enT b T (enT b T (enT b T (enT b T e)))))) 23 rfl rfl (by omega) (by decide) (fun c6 _ M7 hm7 lx7 => ?_) (fun c6 v6 => ?_)
            · rw [if_pos c6] at q
              obtain ⟨g6, l6, u6⟩ := nu_iff.mp c6
              have tp7 := tp6.cf hm7
              have he7 := (en_b b T (enT b T (enT b T (enT b T (enT b T (enT b T (enT b T e)))))) he6).2.1
              have hr7 := (hm7.2 15 (by decide)).trans hr6
              have h187 := (hm7.2 18 (by decide)).trans h186
              have h197 := (hm7.2 19 (by decide)).trans h196
              have e687 := (hm7.1 68 (by decide)).trans e686
              have D7 := D6.trans (MrM.cf hm7)
              refine m_item c hc h187 _ _ _ _ _ ?_
              exact q.1 rfl _ ((D7.its c _ _ _ _ _).up 18 _ (by decide)) hr7 lx7 rfl h197 (it_68 e687 c _ _ _ _ _)
            · rw [if_neg (by rw [nu_no hb c6]; decide)] at q
              refine m_item (M := xup M6 59 15 1) c hc h186 _ _ _ _ _ ?_
              exact q.2 rfl _ (((D6.up 15 1 (by decide)).its c _ _ _ _ _).up 18 _ (by decide)) rfl lx6.2.1
          · rw [if_neg (by rw [nu_no hb c5]; decide)] at q
            refine m_numberW rfl _ _ _ (fun _ => ?_)
            refine m_item (M := xup M5 59 15 1) c hc h185 _ _ _ _ _ ?_
            exact q.2 rfl _ (((D5.up 15 1 (by decide)).its c _ _ _ _ _).up 18 _ (by decide)) rfl lx5.2.1
        · rw [if_neg (by rw [c4]; decide)] at q
          refine m_item c hc h184 _ _ _ _ _ ?_
          exact q.1 rfl _ ((D4.its c _ _ _ _ _).up 18 _ (by decide)) hr4 lx4 rfl h194 (it_68 e684 c _ _ _ _ _)
      · rw [if_neg (by rw [nu_no hb c3]; decide)] at q
        first | refine xelse (show ¬ (1 : Int32) = 0 by decide) ?_ | skip
        refine m_item (M := xup M3 59 15 1) c hc h183 _ _ _ _ _ ?_
        exact q.2 rfl _ (((D3.up 15 1 (by decide)).its c _ _ _ _ _).up 18 _ (by decide)) rfl lx3.2.1
    · rw [if_neg (by rw [c2]; decide)] at q
      refine m_must0 hr2 ?_
      refine m_numberW rfl _ _ _ (fun _ => ?_)
      first | refine xelse (show ¬ (1 : Int32) = 0 by decide) ?_ | skip
      refine m_item (M := xup M2 59 15 1) c hc h182 _ _ _ _ _ ?_
      exact q.2 rfl _ (((D2.up 15 1 (by decide)).its c _ _ _ _ _).up 18 _ (by decide)) rfl lx2.2.1
  · rw [if_neg (by rw [nu_no hb c1]; decide)] at q
    refine m_isWA2 (M := xup M1 59 15 1) tp1.wr (enT b T e) he1 lx1.wr (fun _ => ?_)
    refine m_mustW rfl _ ?_
    refine m_numberW rfl _ _ _ (fun _ => ?_)
    first | refine xelse (show ¬ (1 : Int32) = 0 by decide) ?_ | skip
    refine m_item (M := xup M1 59 15 1) c hc h181 _ _ _ _ _ ?_
    exact q.2 rfl _ (((D1.up 15 1 (by decide)).its c _ _ _ _ _).up 18 _ (by decide)) rfl lx1.2.1
theorem m_readSaying (tp0 : TpM b T M) (e : Nat) (he0 : e ≤ T) (lx0 : LxM b T e M) (hr0 : M 59 15 = 0) (c s : Nat) (hc : c < 120) (h180 : M 59 18 = nI c) (h190 : M 59 19 = nI s) (m k : Nat) (hk : k < 7) (hm40 : m < 1000) (hm : M 60 1 + M 59 19 = nI m) (q : RmQ b T M Q c s (if m < 40 then piSay b T k (enT b T e) else fR e)) : CW G (d + 5) jX9_readSaying [.ref 59, .int (nI k)] (HH M) Q := by
  have hb := tp0.2.2.2
  have e680 : M 68 = M 68 := rfl
  have D0 := MrM.refl M
  refine CW_wp fX9_readSaying rfl rfl rfl ?_
  refine xle 40 m rfl hm (by decide) (by omega) (fun cm => ?_) (fun cm => ?_)
  · rw [if_neg (by omega)] at q
    refine m_must0 hr0 ?_
    refine m_numberW (M := (xup (xup M 59 15 1) 59 19 (M 59 19 + 1))) rfl _ _ _ (fun _ => ?_)
    refine m_isWA2 (M := (xup (xup M 59 15 1) 59 19 (M 59 19 + 1))) (show TpM b T (xup (xup M 59 15 1) 59 19 (M 59 19 + 1)) from tp0) e he0 (show LxM b T e (xup (xup M 59 15 1) 59 19 (M 59 19 + 1)) from lx0) (fun _ => ?_)
    refine m_mustW (M := (xup (xup M 59 15 1) 59 19 (M 59 19 + 1))) rfl _ ?_
    refine m_numberW (M := (xup (xup M 59 15 1) 59 19 (M 59 19 + 1))) rfl _ _ _ (fun _ => ?_)
    refine m_isWA13 (M := (xup (xup M 59 15 1) 59 19 (M 59 19 + 1))) (show TpM b T (xup (xup M 59 15 1) 59 19 (M 59 19 + 1)) from tp0) e he0 (show LxM b T e (xup (xup M 59 15 1) 59 19 (M 59 19 + 1)) from lx0) (fun _ => ?_)
    refine m_mustW (M := (xup (xup M 59 15 1) 59 19 (M 59 19 + 1))) rfl _ ?_
    refine m_numberW (M := (xup (xup M 59 15 1) 59 19 (M 59 19 + 1))) rfl _ _ _ (fun _ => ?_)
    first | refine xelse (show ¬ (1 : Int32) = 0 by decide) ?_ | skip
    refine m_item (M := (xup (xup M 59 15 1) 59 19 (M 59 19 + 1))) c hc h180 _ _ _ _ _ ?_
    exact q.2 rfl _ ((((D0.up 15 1 (by decide)).up 19 _ (by decide)).its c _ _ _ _ _).up 18 _ (by decide)) rfl lx0.2.1
  · rw [if_pos cm] at q
    unfold piSay at q
    refine m_must1 tp0 e he0 lx0 hr0 (fun M1 hm1 lx9 => ?_)
    have t9 : TpM b T M1 := tp0.cf hm1
    have tp1 : TpM b T (xup M1 59 19 (M1 59 19 + 1)) := t9
    have lx1 : LxM b T (enT b T e) (xup M1 59 19 (M1 59 19 + 1)) := lx9
    have he1 := (en_b b T e he0).2.1
    have hr1 : (xup M1 59 19 (M1 59 19 + 1)) 59 15 = 0 := (hm1.2 15 (by decide)).trans hr0
    have h181 : (xup M1 59 19 (M1 59 19 + 1)) 59 18 = nI c := (hm1.2 18 (by decide)).trans h180
    have h191 : (xup M1 59 19 (M1 59 19 + 1)) 59 19 = nI (s + 1) := by
      show M1 59 19 + 1 = nI (s + 1)
      rw [(hm1.2 19 (by decide)).trans h190, ← nI_succ]
    have e681 : (xup M1 59 19 (M1 59 19 + 1)) 68 = M 68 := hm1.1 68 (by decide)
    have D1 : MrM M (xup M1 59 19 (M1 59 19 + 1)) := (D0.trans (MrM.cf hm1)).up 19 _ (by decide)
    refine m_number tp1 (enT b T e) he1 lx1 hr1 0 15 rfl rfl (by decide) (by decide) (fun c1 _ M2 hm2 lx2 => ?_) (fun c1 v1 => ?_)
    · rw [if_pos c1] at q
      obtain ⟨g1, l1, u1⟩ := nu_iff.mp c1
      have tp2 := tp1.cf hm2
      have he2 := (en_b b T (enT b T e) he1).2.1
      have hr2 := (hm2.2 15 (by decide)).trans hr1
      have h182 := (hm2.2 18 (by decide)).trans h181
      have h192 := (hm2.2 19 (by decide)).trans h191
      have e682 := (hm2.1 68 (by decide)).trans e681
      have D2 := D1.trans (MrM.cf hm2)
      unfold piS1 at q
      refine m_isWord2 tp2 (enT b T (enT b T e)) he2 lx2 (fun c2 => ?_) (fun c2 => ?_)
      · rw [if_pos c2] at q
        refine m_must1 tp2 (enT b T (enT b T e)) he2 lx2 hr2 (fun M3 hm3 lx3 => ?_)
        have tp3 := tp2.cf hm3
        have he3 := (en_b b T (enT b T (enT b T e)) he2).2.1
        have hr3 := (hm3.2 15 (by decide)).trans hr2
        have h183 := (hm3.2 18 (by decide)).trans h182
        have h193 := (hm3.2 19 (by decide)).trans h192
        have e683 := (hm3.1 68 (by decide)).trans e682
        have D3 := D2.trans (MrM.cf hm3)
        unfold piS2 at q
        refine m_number tp3 (enT b T (enT b T (enT b T e))) he3 lx3 hr3 0 9 rfl rfl (by decide) (by decide) (fun c3 _ M4 hm4 lx4 => ?_) (fun c3 v3 => ?_)
        · rw [if_pos c3] at q
          obtain ⟨g3, l3, u3⟩ := nu_iff.mp c3
          have tp4 := tp3.cf hm4
          have he4 := (en_b b T (enT b T (enT b T (enT b T e))) he3).2.1
          have hr4 := (hm4.2 15 (by decide)).trans hr3
          have h184 := (hm4.2 18 (by decide)).trans h183
          have h194 := (hm4.2 19 (by decide)).trans h193
          have e684 := (hm4.1 68 (by decide)).trans e683
          have D4 := D3.trans (MrM.cf hm4)
          unfold piS3 at q
          refine m_isWord13 tp4 (enT b T (enT b T (enT b T (enT b T e)))) he4 lx4 (fun c4 => ?_) (fun c4 => ?_)
          · rw [if_pos c4] at q
            refine m_must1 tp4 (enT b T (enT b T (enT b T (enT b T e)))) he4 lx4 hr4 (fun M5 hm5 lx5 => ?_)
            have tp5 := tp4.cf hm5
            have he5 := (en_b b T (enT b T (enT b T (enT b T (enT b T e)))) he4).2.1
            have hr5 := (hm5.2 15 (by decide)).trans hr4
            have h185 := (hm5.2 18 (by decide)).trans h184
            have h195 := (hm5.2 19 (by decide)).trans h194
            have e685 := (hm5.1 68 (by decide)).trans e684
            have D5 := D4.trans (MrM.cf hm5)
            unfold piS4 at q
            refine m_number tp5 (enT b T (enT b T (enT b T (enT b T (enT b T e))))) he5 lx5 hr5 0 23 rfl rfl (by decide) (by decide) (fun c5 _ M6 hm6 lx6 => ?_) (fun c5 v5 => ?_)
            · rw [if_pos c5] at q
              obtain ⟨g5, l5, u5⟩ := nu_iff.mp c5
              have tp6 := tp5.cf hm6
              have he6 := (en_b b T (enT b T (enT b T (enT b T (enT b T (enT b T e))))) he5).2.1
              have hr6 := (hm6.2 15 (by decide)).trans hr5
              have h186 := (hm6.2 18 (by decide)).trans h185
              have h196 := (hm6.2 19 (by decide)).trans h195
              have e686 := (hm6.1 68 (by decide)).trans e685
              have D6 := D5.trans (MrM.cf hm6)
              refine xif hr6 ?_
              unfold piS5 at q
              refine m_isWord14 tp6 (enT b T (enT b T (enT b T (enT b T (enT b T (enT b T e)))))) he6 lx6 (fun c6 => ?_) (fun c6 => ?_)
              · rw [if_pos c6] at q
                refine m_must1 tp6 (enT b T (enT b T (enT b T (enT b T (enT b T (enT b T e)))))) he6 lx6 hr6 (fun M7 hm7 lx7 => ?_)
                have tp7 := tp6.cf hm7
                have he7 := (en_b b T (enT b T (enT b T (enT b T (enT b T (enT b T (enT b T e)))))) he6).2.1
                have hr7 := (hm7.2 15 (by decide)).trans hr6
                have h187 := (hm7.2 18 (by decide)).trans h186
                have h197 := (hm7.2 19 (by decide)).trans h196
                have e687 := (hm7.1 68 (by decide)).trans e686
                have D7 := D6.trans (MrM.cf hm7)
                refine m_number tp7 (enT b T (enT b T (enT b T (enT b T (enT b T (enT b T (enT b T e))))))) he7 lx7 hr7 1 9 rfl rfl (by decide) (by decide) (fun c7 _ M8 hm8 lx8 => ?_) (fun c7 v7 => ?_)
                · rw [if_pos c7] at q
                  obtain ⟨g7, l7, u7⟩ := nu_iff.mp c7
                  have tp8 := tp7.cf hm8
                  have he8 := (en_b b T (enT b T (enT b T (enT b T (enT b T (enT b T (enT b T (enT b T e))))))) he7).2.1
                  have hr8 := (hm8.2 15 (by decide)).trans hr7
                  have h188 := (hm8.2 18 (by decide)).trans h187
                  have h198 := (hm8.2 19 (by decide)).trans h197
                  have e688 := (hm8.1 68 (by decide)).trans e687
                  have D8 := D7.trans (MrM.cf hm8)
                  refine m_item c hc h188 _ _ _ _ _ ?_
                  exact q.1 rfl _ ((D8.its c _ _ _ _ _).up 18 _ (by decide)) hr8 lx8 rfl (show M8 59 19 = (if k < 7 then nI (s + 1) else nI s) by rw [if_pos hk]; exact h198) (it_68 e688 c _ _ _ _ _)
                · rw [if_neg (by rw [nu_no hb c7]; decide)] at q
                  refine m_item (M := (xup M7 59 15 1)) c hc h187 _ _ _ _ _ ?_
                  exact q.2 rfl _ (((D7.up 15 1 (by decide)).its c _ _ _ _ _).up 18 _ (by decide)) rfl lx7.2.1
              · rw [if_neg (by rw [c6]; decide)] at q
                refine m_item c hc h186 _ _ _ _ _ ?_
                exact q.1 rfl _ ((D6.its c _ _ _ _ _).up 18 _ (by decide)) hr6 lx6 rfl (show M6 59 19 = (if k < 7 then nI (s + 1) else nI s) by rw [if_pos hk]; exact h196) (it_68 e686 c _ _ _ _ _)
            · rw [if_neg (by rw [nu_no hb c5]; decide)] at q
              first | refine xelse (show ¬ (1 : Int32) = 0 by decide) ?_ | skip
              refine m_item (M := (xup M5 59 15 1)) c hc h185 _ _ _ _ _ ?_
              exact q.2 rfl _ (((D5.up 15 1 (by decide)).its c _ _ _ _ _).up 18 _ (by decide)) rfl lx5.2.1
          · rw [if_neg (by rw [c4]; decide)] at q
            refine m_must0 hr4 ?_
            refine m_numberW (M := (xup M4 59 15 1)) rfl _ _ _ (fun _ => ?_)
            first | refine xelse (show ¬ (1 : Int32) = 0 by decide) ?_ | skip
            refine m_item (M := (xup M4 59 15 1)) c hc h184 _ _ _ _ _ ?_
            exact q.2 rfl _ (((D4.up 15 1 (by decide)).its c _ _ _ _ _).up 18 _ (by decide)) rfl lx4.2.1
        · rw [if_neg (by rw [nu_no hb c3]; decide)] at q
          refine m_isWA13 (M := (xup M3 59 15 1)) tp3.wr (enT b T (enT b T (enT b T e))) he3 lx3.wr (fun _ => ?_)
          refine m_mustW (M := (xup M3 59 15 1)) rfl _ ?_
          refine m_numberW (M := (xup M3 59 15 1)) rfl _ _ _ (fun _ => ?_)
          first | refine xelse (show ¬ (1 : Int32) = 0 by decide) ?_ | skip
          refine m_item (M := (xup M3 59 15 1)) c hc h183 _ _ _ _ _ ?_
          exact q.2 rfl _ (((D3.up 15 1 (by decide)).its c _ _ _ _ _).up 18 _ (by decide)) rfl lx3.2.1
      · rw [if_neg (by rw [c2]; decide)] at q
        refine m_must0 hr2 ?_
        refine m_numberW (M := (xup M2 59 15 1)) rfl _ _ _ (fun _ => ?_)
        refine m_isWA13 (M := (xup M2 59 15 1)) tp2.wr (enT b T (enT b T e)) he2 lx2.wr (fun _ => ?_)
        refine m_mustW (M := (xup M2 59 15 1)) rfl _ ?_
        refine m_numberW (M := (xup M2 59 15 1)) rfl _ _ _ (fun _ => ?_)
        first | refine xelse (show ¬ (1 : Int32) = 0 by decide) ?_ | skip
        refine m_item (M := (xup M2 59 15 1)) c hc h182 _ _ _ _ _ ?_
        exact q.2 rfl _ (((D2.up 15 1 (by decide)).its c _ _ _ _ _).up 18 _ (by decide)) rfl lx2.2.1
    · rw [if_neg (by rw [nu_no hb c1]; decide)] at q
      refine m_isWA2 (M := (xup (xup M1 59 19 (M1 59 19 + 1)) 59 15 1)) tp1.wr (enT b T e) he1 lx1.wr (fun _ => ?_)
      refine m_mustW (M := (xup (xup M1 59 19 (M1 59 19 + 1)) 59 15 1)) rfl _ ?_
      refine m_numberW (M := (xup (xup M1 59 19 (M1 59 19 + 1)) 59 15 1)) rfl _ _ _ (fun _ => ?_)
      refine m_isWA13 (M := (xup (xup M1 59 19 (M1 59 19 + 1)) 59 15 1)) tp1.wr (enT b T e) he1 lx1.wr (fun _ => ?_)
      refine m_mustW (M := (xup (xup M1 59 19 (M1 59 19 + 1)) 59 15 1)) rfl _ ?_
      refine m_numberW (M := (xup (xup M1 59 19 (M1 59 19 + 1)) 59 15 1)) rfl _ _ _ (fun _ => ?_)
      first | refine xelse (show ¬ (1 : Int32) = 0 by decide) ?_ | skip
      refine m_item (M := (xup (xup M1 59 19 (M1 59 19 + 1)) 59 15 1)) c hc h181 _ _ _ _ _ ?_
      exact q.2 rfl _ (((D1.up 15 1 (by decide)).its c _ _ _ _ _).up 18 _ (by decide)) rfl lx1.2.1
end LP
