/-! An ITEM read by the model. -/
theorem kd_w {b : Nat → Nat} {T e k : Nat} (h : kdT b T e = some k) : ∃ i, 6 ≤ i ∧ i < 15 ∧ wdT b T e i = true := by
  unfold kdT at h
  repeat' (split at h)
  all_goals first | (rename_i c; exact ⟨_, by decide, by decide, c⟩) | cases h
section LR
variable {G : xG} {d : Nat} {M : xM} {Q : Option Value → xH → Prop} {b : Nat → Nat} {T : Nat}
theorem m_readItem (tp0 : TpM b T M) (e : Nat) (he0 : e ≤ T) (lx0 : LxM b T e M) (hr0 : M 59 15 = 0) (c s : Nat) (hc : c < 120) (h180 : M 59 18 = nI c) (h190 : M 59 19 = nI s) (m : Nat) (hm40 : m < 1000) (hm : M 60 1 + M 59 19 = nI m) (q : RmQ b T M Q c s (piItem b T m e)) : CW G (d + 6) jX9_readItem [.ref 59] (HH M) Q := by
  have hb := tp0.2.2.2
  have e680 : M 68 = M 68 := rfl
  have D0 := MrM.refl M
  refine CW_wp fX9_readItem rfl rfl rfl ?_
  refine m_kinds (d := d + 1) tp0 e he0 lx0 (fun v hv1 hv2 => ?_)
  refine Ev_wp fX9_readItem rfl ?_
  unfold piItem at q
  cases hk : kdT b T e with
  | some k =>
    obtain ⟨hk7, hv⟩ := hv1 k hk
    subst hv
    obtain ⟨i, hi6, hi15, hwi⟩ := kd_w hk
    have no : ∀ j, j < 6 → ¬ wdT b T e j = true := fun j hj hw => by
      have := wd_inj (by omega) hi15 hw hwi
      omega
    rw [if_neg (no 0 (by decide)), if_neg (no 1 (by decide)), if_neg (no 4 (by decide)), if_neg (no 5 (by decide)), hk] at q
    have q' : RmQ b T M Q c s (if m < 40 then piSay b T k (enT b T e) else fR e) := q
    refine xlt k 0 rfl rfl (by omega) (by decide) (fun z => absurd z (by omega)) (fun _ => ?_)
    exact m_readSaying tp0 e he0 lx0 hr0 c s hc h180 h190 m k hk7 hm40 hm ⟨fun a M' h1 h2 h3 h4 h5 h6 => q'.1 a M' h1 h2 h3 h4 h5 h6, fun a M' h1 h2 h3 => q'.2 a M' h1 h2 h3⟩
  | none =>
    have hv := hv2 hk
    subst hv
    refine m_isWord0 tp0 e he0 lx0 (fun w0 => ?_) (fun w0 => ?_)
    · rw [if_pos w0] at q
      unfold piWay at q
      refine m_must1 tp0 e he0 lx0 hr0 (fun M1 hm1 lx1 => ?_)
      have tp1 := tp0.cf hm1
      have he1 := (en_b b T e he0).2.1
      have hr1 := (hm1.2 15 (by decide)).trans hr0
      have h181 := (hm1.2 18 (by decide)).trans h180
      have h191 := (hm1.2 19 (by decide)).trans h190
      have e681 := (hm1.1 68 (by decide)).trans e680
      have D1 := D0.trans (MrM.cf hm1)
      refine m_number tp1 (enT b T e) he1 lx1 hr1 0 9 rfl rfl (by decide) (by decide) (fun c1 _ M2 hm2 lx2 => ?_) (fun c1 v1 => ?_)
      · rw [if_pos c1] at q
        obtain ⟨g1, l1, u1⟩ := nu_iff.mp c1
        have tp2 := tp1.cf hm2
        have he2 := (en_b b T (enT b T e) he1).2.1
        have hr2 := (hm2.2 15 (by decide)).trans hr1
        have h182 := (hm2.2 18 (by decide)).trans h181
        have h192 := (hm2.2 19 (by decide)).trans h191
        have e682 := (hm2.1 68 (by decide)).trans e681
        have D2 := D1.trans (MrM.cf hm2)
        have vb1 := v_le b hb T (enT b T e)
        have vb2 := v_le b hb T (enT b T (enT b T e))
        refine m_number tp2 (enT b T (enT b T e)) he2 lx2 hr2 0 9 rfl rfl (by decide) (by decide) (fun c2 ne M3 hm3 lx3 => ?_) (fun c2 v2 => ?_)
        · rw [if_pos ⟨c2, fun z => ne (by rw [z])⟩] at q
          have tp3 := tp2.cf hm3
          have he3 := (en_b b T (enT b T (enT b T e)) he2).2.1
          have hr3 := (hm3.2 15 (by decide)).trans hr2
          have h183 := (hm3.2 18 (by decide)).trans h182
          have h193 := (hm3.2 19 (by decide)).trans h192
          have e683 := (hm3.1 68 (by decide)).trans e682
          have D3 := D2.trans (MrM.cf hm3)
          refine m_item c hc h183 _ _ _ _ _ ?_
          exact q.1 rfl _ ((D3.its c _ _ _ _ _).up 18 _ (by decide)) hr3 lx3 rfl h193 (it_68 e683 c _ _ _ _ _)
        · rw [if_neg (fun z => c2 ⟨z.1, fun h => z.2 ((nI_eq (by omega) (by omega)).mp h).symm⟩)] at q
          refine m_item (M := (xup M2 59 15 1)) c hc h182 _ _ _ _ _ ?_
          exact q.2 rfl _ (((D2.up 15 1 (by decide)).its c _ _ _ _ _).up 18 _ (by decide)) rfl lx2.2.1
      · rw [if_neg (by rw [nu_no hb c1]; decide)] at q
        refine m_numberW (M := (xup M1 59 15 1)) rfl _ _ _ (fun _ => ?_)
        refine m_item (M := (xup M1 59 15 1)) c hc h181 _ _ _ _ _ ?_
        exact q.2 rfl _ (((D1.up 15 1 (by decide)).its c _ _ _ _ _).up 18 _ (by decide)) rfl lx1.2.1
    rw [if_neg (by rw [w0]; decide)] at q
    refine m_isWord1 tp0 e he0 lx0 (fun w1 => ?_) (fun w1 => ?_)
    · rw [if_pos w1] at q
      exact m_readPerson tp0 e he0 lx0 hr0 c s hc h180 h190 ⟨fun a M' h1 h2 h3 h4 h5 h6 => q.1 a M' h1 h2 h3 h4 h5 h6, fun a M' h1 h2 h3 => q.2 a M' h1 h2 h3⟩
    rw [if_neg (by rw [w1]; decide)] at q
    refine m_isWord4 tp0 e he0 lx0 (fun w4 => ?_) (fun w4 => ?_)
    · rw [if_pos w4] at q
      unfold piKeep at q
      refine m_must1 tp0 e he0 lx0 hr0 (fun M1 hm1 lx1 => ?_)
      have tp1 := tp0.cf hm1
      have he1 := (en_b b T e he0).2.1
      have hr1 := (hm1.2 15 (by decide)).trans hr0
      have h181 := (hm1.2 18 (by decide)).trans h180
      have h191 := (hm1.2 19 (by decide)).trans h190
      have e681 := (hm1.1 68 (by decide)).trans e680
      have D1 := D0.trans (MrM.cf hm1)
      refine m_number tp1 (enT b T e) he1 lx1 hr1 1 20 rfl rfl (by decide) (by decide) (fun c1 _ M2 hm2 lx2 => ?_) (fun c1 v1 => ?_)
      · rw [if_pos c1] at q
        obtain ⟨g1, l1, u1⟩ := nu_iff.mp c1
        have tp2 := tp1.cf hm2
        have he2 := (en_b b T (enT b T e) he1).2.1
        have hr2 := (hm2.2 15 (by decide)).trans hr1
        have h182 := (hm2.2 18 (by decide)).trans h181
        have h192 := (hm2.2 19 (by decide)).trans h191
        have e682 := (hm2.1 68 (by decide)).trans e681
        have D2 := D1.trans (MrM.cf hm2)
        refine m_item c hc h182 _ _ _ _ _ ?_
        exact q.1 rfl _ ((D2.its c _ _ _ _ _).up 18 _ (by decide)) hr2 lx2 rfl h192 (it_68 e682 c _ _ _ _ _)
      · rw [if_neg (by rw [nu_no hb c1]; decide)] at q
        refine m_item (M := (xup M1 59 15 1)) c hc h181 _ _ _ _ _ ?_
        exact q.2 rfl _ (((D1.up 15 1 (by decide)).its c _ _ _ _ _).up 18 _ (by decide)) rfl lx1.2.1
    rw [if_neg (by rw [w4]; decide)] at q
    refine m_isWord5 tp0 e he0 lx0 (fun w5 => ?_) (fun w5 => ?_)
    · rw [if_pos w5] at q
      unfold piRain at q
      refine m_must1 tp0 e he0 lx0 hr0 (fun M1 hm1 lx1 => ?_)
      have tp1 := tp0.cf hm1
      have he1 := (en_b b T e he0).2.1
      have hr1 := (hm1.2 15 (by decide)).trans hr0
      have h181 := (hm1.2 18 (by decide)).trans h180
      have h191 := (hm1.2 19 (by decide)).trans h190
      have e681 := (hm1.1 68 (by decide)).trans e680
      have D1 := D0.trans (MrM.cf hm1)
      refine m_number tp1 (enT b T e) he1 lx1 hr1 0 99 rfl rfl (by decide) (by decide) (fun c1 _ M2 hm2 lx2 => ?_) (fun c1 v1 => ?_)
      · rw [if_pos c1] at q
        obtain ⟨g1, l1, u1⟩ := nu_iff.mp c1
        have tp2 := tp1.cf hm2
        have he2 := (en_b b T (enT b T e) he1).2.1
        have hr2 := (hm2.2 15 (by decide)).trans hr1
        have h182 := (hm2.2 18 (by decide)).trans h181
        have h192 := (hm2.2 19 (by decide)).trans h191
        have e682 := (hm2.1 68 (by decide)).trans e681
        have D2 := D1.trans (MrM.cf hm2)
        refine m_item c hc h182 _ _ _ _ _ ?_
        exact q.1 rfl _ ((D2.its c _ _ _ _ _).up 18 _ (by decide)) hr2 lx2 rfl h192 (it_68 e682 c _ _ _ _ _)
      · rw [if_neg (by rw [nu_no hb c1]; decide)] at q
        refine m_item (M := (xup M1 59 15 1)) c hc h181 _ _ _ _ _ ?_
        exact q.2 rfl _ (((D1.up 15 1 (by decide)).its c _ _ _ _ _).up 18 _ (by decide)) rfl lx1.2.1
    · rw [if_neg (by rw [w5]; decide), hk] at q
      have q' : RmQ b T M Q c s (fR e) := q
      refine m_must0 hr0 ?_
      refine m_numberW (M := (xup M 59 15 1)) rfl _ _ _ (fun _ => ?_)
      refine m_item (M := (xup M 59 15 1)) c hc h180 _ _ _ _ _ ?_
      exact q'.2 rfl _ (((D0.up 15 1 (by decide)).its c _ _ _ _ _).up 18 _ (by decide)) rfl lx0.2.1
end LR
