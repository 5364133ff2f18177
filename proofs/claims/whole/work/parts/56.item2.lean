/-! ITEMS read, the class's side: PERSON, SAYING, any. -/
section LJ
variable {G : xG} {d : Nat} {M : xM} {Q : Option Value → xH → Prop} {b : Nat → Nat} {T : Nat} {N : Nat → Int32}
theorem ap_say {k : Nat} (hk : k < 7) (e x y z u : Nat) : apI N (true, e, k, x, y, z, u) = syF N (sN N) (nI k) (nI x) (nI y) (nI z) (nI u) (nI (vN N 0)) (nI (sN N + 1)) := by
  show (if k = 10 then _ else if k = 11 then _ else if k = 12 then _ else if k = 13 then _ else _) = _
  rw [if_neg (by omega), if_neg (by omega), if_neg (by omega), if_neg (by omega)]
theorem c_readPerson (tp : TpC b T M) (e : Nat) (he : e ≤ T) (lx : LxC b T e M) (w : Wf N) (i2 : PV 29 N M) (q : RdQ b T N M Q (piPers b T e)) : CW G (d + 6) jX2_readPerson [.ref 43, .ref 29] (HH M) Q := by
  unfold piPers at q
  refine CW_wp fX2_readPerson rfl rfl rfl ?_
  refine c_takeNumber tp e 0 5 he lx rfl rfl (by decide) (by decide) (fun c0 M1 hm1 lx1 => ?_) (fun c0 => ?_)
  · rw [if_pos c0] at q
    obtain ⟨g0, l0, u0⟩ := nu_iff.mp c0
    have tp1 := tp.cf hm1
    have he1 := (en_b b T e he).2.1
    refine xlt (vT b T e) 0 rfl rfl (by omega) (by decide) (fun z => absurd z (by omega)) (fun _ => ?_)
    unfold piP1 at q
    refine c_take2 tp1 (enT b T e) he1 lx1 (fun c1 M2 hm2 lx2 => ?_) (fun c1 => ?_)
    · rw [if_pos c1] at q
      have tp2 := tp1.cf hm2
      have he2 := (en_b b T (enT b T e) he1).2.1
      unfold piP2 at q
      refine c_takeNumber tp2 (enT b T (enT b T e)) 0 9 he2 lx2 rfl rfl (by decide) (by decide) (fun c2 M3 hm3 lx3 => ?_) (fun c2 => ?_)
      · rw [if_pos c2] at q
        obtain ⟨g2, l2, u2⟩ := nu_iff.mp c2
        have tp3 := tp2.cf hm3
        have he3 := (en_b b T (enT b T (enT b T e)) he2).2.1
        refine xle 0 (vT b T (enT b T (enT b T e))) rfl rfl (by decide) (by omega) (fun _ => ?_) (fun z => absurd z (by omega))
        unfold piP3 at q
        refine c_take3 tp3 (enT b T (enT b T (enT b T e))) he3 lx3 (fun c3 M4 hm4 lx4 => ?_) (fun c3 => ?_)
        · rw [if_pos c3] at q
          have tp4 := tp3.cf hm4
          have he4 := (en_b b T (enT b T (enT b T (enT b T e))) he3).2.1
          refine c_takeNumber tp4 (enT b T (enT b T (enT b T (enT b T e)))) 0 23 he4 lx4 rfl rfl (by decide) (by decide) (fun c4 M5 hm5 lx5 => ?_) (fun c4 => ?_)
          · rw [if_pos c4] at q
            obtain ⟨g4, l4, u4⟩ := nu_iff.mp c4
            have tp5 := tp4.cf hm5
            have he5 := (en_b b T (enT b T (enT b T (enT b T (enT b T e)))) he4).2.1
            refine xle 0 (vT b T (enT b T (enT b T (enT b T (enT b T e))))) rfl rfl (by decide) (by omega) (fun _ => ?_) (fun z => absurd z (by omega))
            refine c_takeNumber tp5 (enT b T (enT b T (enT b T (enT b T (enT b T e))))) (vT b T (enT b T (enT b T (enT b T (enT b T e))))) 23 he5 lx5 rfl rfl (by omega) (by decide) (fun c5 M6 hm6 lx6 => ?_) (fun c5 => ?_)
            · rw [if_pos c5] at q
              obtain ⟨g5, l5, u5⟩ := nu_iff.mp c5
              have tp6 := tp5.cf hm6
              have he6 := (en_b b T (enT b T (enT b T (enT b T (enT b T (enT b T e))))) he5).2.1
              refine xle 0 (vT b T (enT b T (enT b T (enT b T (enT b T (enT b T e)))))) rfl rfl (by decide) (by omega) (fun _ => ?_) (fun z => absurd z (by omega))
              refine c_pput29 (vT b T e) (vT b T (enT b T (enT b T (enT b T (enT b T e))))) (vT b T (enT b T (enT b T (enT b T (enT b T (enT b T e)))))) (by omega) (by omega) (by omega) rfl rfl rfl ?_
              exact q.1 rfl _ ((((((((DfM.cf (CfM.refl M)).trans (DfM.cf hm1)).trans (DfM.cf hm2)).trans (DfM.cf hm3)).trans (DfM.cf hm4)).trans (DfM.cf hm5)).trans (DfM.cf hm6)).row (by decide)) lx6 (pv_ppl29 w (pv_cf (pv_cf (pv_cf (pv_cf (pv_cf (pv_cf i2 hm1) hm2) hm3) hm4) hm5) hm6) (fun _ => nI (vT b T (enT b T (enT b T e)))) (24 * (vT b T e) + (vT b T (enT b T (enT b T (enT b T (enT b T e)))))) ((vT b T (enT b T (enT b T (enT b T (enT b T (enT b T e)))))) + 1 - (vT b T (enT b T (enT b T (enT b T (enT b T e)))))) (by omega)) (wf_ppl w (fun _ => nI (vT b T (enT b T (enT b T e)))) (24 * (vT b T e) + (vT b T (enT b T (enT b T (enT b T (enT b T e)))))) ((vT b T (enT b T (enT b T (enT b T (enT b T (enT b T e)))))) + 1 - (vT b T (enT b T (enT b T (enT b T (enT b T e)))))) (by omega) (fun _ _ => Or.inr ⟨(vT b T (enT b T (enT b T e))), by omega, rfl⟩))
            · rw [if_neg (by rw [c5]; decide)] at q
              exact q.2 rfl _ ((((((DfM.cf (CfM.refl M)).trans (DfM.cf hm1)).trans (DfM.cf hm2)).trans (DfM.cf hm3)).trans (DfM.cf hm4)).trans (DfM.cf hm5)) lx5
          · rw [if_neg (by rw [c4]; decide)] at q
            exact q.2 rfl _ (((((DfM.cf (CfM.refl M)).trans (DfM.cf hm1)).trans (DfM.cf hm2)).trans (DfM.cf hm3)).trans (DfM.cf hm4)) lx4
        · rw [if_neg (by rw [c3]; decide)] at q
          refine c_pput29 (vT b T e) 0 23 (by omega) (by omega) (by omega) rfl rfl rfl ?_
          exact q.1 rfl _ (((((DfM.cf (CfM.refl M)).trans (DfM.cf hm1)).trans (DfM.cf hm2)).trans (DfM.cf hm3)).row (by decide)) lx3 (pv_ppl29 w (pv_cf (pv_cf (pv_cf i2 hm1) hm2) hm3) (fun _ => nI (vT b T (enT b T (enT b T e)))) (24 * (vT b T e) + 0) (23 + 1 - 0) (by omega)) (wf_ppl w (fun _ => nI (vT b T (enT b T (enT b T e)))) (24 * (vT b T e) + 0) (23 + 1 - 0) (by omega) (fun _ _ => Or.inr ⟨(vT b T (enT b T (enT b T e))), by omega, rfl⟩))
      · rw [if_neg (by rw [c2]; decide)] at q
        exact q.2 rfl _ (((DfM.cf (CfM.refl M)).trans (DfM.cf hm1)).trans (DfM.cf hm2)) lx2
    · rw [if_neg (by rw [c1]; decide)] at q
      exact q.2 rfl _ ((DfM.cf (CfM.refl M)).trans (DfM.cf hm1)) lx1
  · rw [if_neg (by rw [c0]; decide)] at q
    exact q.2 rfl _ (DfM.cf (CfM.refl M)) lx
theorem c_readSaying (tp : TpC b T M) (e : Nat) (he : e ≤ T) (lx : LxC b T e M) (w : Wf N) (i2 : PV 29 N M) (k : Nat) (hk : k < 7) (hs40 : sN N < 40) (q : RdQ b T N M Q (piSay b T k e)) : CW G (d + 6) jX2_readSaying [.ref 43, .ref 29, .int (nI k)] (HH M) Q := by
  unfold piSay at q
  refine CW_wp fX2_readSaying rfl rfl rfl ?_
  refine c_takeNumber tp e 0 15 he lx rfl rfl (by decide) (by decide) (fun c0 M1 hm1 lx1 => ?_) (fun c0 => ?_)
  · rw [if_pos c0] at q
    obtain ⟨g0, l0, u0⟩ := nu_iff.mp c0
    have tp1 := tp.cf hm1
    have he1 := (en_b b T e he).2.1
    refine xlt (vT b T e) 0 rfl rfl (by omega) (by decide) (fun z => absurd z (by omega)) (fun _ => ?_)
    unfold piS1 at q
    refine c_take2 tp1 (enT b T e) he1 lx1 (fun c1 M2 hm2 lx2 => ?_) (fun c1 => ?_)
    · rw [if_pos c1] at q
      have tp2 := tp1.cf hm2
      have he2 := (en_b b T (enT b T e) he1).2.1
      unfold piS2 at q
      refine c_takeNumber tp2 (enT b T (enT b T e)) 0 9 he2 lx2 rfl rfl (by decide) (by decide) (fun c2 M3 hm3 lx3 => ?_) (fun c2 => ?_)
      · rw [if_pos c2] at q
        obtain ⟨g2, l2, u2⟩ := nu_iff.mp c2
        have tp3 := tp2.cf hm3
        have he3 := (en_b b T (enT b T (enT b T e)) he2).2.1
        refine xlt (vT b T (enT b T (enT b T e))) 0 rfl rfl (by omega) (by decide) (fun z => absurd z (by omega)) (fun _ => ?_)
        unfold piS3 at q
        refine c_take13 tp3 (enT b T (enT b T (enT b T e))) he3 lx3 (fun c3 M4 hm4 lx4 => ?_) (fun c3 => ?_)
        · rw [if_pos c3] at q
          have tp4 := tp3.cf hm4
          have he4 := (en_b b T (enT b T (enT b T (enT b T e))) he3).2.1
          unfold piS4 at q
          refine c_takeNumber tp4 (enT b T (enT b T (enT b T (enT b T e)))) 0 23 he4 lx4 rfl rfl (by decide) (by decide) (fun c4 M5 hm5 lx5 => ?_) (fun c4 => ?_)
          · rw [if_pos c4] at q
            obtain ⟨g4, l4, u4⟩ := nu_iff.mp c4
            have tp5 := tp4.cf hm5
            have he5 := (en_b b T (enT b T (enT b T (enT b T (enT b T e)))) he4).2.1
            refine xle 0 (vT b T (enT b T (enT b T (enT b T (enT b T e))))) rfl rfl (by decide) (by omega) (fun _ => ?_) (fun z => absurd z (by omega))
            unfold piS5 at q
            refine c_take14 tp5 (enT b T (enT b T (enT b T (enT b T (enT b T e))))) he5 lx5 (fun c5 M6 hm6 lx6 => ?_) (fun c5 => ?_)
            · rw [if_pos c5] at q
              have tp6 := tp5.cf hm6
              have he6 := (en_b b T (enT b T (enT b T (enT b T (enT b T (enT b T e))))) he5).2.1
              refine c_takeNumber tp6 (enT b T (enT b T (enT b T (enT b T (enT b T (enT b T e)))))) 1 9 he6 lx6 rfl rfl (by decide) (by decide) (fun c6 M7 hm7 lx7 => ?_) (fun c6 => ?_)
              · rw [if_pos c6] at q
                obtain ⟨g6, l6, u6⟩ := nu_iff.mp c6
                have tp7 := tp6.cf hm7
                have he7 := (en_b b T (enT b T (enT b T (enT b T (enT b T (enT b T (enT b T e)))))) he6).2.1
                refine xle 0 (vT b T (enT b T (enT b T (enT b T (enT b T (enT b T (enT b T e))))))) rfl rfl (by decide) (by omega) (fun _ => ?_) (fun z => absurd z (by omega))
                have i9 := (pv_cf (pv_cf (pv_cf (pv_cf (pv_cf (pv_cf (pv_cf i2 hm1) hm2) hm3) hm4) hm5) hm6) hm7)
                refine c_add29 w (i9.2.1.trans w.2.1.1) hs40 k (vT b T e) (vT b T (enT b T (enT b T (enT b T (enT b T (enT b T (enT b T e))))))) (vT b T (enT b T (enT b T e))) (vT b T (enT b T (enT b T (enT b T (enT b T e))))) rfl rfl rfl rfl rfl (i9.1.trans w.1.1) ?_
                have h8 := q.1 rfl _ (((((((((((((((DfM.cf (CfM.refl M)).trans (DfM.cf hm1)).trans (DfM.cf hm2)).trans (DfM.cf hm3)).trans (DfM.cf hm4)).trans (DfM.cf hm5)).trans (DfM.cf hm6)).trans (DfM.cf hm7)).up (a := 33) (k := sN N) (v := nI k) (by decide)).up (a := 34) (k := sN N) (v := nI (vT b T e)) (by decide)).up (a := 35) (k := sN N) (v := nI (vT b T (enT b T (enT b T (enT b T (enT b T (enT b T (enT b T e)))))))) (by decide)).up (a := 36) (k := sN N) (v := nI (vT b T (enT b T (enT b T e)))) (by decide)).up (a := 37) (k := sN N) (v := nI (vT b T (enT b T (enT b T (enT b T (enT b T e)))))) (by decide)).up (a := 38) (k := sN N) (v := nI (vN N 0)) (by decide)).up (a := 32) (k := 0) (v := nI (sN N + 1)) (by decide)) lx7
                rw [ap_say hk] at h8
                exact h8 (pv_say29 w i9 k (vT b T e) (vT b T (enT b T (enT b T (enT b T (enT b T (enT b T (enT b T e))))))) (vT b T (enT b T (enT b T e))) (vT b T (enT b T (enT b T (enT b T (enT b T e))))) hk (by omega) (by omega) (by omega) (by omega) hs40) (wf_say w k (vT b T e) (vT b T (enT b T (enT b T (enT b T (enT b T (enT b T (enT b T e))))))) (vT b T (enT b T (enT b T e))) (vT b T (enT b T (enT b T (enT b T (enT b T e))))) hk (by omega) (by omega) (by omega) (by omega) hs40)
              · rw [if_neg (by rw [c6]; decide)] at q
                exact q.2 rfl _ (((((((DfM.cf (CfM.refl M)).trans (DfM.cf hm1)).trans (DfM.cf hm2)).trans (DfM.cf hm3)).trans (DfM.cf hm4)).trans (DfM.cf hm5)).trans (DfM.cf hm6)) lx6
            · rw [if_neg (by rw [c5]; decide)] at q
              have i9 := (pv_cf (pv_cf (pv_cf (pv_cf (pv_cf i2 hm1) hm2) hm3) hm4) hm5)
              refine c_add29 w (i9.2.1.trans w.2.1.1) hs40 k (vT b T e) 1 (vT b T (enT b T (enT b T e))) (vT b T (enT b T (enT b T (enT b T (enT b T e))))) rfl rfl rfl rfl rfl (i9.1.trans w.1.1) ?_
              have h8 := q.1 rfl _ (((((((((((((DfM.cf (CfM.refl M)).trans (DfM.cf hm1)).trans (DfM.cf hm2)).trans (DfM.cf hm3)).trans (DfM.cf hm4)).trans (DfM.cf hm5)).up (a := 33) (k := sN N) (v := nI k) (by decide)).up (a := 34) (k := sN N) (v := nI (vT b T e)) (by decide)).up (a := 35) (k := sN N) (v := nI 1) (by decide)).up (a := 36) (k := sN N) (v := nI (vT b T (enT b T (enT b T e)))) (by decide)).up (a := 37) (k := sN N) (v := nI (vT b T (enT b T (enT b T (enT b T (enT b T e)))))) (by decide)).up (a := 38) (k := sN N) (v := nI (vN N 0)) (by decide)).up (a := 32) (k := 0) (v := nI (sN N + 1)) (by decide)) lx5
              rw [ap_say hk] at h8
              exact h8 (pv_say29 w i9 k (vT b T e) 1 (vT b T (enT b T (enT b T e))) (vT b T (enT b T (enT b T (enT b T (enT b T e))))) hk (by omega) (by omega) (by omega) (by omega) hs40) (wf_say w k (vT b T e) 1 (vT b T (enT b T (enT b T e))) (vT b T (enT b T (enT b T (enT b T (enT b T e))))) hk (by omega) (by omega) (by omega) (by omega) hs40)
          · rw [if_neg (by rw [c4]; decide)] at q
            exact q.2 rfl _ (((((DfM.cf (CfM.refl M)).trans (DfM.cf hm1)).trans (DfM.cf hm2)).trans (DfM.cf hm3)).trans (DfM.cf hm4)) lx4
        · rw [if_neg (by rw [c3]; decide)] at q
          exact q.2 rfl _ ((((DfM.cf (CfM.refl M)).trans (DfM.cf hm1)).trans (DfM.cf hm2)).trans (DfM.cf hm3)) lx3
      · rw [if_neg (by rw [c2]; decide)] at q
        exact q.2 rfl _ (((DfM.cf (CfM.refl M)).trans (DfM.cf hm1)).trans (DfM.cf hm2)) lx2
    · rw [if_neg (by rw [c1]; decide)] at q
      exact q.2 rfl _ ((DfM.cf (CfM.refl M)).trans (DfM.cf hm1)) lx1
  · rw [if_neg (by rw [c0]; decide)] at q
    exact q.2 rfl _ (DfM.cf (CfM.refl M)) lx
theorem c_readItem (tp : TpC b T M) (e : Nat) (he : e ≤ T) (lx : LxC b T e M) (w : Wf N) (i2 : PV 29 N M) (q : RdQ b T N M Q (piItem b T (sN N) e)) : CW G (d + 7) jX2_readItem [.ref 43, .ref 29] (HH M) Q := by
  unfold piItem at q
  refine CW_wp fX2_readItem rfl rfl rfl ?_
  refine c_take0 tp e he lx (fun c M1 hm lx1 => ?_) (fun c0 => ?_)
  · rw [if_pos c] at q
    exact c_readWay (tp.cf hm) (enT b T e) (en_b b T e he).2.1 lx1 w (pv_cf i2 hm) ⟨fun a M' h1 h2 h3 h4 => q.1 a M' ((DfM.cf hm).trans h1) h2 h3 h4, fun a M' h1 h2 => q.2 a M' ((DfM.cf hm).trans h1) h2⟩
  rw [if_neg (by rw [c0]; decide)] at q
  refine c_take1 tp e he lx (fun c M1 hm lx1 => ?_) (fun c1 => ?_)
  · rw [if_pos c] at q
    exact c_readPerson (tp.cf hm) (enT b T e) (en_b b T e he).2.1 lx1 w (pv_cf i2 hm) ⟨fun a M' h1 h2 h3 h4 => q.1 a M' ((DfM.cf hm).trans h1) h2 h3 h4, fun a M' h1 h2 => q.2 a M' ((DfM.cf hm).trans h1) h2⟩
  rw [if_neg (by rw [c1]; decide)] at q
  refine c_take4 tp e he lx (fun c M1 hm lx1 => ?_) (fun c4 => ?_)
  · rw [if_pos c] at q
    exact c_readKeep (tp.cf hm) (enT b T e) (en_b b T e he).2.1 lx1 w (pv_cf i2 hm) ⟨fun a M' h1 h2 h3 h4 => q.1 a M' ((DfM.cf hm).trans h1) h2 h3 h4, fun a M' h1 h2 => q.2 a M' ((DfM.cf hm).trans h1) h2⟩
  rw [if_neg (by rw [c4]; decide)] at q
  refine c_take5 tp e he lx (fun c M1 hm lx1 => ?_) (fun c5 => ?_)
  · rw [if_pos c] at q
    exact c_readRain (tp.cf hm) (enT b T e) (en_b b T e he).2.1 lx1 w (pv_cf i2 hm) ⟨fun a M' h1 h2 h3 h4 => q.1 a M' ((DfM.cf hm).trans h1) h2 h3 h4, fun a M' h1 h2 => q.2 a M' ((DfM.cf hm).trans h1) h2⟩
  rw [if_neg (by rw [c5]; decide)] at q
  refine c_kindAtHand tp e he lx (fun k hk hk7 => ?_) (fun hk => ?_)
  · rw [hk] at q
    refine xlt k 0 rfl rfl (by omega) (by decide) (fun z => absurd z (by omega)) (fun _ => ?_)
    refine c_isFull29 w (i2.2.1.trans w.2.1.1) (fun c => ?_) (fun c => ?_)
    · have q' : RdQ b T N M Q (if sN N < 40 then piSay b T k (enT b T e) else fR e) := q
      rw [if_neg (by omega)] at q'
      exact q'.2 rfl _ (DfM.cf (CfM.refl M)) lx
    · have q' : RdQ b T N M Q (if sN N < 40 then piSay b T k (enT b T e) else fR e) := q
      rw [if_pos c] at q'
      refine c_next tp (enT b T e) (en_b b T e he).2.1 lx.2.2.1 (fun M1 hm lx1 => ?_)
      exact c_readSaying (tp.cf hm) (enT b T e) (en_b b T e he).2.1 lx1 w (pv_cf i2 hm) k hk7 c ⟨fun a M' h1 h2 h3 h4 => q'.1 a M' ((DfM.cf hm).trans h1) h2 h3 h4, fun a M' h1 h2 => q'.2 a M' ((DfM.cf hm).trans h1) h2⟩
  · rw [hk] at q
    exact q.2 rfl _ (DfM.cf (CfM.refl M)) lx
end LJ
