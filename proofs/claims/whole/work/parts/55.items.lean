/-! ITEMS read: the class's side, into the draft (base 29). -/
def DfM (M M' : xM) : Prop := (∀ r, r < 29 ∨ 42 < r → r ≠ 43 → M' r = M r) ∧ M' 43 0 = M 43 0
theorem DfM.cf {M M' : xM} (h : CfM M M') : DfM M M' := ⟨fun r _ a => h.1 r a, h.2⟩
theorem DfM.trans {M M' M'' : xM} (h : DfM M M') (h2 : DfM M' M'') : DfM M M'' := ⟨fun r a c => (h2.1 r a c).trans (h.1 r a c), h2.2.trans h.2⟩
theorem DfM.row {M M' : xM} {f : Nat → Int32} {a : Nat} (h : DfM M M') (ha : 29 ≤ a ∧ a ≤ 42) : DfM M (xrow M' a f) := ⟨fun r c c2 => (xrow_ne (by omega)).trans (h.1 r c c2), (congrFun (xrow_ne (by omega)) 0).trans h.2⟩
theorem DfM.up {M M' : xM} {a k : Nat} {v : Int32} (h : DfM M M') (ha : 29 ≤ a ∧ a ≤ 42) : DfM M (xup M' a k v) := h.row ha
theorem TpC.df {b : Nat → Nat} {T : Nat} {M M' : xM} (t : TpC b T M) (h : DfM M M') : TpC b T M' := ⟨h.2.trans t.1, t.2.1, fun i hi => by rw [h.1 44 (by omega) (by decide)]; exact t.2.2.1 i hi, t.2.2.2⟩
def RdQ (b : Nat → Nat) (T : Nat) (N : Nat → Int32) (M : xM) (Q : Option Value → xH → Prop) (r : R7) : Prop := (r.1 = true → ∀ M', DfM M M' → LxC b T r.2.1 M' → PV 29 (apI N r) M' → Wf (apI N r) → Q (some (.int 1)) (HH M')) ∧ (r.1 = false → ∀ M', DfM M M' → LxC b T r.2.1 M' → Q (some (.int 0)) (HH M'))
theorem RdQ.cf {b : Nat → Nat} {T : Nat} {N : Nat → Int32} {M M1 : xM} {Q : Option Value → xH → Prop} {r : R7} (q : RdQ b T N M Q r) (h : DfM M M1) : RdQ b T N M1 Q r := ⟨fun a M' c => q.1 a M' (h.trans c), fun a M' c => q.2 a M' (h.trans c)⟩
theorem pv_rain29 {N : Nat → Int32} {M : xM} (i2 : PV 29 N M) (h40 : sN N ≤ 40) (D : Nat) (hD : D < 100) (v : Int32) : PV 29 (upd N (4 + D) v) (xup M 41 D v) := by
  exact ⟨i2.1.trans (pk_un (by omega)).symm, i2.2.1.trans (pk_un (by omega)).symm, i2.2.2.1.trans (pk_un (by omega)).symm, i2.2.2.2.1.trans (pk_un (by omega)).symm, fun j hj => by
    show upd (M 41) D v j = upd N (4 + D) v (4 + j)
    by_cases z : j = D
    · subst z; rw [pk_us, pk_us]
    · rw [pk_un z, pk_un (by omega)]; exact i2.2.2.2.2.1 j hj, fun p hp => (i2.2.2.2.2.2.1 p hp).trans (congrArg nI (bts_congr (fun q hq => (wy_e (fun a b ha hb => (pk_un (by omega))) hp hq).symm))), fun s hs f hf => by rw [sN_e (pk_un (by omega))] at hs; exact (row_ne (by omega)).trans ((i2.2.2.2.2.2.2.1 s hs f hf).trans (pk_un (by omega)).symm), fun q hq => (i2.2.2.2.2.2.2.2.1 q hq).trans (pk_un (by omega)).symm, fun j hj => (i2.2.2.2.2.2.2.2.2 j hj).trans (pk_un (by omega)).symm⟩
theorem pv_keep29 {N : Nat → Int32} {M : xM} (i2 : PV 29 N M) (h40 : sN N ≤ 40) (v : Int32) : PV 29 (upd N (2) v) (xup M 29 6 v) := by
  exact ⟨i2.1.trans (pk_un (by omega)).symm, i2.2.1.trans (pk_un (by omega)).symm, rfl, i2.2.2.2.1.trans (pk_un (by omega)).symm, fun j hj => (i2.2.2.2.2.1 j hj).trans (pk_un (by omega)).symm, fun p hp => (i2.2.2.2.2.2.1 p hp).trans (congrArg nI (bts_congr (fun q hq => (wy_e (fun a b ha hb => (pk_un (by omega))) hp hq).symm))), fun s hs f hf => by rw [sN_e (pk_un (by omega))] at hs; exact (row_ne (by omega)).trans ((i2.2.2.2.2.2.2.1 s hs f hf).trans (pk_un (by omega)).symm), fun q hq => (i2.2.2.2.2.2.2.2.1 q hq).trans (pk_un (by omega)).symm, fun j hj => (i2.2.2.2.2.2.2.2.2 j hj).trans (pk_un (by omega)).symm⟩
section LI
variable {G : xG} {d : Nat} {M : xM} {Q : Option Value → xH → Prop} {b : Nat → Nat} {T : Nat} {N : Nat → Int32}
theorem pv_cf (i2 : PV 29 N M) {M' : xM} (h : CfM M M') : PV 29 N M' := i2.congr (fun r h1 h2 => h.1 r (by omega))
theorem c_kindAtHand (tp : TpC b T M) (e : Nat) (he : e ≤ T) (lx : LxC b T e M) (q : ∀ k, kdT b T e = some k → k < 7 → Q (some (.int (nI k))) (HH M)) (qn : kdT b T e = none → Q (some (.int (-1))) (HH M)) : CW G (d + 5) jX2_kindAtHand [.ref 43] (HH M) Q := by
  unfold kdT at q qn
  refine CW_wp fX2_kindAtHand rfl rfl rfl ?_
  refine c_isAtHand6 tp e he lx (fun c => q 0 (by simp [c]) (by decide)) (fun c6 => ?_)
  refine c_isAtHand7 tp e he lx (fun c => q 1 (by simp [c6, c]) (by decide)) (fun c7 => ?_)
  refine c_isAtHand8 tp e he lx (fun c => q 2 (by simp [c6, c7, c]) (by decide)) (fun c8 => ?_)
  refine c_isAtHand9 tp e he lx (fun c => q 3 (by simp [c6, c7, c8, c]) (by decide)) (fun c9 => ?_)
  refine c_isAtHand10 tp e he lx (fun c => q 4 (by simp [c6, c7, c8, c9, c]) (by decide)) (fun c10 => ?_)
  refine c_isAtHand11 tp e he lx (fun c => q 5 (by simp [c6, c7, c8, c9, c10, c]) (by decide)) (fun c11 => ?_)
  refine c_isAtHand12 tp e he lx (fun c => q 6 (by simp [c6, c7, c8, c9, c10, c11, c]) (by decide)) (fun c12 => ?_)
  exact qn (by simp [c6, c7, c8, c9, c10, c11, c12])
theorem c_readKeep (tp : TpC b T M) (e : Nat) (he : e ≤ T) (lx : LxC b T e M) (w : Wf N) (i2 : PV 29 N M) (q : RdQ b T N M Q (piKeep b T e)) : CW G (d + 6) jX2_readKeep [.ref 43, .ref 29] (HH M) Q := by
  unfold piKeep at q
  refine CW_wp fX2_readKeep rfl rfl rfl ?_
  refine c_takeNumber tp e 1 20 he lx rfl rfl (by decide) (by decide) (fun c M1 hm lx1 => ?_) (fun c => ?_)
  · rw [if_pos c] at q
    obtain ⟨g1, g2, g3⟩ := nu_iff.mp c
    refine xle 0 (vT b T e) rfl rfl (by decide) (by omega) (fun _ => ?_) (fun z => absurd z (by omega))
    exact q.1 rfl _ ((DfM.cf hm).up (by decide)) lx1 (pv_keep29 (pv_cf i2 hm) w.2.1.2 _) (wf_keep w (vT b T e) ⟨g2, g3⟩ _ rfl)
  · rw [if_neg (by rw [c]; decide)] at q
    exact q.2 rfl _ (DfM.cf (CfM.refl M)) lx
theorem c_readRain (tp : TpC b T M) (e : Nat) (he : e ≤ T) (lx : LxC b T e M) (w : Wf N) (i2 : PV 29 N M) (q : RdQ b T N M Q (piRain b T e)) : CW G (d + 6) jX2_readRain [.ref 43, .ref 29] (HH M) Q := by
  unfold piRain at q
  refine CW_wp fX2_readRain rfl rfl rfl ?_
  refine c_takeNumber tp e 0 99 he lx rfl rfl (by decide) (by decide) (fun c M1 hm lx1 => ?_) (fun c => ?_)
  · rw [if_pos c] at q
    obtain ⟨g1, g2, g3⟩ := nu_iff.mp c
    refine xle 0 (vT b T e) rfl rfl (by decide) (by omega) (fun _ => ?_) (fun z => absurd z (by omega))
    refine xix (n := 100) (vT b T e) rfl (by omega) (by decide) (fun e9 => ?_)
    rw [e9]
    exact q.1 rfl _ ((DfM.cf hm).up (by decide)) lx1 (pv_rain29 (pv_cf i2 hm) w.2.1.2 (vT b T e) (by omega) _) (wf_rain w (vT b T e) (by omega) 1 (by decide) _ rfl)
  · rw [if_neg (by rw [c]; decide)] at q
    exact q.2 rfl _ (DfM.cf (CfM.refl M)) lx
theorem c_readWay (tp : TpC b T M) (e : Nat) (he : e ≤ T) (lx : LxC b T e M) (w : Wf N) (i2 : PV 29 N M) (q : RdQ b T N M Q (piWay b T e)) : CW G (d + 6) jX2_readWay [.ref 43, .ref 29] (HH M) Q := by
  unfold piWay at q
  refine CW_wp fX2_readWay rfl rfl rfl ?_
  refine c_takeNumber tp e 0 9 he lx rfl rfl (by decide) (by decide) (fun c M1 hm lx1 => ?_) (fun c => ?_)
  · rw [if_pos c] at q
    obtain ⟨g1, g2, g3⟩ := nu_iff.mp c
    have tp1 := tp.cf hm
    have he1 := (en_b b T e he).2.1
    have htk := tk_le b T (enT b T e)
    have hv := v_le b tp.2.2.2 T (enT b T e)
    refine xlt (vT b T e) 0 rfl rfl (by omega) (by decide) (fun z => absurd z (by omega)) (fun _ => ?_)
    refine xeq (tkT b T (enT b T e)) 2 lx1.1 rfl (by omega) (by decide) (fun c3 => ?_) (fun c3 => ?_)
    · refine xeq (vT b T (enT b T e)) (vT b T e) lx1.2.2.2 rfl (by omega) (by omega) (fun c4 => ?_) (fun c4 => ?_)
      · rw [if_neg (fun z => z.2 c4)] at q
        exact q.2 rfl _ (DfM.cf hm) lx1
      · refine c_takeNumber tp1 (enT b T e) 0 9 he1 lx1 rfl rfl (by decide) (by decide) (fun c2 M2 hm2 lx2 => ?_) (fun c2 => ?_)
        · obtain ⟨k1, k2, k3⟩ := nu_iff.mp c2
          have hne : vT b T (enT b T e) ≠ vT b T e := c4
          rw [if_pos ⟨c2, hne⟩] at q
          have i4 := pv_cf (pv_cf i2 hm) hm2
          refine xle 0 (vT b T (enT b T e)) rfl rfl (by decide) (by omega) (fun _ => ?_) (fun z => absurd z (by omega))
          refine c_wput29 (N := N) (vT b T e) (vT b T (enT b T e)) 1 (by omega) (by omega) (Ne.symm hne) rfl rfl rfl (by decide) (fun p hp => i4.2.2.2.2.2.1 p hp) (fun f hf => ?_)
          exact q.1 rfl _ (((DfM.cf hm).trans (DfM.cf hm2)).row (by decide)) lx2 (pv_way29 w i4 (vT b T e) (vT b T (enT b T e)) 1 (by omega) (by omega) 1 rfl (by decide) f hf) (wf_way w (vT b T e) (vT b T (enT b T e)) 1 (by omega) (by omega) (Ne.symm hne) (by decide) 1 rfl)
        · rw [if_neg (fun z => by rw [c2] at z; exact absurd z.1 (by decide))] at q
          exact q.2 rfl _ (DfM.cf hm) lx1
    · refine c_takeNumber tp1 (enT b T e) 0 9 he1 lx1 rfl rfl (by decide) (by decide) (fun c2 M2 hm2 lx2 => ?_) (fun c2 => ?_)
      · obtain ⟨k1, k2, k3⟩ := nu_iff.mp c2
        have hne : vT b T (enT b T e) ≠ vT b T e := fun _ => c3 k1
        rw [if_pos ⟨c2, hne⟩] at q
        have i4 := pv_cf (pv_cf i2 hm) hm2
        refine xle 0 (vT b T (enT b T e)) rfl rfl (by decide) (by omega) (fun _ => ?_) (fun z => absurd z (by omega))
        refine c_wput29 (N := N) (vT b T e) (vT b T (enT b T e)) 1 (by omega) (by omega) (Ne.symm hne) rfl rfl rfl (by decide) (fun p hp => i4.2.2.2.2.2.1 p hp) (fun f hf => ?_)
        exact q.1 rfl _ (((DfM.cf hm).trans (DfM.cf hm2)).row (by decide)) lx2 (pv_way29 w i4 (vT b T e) (vT b T (enT b T e)) 1 (by omega) (by omega) 1 rfl (by decide) f hf) (wf_way w (vT b T e) (vT b T (enT b T e)) 1 (by omega) (by omega) (Ne.symm hne) (by decide) 1 rfl)
      · rw [if_neg (fun z => by rw [c2] at z; exact absurd z.1 (by decide))] at q
        exact q.2 rfl _ (DfM.cf hm) lx1
  · rw [if_neg (by rw [c]; decide)] at q
    exact q.2 rfl _ (DfM.cf (CfM.refl M)) lx
end LI
