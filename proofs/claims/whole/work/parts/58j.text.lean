/-! The model's text, whole. -/
theorem bs_3 {c : Nat} : bsT c = 3 ↔ c = 59 := by unfold bsT; (repeat' split) <;> omega
/-- from the TOKEN at e on, behind c ITEMS that led to N -/
def rdE (b : Nat → Nat) (T : Nat) (n e c : Nat) (N : Nat → Int32) : Bool × Nat × (Nat → Int32) := if tkT b T e = 0 then (true, c, N) else if tkT b T e = 3 then rdT b T n (enT b T e) (c + 1) N else (false, stT b T e, N)
def TxM (M M' : xM) : Prop := (∀ r, r ≠ 59 → r ≠ 60 → r ≠ 68 → M' r = M r) ∧ ∀ j, j < 10 → j ≠ 5 → M' 59 j = M 59 j
def TtQ (M : xM) (Q : Option Value → xH → Prop) (r : Bool × Nat × (Nat → Int32)) : Prop := (r.1 = true → ∀ M', M' 60 = r.2.2 → Wf r.2.2 → SR r.2.2 M' → M' 59 10 = 0 → TxM M M' → Q (some (.int (nI r.2.1))) (HH M')) ∧ (r.1 = false → ∀ M', M' 60 = M 60 → M' 59 5 = M 59 5 → M' 59 10 = 0 → TxM M M' → Q (some (.int (-1 - nI r.2.1))) (HH M'))
theorem rd_E {b : Nat → Nat} {T n e c : Nat} {N : Nat → Int32} {M : xM} {Q : Option Value → xH → Prop} (h : (piItem b T (sN N) e).1 = true) (q : TtQ M Q (rdT b T (n + 1) e c N)) : TtQ M Q (rdE b T n (piItem b T (sN N) e).2.1 c (apI N (piItem b T (sN N) e))) := by
  rw [rdT, if_neg (by rw [h]; decide)] at q
  unfold rdE
  by_cases c0 : tkT b T (piItem b T (sN N) e).2.1 = 0
  · rw [if_pos c0] at q ⊢
    exact q
  · rw [if_neg c0] at q ⊢
    by_cases c3 : tkT b T (piItem b T (sN N) e).2.1 = 3
    · rw [if_pos c3] at q ⊢
      exact q
    · rw [if_neg c3] at q ⊢
      exact ⟨fun z => (by cases z), fun _ => q.2 rfl⟩
theorem MrM.tx {M M' : xM} (h : MrM M M') : TxM M (xup M' 59 10 0) := ⟨fun r a _ c => (xrow_ne a).trans (h.1 r a c), fun j a _ => (show upd (M' 59) 10 0 j = M 59 j from (pk_un (by omega)).trans (h.2 j (by omega)))⟩
theorem TxM.so {M M' M'' : xM} (h : TxM M M') (h2 : soM M' M'') : TxM M M'' := ⟨fun r a b c => (h2.1 r a b).trans (h.1 r a b c), fun j a c => (h2.2 j c).trans (h.2 j a c)⟩
section LU
variable {G : xG} {d : Nat} {M : xM} {Q : Option Value → xH → Prop} {b : Nat → Nat} {T : Nat}
theorem m_textW {s : Nat} {M' : xM} (D : MrM M M') (hr : M' 59 15 = 1) (hb : M' 59 11 = nI s) {N : Nat → Int32} (q : TtQ M Q (false, s, N)) : Ev G (d + 7) jX9_text 28 [some (.ref 59), none] [] (HH M') 0 0 Q := by
  have h9 := q.2 rfl (xup M' 59 10 0) (D.1 60 (by decide) (by decide)) (D.2 5 (by decide)) rfl D.tx
  have h8 : Q (some (.int (-1 - nI s))) (HH (xup M' 59 10 0)) := h9
  rw [← hb] at h8
  refine Ev_wp fX9_text rfl ?_
  refine xelse (b1 hr) ?_
  refine xite (fun _ => ?_) (fun _ => ?_)
  · refine m_mustW hr _ ?_
    refine xelse (show ¬ (xup M' 59 10 0) 59 15 = 0 from b1 hr) ?_
    exact h8
  · refine m_mustW hr _ ?_
    refine xelse (show ¬ (xup M' 59 10 0) 59 15 = 0 from b1 hr) ?_
    exact h8
theorem m_must0o (hr : M 59 15 = 0) (q : ∀ M1, M1 = xup M 59 15 1 → Q none (HH M1)) : CW G (d + 2) jX9_must [.ref 59, .int 0] (HH M) Q := m_must0 hr (q _ rfl)
theorem m_textL (tp : TpM b T M) {N0 : Nat → Int32} (h60 : M 60 = N0) (w0 : Wf N0) (sr0 : SR N0 M) : ∀ (n e c s : Nat) (N : Nat → Int32) (M' : xM), e ≤ T → T < n + e → 2 * c ≤ e + 1 → MrM M M' → M' 59 15 = 0 → LxM b T e M' → M' 59 18 = nI c → M' 59 19 = nI s → sN N = sN N0 + s → Wf N → chB (M' 68) c 0 N0 N → TtQ M Q (rdE b T n e c N) → Ev G (d + 7) jX9_text 28 [some (.ref 59), none] [] (HH M') 0 0 Q := by
  intro n
  have hT := tp.2.1
  induction n with
  | zero => intro e c s N M' he hn; omega
  | succ n ih =>
    intro e c s N M' he hn hc D hr lx h18 h19 hs w ch q
    have tp' := tp.mr D
    have htm := tm_le b T e
    have htk := tk_le b T e
    have htk4 := tk_4 b T e
    have h5 := en_b b T e he
    have s5 := st_b b T e he
    unfold rdE at q
    refine Ev_wp fX9_text rfl ?_
    refine xif hr ?_
    refine xeq (tmT b T e) 3 lx.1 rfl (by omega) (by decide) (fun c3 => ?_) (fun c3 => ?_)
    · have hk : tkT b T e = 3 ∨ tkT b T e = 5 := by
        unfold tmT at c3
        split at c3 <;> omega
      have hk0 : ¬ tkT b T e = 0 := by omega
      have hlt : stT b T e < T := by
        have := h5.2.2 hk0
        omega
      have hb256 := tp.2.2.2 (stT b T e)
      have key : b (stT b T e) = 59 ↔ tkT b T e = 3 := by
        show _ ↔ tyT b T (stT b T e) = 3
        unfold tyT
        rw [if_pos hlt]
        exact bs_3.symm
      refine xix (n := 120) (stT b T e) lx.2.1 (by omega) (by decide) (fun e1 => ?_)
      have hbb : M' 66 (M' 59 11).toNatClampNeg = nI (b (stT b T e)) := by
        rw [e1]
        exact tp'.2.2.1 _ hlt
      refine xeq (b (stT b T e)) 59 hbb rfl (by omega) (by decide) (fun c59 => ?_) (fun c59 => ?_)
      · have hk3 := key.mp c59
        rw [if_neg hk0, if_pos hk3] at q
        refine m_must1 tp' e he lx hr (fun M1 hm1 lx1 => ?_)
        have tp1 := tp'.cf hm1
        have D1 := D.trans (MrM.cf hm1)
        obtain ⟨⟨b1, b2⟩, b3⟩ := bd_Item b T (sN N) (enT b T e) h5.2.1
        have hlt2 := h5.2.2 hk0
        have e1c := (hm1.2 18 (by decide)).trans h18
        have e1s := (hm1.2 19 (by decide)).trans h19
        have hm : M1 60 1 + M1 59 19 = nI (sN N) := by
          rw [D1.1 60 (by decide) (by decide), h60, e1s, w0.2.1.1, hs]
          exact ia rfl rfl
        have h40 := w.2.1.2
        refine m_readItem tp1 (enT b T e) h5.2.1 lx1 ((hm1.2 15 (by decide)).trans hr) c s (by omega) e1c e1s (sN N) (by omega) hm ⟨fun h M2 D2 hr2 lx2 h182 h192 e68 => ?_, fun h M2 D2 hr2 hb2 => ?_⟩
        · have ok := okS_Item h
          have b4 := b3 h
          have ch2 : chB (M2 68) (c + 1) 0 N0 (apI N (piItem b T (sN N) (enT b T e))) := by
            rw [e68]
            refine chB.snoc c 0 N0 N (chB.fr c 0 N0 N ch (fun i hi => ?_)) ok ?_
            · rw [its_fr M1 c _ _ _ _ _ i (by omega), hm1.1 68 (by decide)]
            · rw [Nat.zero_add]
              exact itR_its M1 c _
          by_cases h7 : (piItem b T (sN N) (enT b T e)).2.2.1 < 7
          · rw [if_pos h7] at h192
            exact ih _ (c + 1) (s + 1) _ M2 b2 (by omega) (by omega) (D1.trans D2) hr2 lx2 h182 h192 (by rw [sN_apS w h7]; omega) (wf_apI w ok) ch2 (rd_E h q)
          · rw [if_neg h7] at h192
            exact ih _ (c + 1) s _ M2 b2 (by omega) (by omega) (D1.trans D2) hr2 lx2 h182 h192 (by rw [sN_apN ok.1 h7]; exact hs) (wf_apI w ok) ch2 (rd_E h q)
        · rw [rdT, if_pos h] at q
          exact m_textW (D1.trans D2) hr2 hb2 q
      · have hk3 : ¬ tkT b T e = 3 := fun z => c59 (key.mpr z)
        rw [if_neg hk0, if_neg hk3] at q
        refine xeq (tmT b T e) 0 lx.1 rfl (by omega) (by decide) (fun c0 => absurd c0 (by omega)) (fun _ => ?_)
        refine m_must0o hr (fun M1 hm1 => ?_)
        have D2 : MrM M M1 := by
          rw [hm1]
          exact D.up 15 1 (by decide)
        have h15 : M1 59 15 = 1 := by
          rw [hm1]
          rfl
        have h11 : M1 59 11 = nI (stT b T e) := by
          rw [hm1]
          exact lx.2.1
        have h9 := q.2 rfl (xup M1 59 10 0) (D2.1 60 (by decide) (by decide)) (D2.2 5 (by decide)) rfl D2.tx
        have h8 : Q (some (.int (-1 - nI (stT b T e)))) (HH (xup M1 59 10 0)) := h9
        rw [← h11] at h8
        refine xelse (show ¬ (xup M1 59 10 0) 59 15 = 0 from b1 h15) ?_
        exact h8
    · have hk3 : ¬ tkT b T e = 3 := fun z => c3 (by unfold tmT; rw [if_neg (by omega)]; exact z)
      have hk5 : ¬ tkT b T e = 5 := fun z => c3 (by unfold tmT; rw [if_pos z])
      have etm : tmT b T e = tkT b T e := by
        unfold tmT
        rw [if_neg hk5]
      refine xeq (tmT b T e) 0 lx.1 rfl (by omega) (by decide) (fun c0 => ?_) (fun c0 => ?_)
      · rw [if_pos (by omega)] at q
        refine m_must1 tp' e he lx hr (fun M1 hm1 lx1 => ?_)
        have D1 := D.trans (MrM.cf hm1)
        refine xif (show (xup M1 59 10 0) 59 15 = 0 from (hm1.2 15 (by decide)).trans hr) ?_
        have e1c : (xup M1 59 10 0) 59 18 = nI c := (hm1.2 18 (by decide)).trans h18
        have e60 : (xup M1 59 10 0) 60 = N0 := (D1.1 60 (by decide) (by decide)).trans h60
        have sr1 : SR N0 (xup M1 59 10 0) := SR.e (fun _ _ _ _ => rfl) (D1.2 5 (by decide)) (D1.1 63 (by decide) (by decide)) sr0
        have ch1 : chB ((xup M1 59 10 0) 68) c 0 N0 N := by
          rw [show (xup M1 59 10 0) 68 = M' 68 from hm1.1 68 (by decide)]
          exact ch
        exact m_soL (M := xup M1 59 10 0) c (by omega) N e1c (fun M2 g1 g2 g3 g4 => q.1 rfl M2 g1 g4 g3 (g2.2 10 (by decide)) (D1.tx.so g2)) c 0 N0 _ (Nat.zero_add c) (soM.refl _) e60 w0 sr1 ch1
      · have hk0 : ¬ tkT b T e = 0 := by omega
        rw [if_neg hk0, if_neg hk3] at q
        refine m_must0o hr (fun M1 hm1 => ?_)
        have D2 : MrM M M1 := by
          rw [hm1]
          exact D.up 15 1 (by decide)
        have h15 : M1 59 15 = 1 := by
          rw [hm1]
          rfl
        have h11 : M1 59 11 = nI (stT b T e) := by
          rw [hm1]
          exact lx.2.1
        have h9 := q.2 rfl (xup M1 59 10 0) (D2.1 60 (by decide) (by decide)) (D2.2 5 (by decide)) rfl D2.tx
        have h8 : Q (some (.int (-1 - nI (stT b T e)))) (HH (xup M1 59 10 0)) := h9
        rw [← h11] at h8
        refine xelse (show ¬ (xup M1 59 10 0) 59 15 = 0 from b1 h15) ?_
        exact h8
theorem m_text (tp : TpM b T M) {N0 : Nat → Int32} (h60 : M 60 = N0) (w0 : Wf N0) (sr0 : SR N0 M) (q : TtQ M Q (rdT b T (T + 1) 0 1 N0)) : CW G (d + 7) jX9_text [.ref 59] (HH M) Q := by
  have hT := tp.2.1
  have h40 := w0.2.1.2
  refine CW_wp fX9_text rfl rfl rfl ?_
  have D0 : MrM M (xup (xup (xup (xup M 59 12 0) 59 15 0) 59 18 0) 59 19 0) := ((((MrM.refl M).up 12 0 (by decide)).up 15 0 (by decide)).up 18 0 (by decide)).up 19 0 (by decide)
  refine m_next (M := xup (xup (xup (xup M 59 12 0) 59 15 0) 59 18 0) 59 19 0) (tp.mr D0) 0 (Nat.zero_le _) rfl (fun M1 hm1 lx1 => ?_)
  have D1 := D0.trans (MrM.cf hm1)
  have tp1 := (tp.mr D0).cf hm1
  have e15 : M1 59 15 = 0 := hm1.2 15 (by decide)
  have e18 : M1 59 18 = nI 0 := hm1.2 18 (by decide)
  have e19 : M1 59 19 = nI 0 := hm1.2 19 (by decide)
  obtain ⟨⟨b1, b2⟩, b3⟩ := bd_Item b T (sN N0) 0 (Nat.zero_le _)
  have hm : M1 60 1 + M1 59 19 = nI (sN N0) := by
    rw [D1.1 60 (by decide) (by decide), h60, e19, w0.2.1.1]
    exact ia rfl rfl
  refine m_readItem tp1 0 (Nat.zero_le _) lx1 e15 0 0 (by decide) e18 e19 (sN N0) (by omega) hm ⟨fun h M2 D2 hr2 lx2 h182 h192 e68 => ?_, fun h M2 D2 hr2 hb2 => ?_⟩
  · have ok := okS_Item h
    have b4 := b3 h
    have ch2 : chB (M2 68) 1 0 N0 (apI N0 (piItem b T (sN N0) 0)) := by
      rw [e68]
      exact ⟨_, ok, itR_its M1 0 _, rfl⟩
    by_cases h7 : (piItem b T (sN N0) 0).2.2.1 < 7
    · rw [if_pos h7] at h192
      exact m_textL tp h60 w0 sr0 T _ 1 1 _ M2 b2 (by omega) (by omega) (D1.trans D2) hr2 lx2 h182 h192 (sN_apS w0 h7) (wf_apI w0 ok) ch2 (rd_E h q)
    · rw [if_neg h7] at h192
      exact m_textL tp h60 w0 sr0 T _ 1 0 _ M2 b2 (by omega) (by omega) (D1.trans D2) hr2 lx2 h182 h192 (sN_apN ok.1 h7) (wf_apI w0 ok) ch2 (rd_E h q)
  · rw [rdT, if_pos h] at q
    exact m_textW (D1.trans D2) hr2 hb2 q
end LU
