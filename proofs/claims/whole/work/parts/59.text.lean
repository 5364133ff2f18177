/-! text. -/
theorem bs_neg : ∀ s, s ≤ 120 → (-1 - nI s : Int32) < 0 := by decide +kernel
theorem rd_b (b : Nat → Nat) (T : Nat) : ∀ (n e c : Nat) (N : Nat → Int32), e ≤ T → (rdT b T n e c N).2.1 ≤ max T (c + n)
  | 0, e, c, N, he => by
    have := (st_b b T e he).2
    rw [rdT]
    show stT b T e ≤ _
    omega
  | n + 1, e, c, N, he => by
    have b2 := (bd_Item b T (sN N) e he).1.2
    have s2 := (st_b b T _ b2).2
    rw [rdT]
    split
    · show stT b T (piItem b T (sN N) e).2.1 ≤ _
      omega
    · split
      · show c ≤ _
        omega
      · split
        · have h9 := rd_b b T n (enT b T (piItem b T (sN N) e).2.1) (c + 1) (apI N (piItem b T (sN N) e)) (en_b b T _ b2).2.1
          omega
        · show stT b T (piItem b T (sN N) e).2.1 ≤ _
          omega
theorem rd_f (b : Nat → Nat) (T : Nat) : ∀ (n e c : Nat) (N : Nat → Int32), e ≤ T → (rdT b T n e c N).1 = false → (rdT b T n e c N).2.1 ≤ T
  | 0, e, c, N, he, _ => by
    rw [rdT]
    exact (st_b b T e he).2
  | n + 1, e, c, N, he, h => by
    have b2 := (bd_Item b T (sN N) e he).1.2
    have s2 := (st_b b T _ b2).2
    rw [rdT] at h ⊢
    split
    · exact s2
    · rename_i g1
      rw [if_neg g1] at h
      split
      · rename_i g2
        rw [if_pos g2] at h
        cases h
      · rename_i g2
        rw [if_neg g2] at h
        split
        · rename_i g3
          rw [if_pos g3] at h
          exact rd_f b T n _ (c + 1) _ (en_b b T _ b2).2.1 h
        · exact s2
theorem iv_text {M M2 : xM} (I : Iv 0 M) {N' : Nat → Int32} (h60 : M2 60 = N') (w : Wf N') (pv : PV 1 N' M2) (sr : SR N' M2) (e : ∀ r, (r < 1 ∨ 14 < r) → (r < 29 ∨ 42 < r) → r ≠ 43 → r ≠ 59 → r ≠ 60 → r ≠ 68 → M2 r = M r) (h2 : M2 59 2 = M 59 2) (h8 : M2 59 8 = M 59 8) (h43 : M2 43 0 = 0) (h10 : M2 59 10 = 0) : Iv 0 M2 := by
  obtain ⟨i1, i2, i3, i4, i5, i6, i7, i8⟩ := I
  refine ⟨by rw [h60]; exact w, by rw [h60]; exact pv, ?_, ?_, by rw [h60]; exact sr, ?_, ⟨0, by decide, h43, h10, fun i hi => absurd hi (Nat.not_lt_zero i)⟩, ?_⟩
  · unfold SK at i3 ⊢
    rw [e 0 (by decide) (by decide) (by decide) (by decide) (by decide) (by decide), h2, e 61 (by decide) (by decide) (by decide) (by decide) (by decide) (by decide)]
    rcases i3 with i3 | ⟨a, b, c, d⟩
    · exact Or.inl i3
    · exact Or.inr ⟨a, b, c, d.congr (fun r _ hr => e r (by omega) (by omega) (by omega) (by omega) (by omega) (by omega))⟩
  · unfold SF at i4 ⊢
    rw [e 50 (by decide) (by decide) (by decide) (by decide) (by decide) (by decide), e 62 (by decide) (by decide) (by decide) (by decide) (by decide) (by decide)]
    exact i4
  · unfold SW at i6 ⊢
    rw [e 46 (by decide) (by decide) (by decide) (by decide) (by decide) (by decide), h8, e 47 (by decide) (by decide) (by decide) (by decide) (by decide) (by decide), e 65 (by decide) (by decide) (by decide) (by decide) (by decide) (by decide)]
    exact i6
  · unfold SS SS1 at i8 ⊢
    rw [e 51 (by decide) (by decide) (by decide) (by decide) (by decide) (by decide), e 52 (by decide) (by decide) (by decide) (by decide) (by decide) (by decide), e 53 (by decide) (by decide) (by decide) (by decide) (by decide) (by decide), e 54 (by decide) (by decide) (by decide) (by decide) (by decide) (by decide), e 55 (by decide) (by decide) (by decide) (by decide) (by decide) (by decide), e 56 (by decide) (by decide) (by decide) (by decide) (by decide) (by decide), e 57 (by decide) (by decide) (by decide) (by decide) (by decide) (by decide), e 58 (by decide) (by decide) (by decide) (by decide) (by decide) (by decide), e 69 (by decide) (by decide) (by decide) (by decide) (by decide) (by decide), e 70 (by decide) (by decide) (by decide) (by decide) (by decide) (by decide), e 71 (by decide) (by decide) (by decide) (by decide) (by decide) (by decide)]
    exact i8
section TX
variable {G : xG} {M : xM} {Q : Option Value → xH → Prop}
theorem c_readIntoO {d : Nat} {b : Nat → Nat} {T : Nat} (tp : TpC b T M) {N : Nat → Int32} (w : Wf N) (i2 : PV 29 N M) (q1 : (rdT b T (T + 1) 0 1 N).1 = true → ∀ M', DfM M M' → PV 29 (rdT b T (T + 1) 0 1 N).2.2 M' → Wf (rdT b T (T + 1) 0 1 N).2.2 → Q (some (.int (nI (rdT b T (T + 1) 0 1 N).2.1))) (HH M')) (q0 : (rdT b T (T + 1) 0 1 N).1 = false → ∀ v : Int32, v = -1 - nI (rdT b T (T + 1) 0 1 N).2.1 → v < 0 → ∀ M', DfM M M' → Q (some (.int v)) (HH M')) : CW G (d + 8) jX2_readInto [.ref 43, .ref 29] (HH M) Q := c_readInto tp w i2 ⟨q1, fun h M' D => q0 h _ rfl (bs_neg _ (Nat.le_trans (rd_f b T (T + 1) 0 1 N (Nat.zero_le _) h) tp.2.1)) M' D⟩
theorem st_text (I : Iv 0 M) (q : ∀ r M1, Aft G jX9_text [.ref 59] r M1 → Q (some (.int r)) (HH M1)) : CW G 11 jX8_text [.ref 0] (HH M) Q := by
  have hw := I.1
  have hp := I.2.1
  have hsr := I.2.2.2.2.1
  obtain ⟨T, hT, t43, t59, tb⟩ := I.2.2.2.2.2.2.1
  have hb : ∃ b : Nat → Nat, (∀ i, i < T → M 44 i = nI (b i) ∧ M 66 i = nI (b i)) ∧ ∀ i, b i < 256 := by
    refine ⟨fun i => if i < T then (M 66 i).toNatClampNeg else 0, fun i hi => ?_, fun i => ?_⟩
    · obtain ⟨h1, x, h2, h3⟩ := tb i hi
      show M 44 i = nI (if i < T then (M 66 i).toNatClampNeg else 0) ∧ M 66 i = nI (if i < T then (M 66 i).toNatClampNeg else 0)
      rw [if_pos hi, h1, h3, nI_clamp (by omega)]
      exact ⟨rfl, rfl⟩
    · show (if i < T then (M 66 i).toNatClampNeg else 0) < 256
      by_cases hi : i < T
      · obtain ⟨h1, x, h2, h3⟩ := tb i hi
        rw [if_pos hi, h3, nI_clamp (by omega)]
        exact h2
      · rw [if_neg hi]
        decide
  obtain ⟨b, hb1, hb2⟩ := hb
  refine CW_wp fX8_text rfl rfl rfl ?_
  refine c_become29_1 hw hp (fun M1 hf1 pv1 => ?_)
  have tp1 : TpC b T M1 := ⟨by rw [hf1 43 (by decide)]; exact t43, hT, fun i hi => by rw [hf1 44 (by decide)]; exact (hb1 i hi).1, hb2⟩
  have bd := rd_b b T (T + 1) 0 1 (M 60) (Nat.zero_le _)
  have bf := rd_f b T (T + 1) 0 1 (M 60) (Nat.zero_le _)
  refine c_readIntoO tp1 hw pv1 (fun h M2 D2 pv2 w2 => ?_) (fun h v hv h9 M2 D2 => ?_)
  · refine xlt (rdT b T (T + 1) 0 1 (M 60)).2.1 0 rfl rfl (by omega) (by decide) (fun z => absurd z (by omega)) (fun _ => ?_)
    refine c_become1_29 w2 pv2 (fun M3 hf3 pv3 => ?_)
    refine c_clear ?_
    refine q _ _ (fun Q1 q1 => ?_)
    have e4 : ∀ r, (r < 1 ∨ 14 < r) → (r < 29 ∨ 42 < r) → r ≠ 43 → (xup M3 43 0 0) r = M r := fun r a1 a2 a3 => (xrow_ne a3).trans ((hf3 r a1).trans ((D2.1 r a2 a3).trans (hf1 r a2)))
    refine m_text (N0 := M 60) (b := b) (T := T) ⟨by rw [e4 59 (by decide) (by decide) (by decide)]; exact t59, hT, fun i hi => by rw [e4 66 (by decide) (by decide) (by decide)]; exact (hb1 i hi).2, hb2⟩ (e4 60 (by decide) (by decide) (by decide)) hw (SR.e (fun _ _ _ _ => rfl) (congrFun (e4 59 (by decide) (by decide) (by decide)) 5) (e4 63 (by decide) (by decide) (by decide)) hsr) ⟨fun h2 M5 g1 g2 g3 g4 g5 => ?_, fun h2 => by rw [h] at h2; cases h2⟩
    have e5 : ∀ r, (r < 1 ∨ 14 < r) → (r < 29 ∨ 42 < r) → r ≠ 43 → r ≠ 59 → r ≠ 60 → r ≠ 68 → M5 r = M r := fun r a1 a2 a3 a4 a5 a6 => (g5.1 r a4 a5 a6).trans (e4 r a1 a2 a3)
    refine q1 M5 (iv_text I g1 g2 ?_ g3 e5 ?_ ?_ ?_ g4)
    · exact pv3.congr (fun r r1 r2 => (g5.1 r (by omega) (by omega) (by omega)).trans (xrow_ne (by omega)))
    · exact (g5.2 2 (by decide) (by decide)).trans (congrFun (e4 59 (by decide) (by decide) (by decide)) 2)
    · exact (g5.2 8 (by decide) (by decide)).trans (congrFun (e4 59 (by decide) (by decide) (by decide)) 8)
    · exact congrFun (g5.1 43 (by decide) (by decide) (by decide)) 0
  · refine xif h9 ?_
    refine c_clear ?_
    refine q _ _ (fun Q1 q1 => ?_)
    rw [hv] at q1
    have e4 : ∀ r, (r < 29 ∨ 42 < r) → r ≠ 43 → (xup M2 43 0 0) r = M r := fun r a2 a3 => (xrow_ne a3).trans ((D2.1 r a2 a3).trans (hf1 r a2))
    have sr4 : SR (M 60) (xup M2 43 0 0) := SR.e (fun _ _ _ _ => rfl) (congrFun (e4 59 (by decide) (by decide)) 5) (e4 63 (by decide) (by decide)) hsr
    refine m_text (N0 := M 60) (b := b) (T := T) ⟨by rw [e4 59 (by decide) (by decide)]; exact t59, hT, fun i hi => by rw [e4 66 (by decide) (by decide)]; exact (hb1 i hi).2, hb2⟩ (e4 60 (by decide) (by decide)) hw sr4 ⟨fun h2 => (by rw [h] at h2; cases h2), fun h2 M5 g1 g2 g4 g5 => ?_⟩
    have e5 : ∀ r, (r < 29 ∨ 42 < r) → r ≠ 43 → r ≠ 59 → r ≠ 60 → r ≠ 68 → M5 r = M r := fun r a2 a3 a4 a5 a6 => (g5.1 r a4 a5 a6).trans (e4 r a2 a3)
    refine q1 M5 (iv_text I (g1.trans (e4 60 (by decide) (by decide))) hw (hp.congr (fun r r1 r2 => e5 r (by omega) (by omega) (by omega) (by omega) (by omega))) ?_ (fun r a1 a2 a3 a4 a5 a6 => e5 r a2 a3 a4 a5 a6) ?_ ?_ ?_ g4)
    · exact SR.e (fun _ _ _ _ => rfl) g2 (g5.1 63 (by decide) (by decide) (by decide)) sr4
    · exact (g5.2 2 (by decide) (by decide)).trans (congrFun (e4 59 (by decide) (by decide)) 2)
    · exact (g5.2 8 (by decide) (by decide)).trans (congrFun (e4 59 (by decide) (by decide)) 8)
    · exact congrFun (g5.1 43 (by decide) (by decide) (by decide)) 0
end TX
