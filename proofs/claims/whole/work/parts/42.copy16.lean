/-! copy: the sixteen pairs. -/
section Q10
variable {G : xG} {M : xM} {Q : Option Value → xH → Prop}
theorem st_copy00 (I : Iv 0 M) (y u v : Int32) (q : ∀ r M1, Aft G jX9_copy [.ref 59, .int (nI 0), .int y, .int (nI 0), .int u, .int v] r M1 → Q (some (.int r)) (HH M1)) : CW G 11 jX8_copy [.ref 0, .int (nI 0), .int y, .int (nI 0), .int u, .int v] (HH M) Q := by
  obtain ⟨s0, s1, s2, s3⟩ := I.2.2.2.2.2.2.2
  obtain ⟨w, n, w4, n40, a1, a2, a3, a4, a5⟩ := id s0
  obtain ⟨w', m, w4', m40, b1, b2, b3, b4, b5⟩ := id s0
  have hw1 : w ≤ 32 := by omega
  have hw2 : w' ≤ 32 := by omega
  refine CW_wp fX8_copy rfl rfl rfl ?_
  refine c_isSheet _ (fun _ _ _ => ?_) (fun h => absurd rfl (h 0 (by decide)))
  refine c_isSheet _ (fun _ _ _ => ?_) (fun h => absurd rfl (h 0 (by decide)))
  refine c_missing0 a1 hw1 (fun c => ?_) (fun c => ?_)
  · refine c_fin5 ?_
    exact q _ _ (fun Q1 q1 => m_copyM 0 0 w w' (by decide) (by decide) rfl rfl hw1 hw2 a2 b2 (Or.inl c) (iv_fc I) q1)
  refine c_missing0 b1 hw2 (fun c2 => ?_) (fun c2 => ?_)
  · refine c_fin5 ?_
    exact q _ _ (fun Q1 q1 => m_copyM 0 0 w w' (by decide) (by decide) rfl rfl hw1 hw2 a2 b2 (Or.inr c2) (iv_fc I) q1)
  have ew : w' = w := by rw [a1, nI_eq (by omega) (by omega)] at b1; exact b1.symm
  refine xeq w w' a1 b1 (by omega) (by omega) (fun c3 => ?_) (fun c3 => ?_)
  · subst c3
    have bad : ¬ (rgS n y v ∧ rgS m u v) → Aft G jX9_copy [.ref 59, .int (nI 0), .int y, .int (nI 0), .int u, .int v] (nF 0) (fc 0 M) := fun hb Q1 q1 => m_copyG (M := fc 0 M) 0 0 n m w (by decide) (by decide) rfl rfl (by omega) a2 b2 a4 b4 n40 m40 (fun _ => ⟨iv_fc I, q1⟩) (fun f g c h1 h2 h3 h4 h5 => absurd ⟨⟨f, c, h1, h3, h4⟩, ⟨g, c, h2, h3, h5⟩⟩ hb)
    refine c_hasRange0 a3 n40 (fun r1 => ?_) (fun r1 => ?_)
    · refine c_hasRange0 b3 m40 (fun r2 => ?_) (fun r2 => ?_)
      · obtain ⟨f, c, rfl, rfl, hfc⟩ := r1
        obtain ⟨g, c', rfl, ec, hgc⟩ := r2
        rw [nI_eq (by omega) (by omega)] at ec
        subst ec
        have kf : (nI f).toNatClampNeg = f := nI_clamp (by omega)
        have kg : (nI g).toNatClampNeg = g := nI_clamp (by omega)
        have kc : (nI c).toNatClampNeg = c := nI_clamp (by omega)
        refine And.intro ⟨nI_pos (by omega), nI_pos (by omega), nI_pos (by omega), by rw [kf, kc]; omega, by rw [kg, kc]; omega⟩ ?_
        rw [kf, kg, kc]
        refine q _ _ (fun Q1 q1 => m_copyG (M := xrow M 52 (va_cpy (M 52) (M 52) f g c)) 0 0 n m w (by decide) (by decide) rfl rfl (by omega) a2 b2 a4 b4 n40 m40 (fun hb => absurd ⟨⟨f, c, rfl, rfl, hfc⟩, ⟨g, c, rfl, rfl, hgc⟩⟩ hb) (fun f' g' c' h1 h2 h3 h4 h5 f72 f71 h71 h71' => ?_))
        rw [nI_eq (by omega) (by omega)] at h1 h2 h3
        subst h1 h2 h3
        refine q1 _ (I.sheets (fun r hr => ?_) (fun r hr hr2 => ?_) ⟨?_, s1.frame rfl rfl rfl rfl (fun k' hk' => (h71' _ (by omega)).trans rfl), s2.frame rfl rfl rfl rfl (fun k' hk' => (h71' _ (by omega)).trans rfl), s3.frame rfl rfl rfl rfl (fun k' hk' => (h71' _ (by omega)).trans rfl)⟩)
        · rw [xrow_ne (by omega), xrow_ne (by omega), xrow_ne (by omega)]
        · rw [xrow_ne (by omega), xrow_ne (by omega), xrow_ne (by omega)]
        · refine ⟨w, m, w4', m40, b1, b2, b3, b4, fun j hj => ?_⟩
          show va_cpy (M 52) (M 52) f g c j = f71 (40 * 0 + j)
          by_cases z : g ≤ j ∧ j < g + c
          · have h8 := h71 (j - g) (by omega)
            rw [show 40 * 0 + g + (j - g) = 40 * 0 + j by omega] at h8
            rw [pk_cpy_in z.1 z.2, h8, a5 (f + (j - g)) (by omega)]
            show M 71 _ = M 71 _
            congr 1
            omega
          · rw [pk_cpy_out (by omega), h71' _ (by omega)]
            exact b5 j hj
      · refine c_fin0 ?_
        exact q _ _ (bad (fun z => r2 z.2))
    · refine c_fin0 ?_
      exact q _ _ (bad (fun z => r1 z.1))
  · refine c_fin2 ?_
    exact q _ _ (fun Q1 q1 => m_copyK 0 0 w w' (by decide) (by decide) rfl rfl (by omega) (by omega) a2 b2 c3 (iv_fc I) q1)
theorem st_copy01 (I : Iv 0 M) (y u v : Int32) (q : ∀ r M1, Aft G jX9_copy [.ref 59, .int (nI 0), .int y, .int (nI 1), .int u, .int v] r M1 → Q (some (.int r)) (HH M1)) : CW G 11 jX8_copy [.ref 0, .int (nI 0), .int y, .int (nI 1), .int u, .int v] (HH M) Q := by
  obtain ⟨s0, s1, s2, s3⟩ := I.2.2.2.2.2.2.2
  obtain ⟨w, n, w4, n40, a1, a2, a3, a4, a5⟩ := id s0
  obtain ⟨w', m, w4', m40, b1, b2, b3, b4, b5⟩ := id s1
  have hw1 : w ≤ 32 := by omega
  have hw2 : w' ≤ 32 := by omega
  refine CW_wp fX8_copy rfl rfl rfl ?_
  refine c_isSheet _ (fun _ _ _ => ?_) (fun h => absurd rfl (h 0 (by decide)))
  refine c_isSheet _ (fun _ _ _ => ?_) (fun h => absurd rfl (h 1 (by decide)))
  refine c_missing0 a1 hw1 (fun c => ?_) (fun c => ?_)
  · refine c_fin5 ?_
    exact q _ _ (fun Q1 q1 => m_copyM 0 1 w w' (by decide) (by decide) rfl rfl hw1 hw2 a2 b2 (Or.inl c) (iv_fc I) q1)
  refine c_missing1 b1 hw2 (fun c2 => ?_) (fun c2 => ?_)
  · refine c_fin5 ?_
    exact q _ _ (fun Q1 q1 => m_copyM 0 1 w w' (by decide) (by decide) rfl rfl hw1 hw2 a2 b2 (Or.inr c2) (iv_fc I) q1)
  skip
  refine xeq w w' a1 b1 (by omega) (by omega) (fun c3 => ?_) (fun c3 => ?_)
  · subst c3
    have bad : ¬ (rgS n y v ∧ rgS m u v) → Aft G jX9_copy [.ref 59, .int (nI 0), .int y, .int (nI 1), .int u, .int v] (nF 0) (fc 0 M) := fun hb Q1 q1 => m_copyG (M := fc 0 M) 0 1 n m w (by decide) (by decide) rfl rfl (by omega) a2 b2 a4 b4 n40 m40 (fun _ => ⟨iv_fc I, q1⟩) (fun f g c h1 h2 h3 h4 h5 => absurd ⟨⟨f, c, h1, h3, h4⟩, ⟨g, c, h2, h3, h5⟩⟩ hb)
    refine c_hasRange0 a3 n40 (fun r1 => ?_) (fun r1 => ?_)
    · refine c_hasRange1 b3 m40 (fun r2 => ?_) (fun r2 => ?_)
      · obtain ⟨f, c, rfl, rfl, hfc⟩ := r1
        obtain ⟨g, c', rfl, ec, hgc⟩ := r2
        rw [nI_eq (by omega) (by omega)] at ec
        subst ec
        have kf : (nI f).toNatClampNeg = f := nI_clamp (by omega)
        have kg : (nI g).toNatClampNeg = g := nI_clamp (by omega)
        have kc : (nI c).toNatClampNeg = c := nI_clamp (by omega)
        refine And.intro ⟨nI_pos (by omega), nI_pos (by omega), nI_pos (by omega), by rw [kf, kc]; omega, by rw [kg, kc]; omega⟩ ?_
        rw [kf, kg, kc]
        refine q _ _ (fun Q1 q1 => m_copyG (M := xrow M 54 (va_cpy (M 52) (M 54) f g c)) 0 1 n m w (by decide) (by decide) rfl rfl (by omega) a2 b2 a4 b4 n40 m40 (fun hb => absurd ⟨⟨f, c, rfl, rfl, hfc⟩, ⟨g, c, rfl, rfl, hgc⟩⟩ hb) (fun f' g' c' h1 h2 h3 h4 h5 f72 f71 h71 h71' => ?_))
        rw [nI_eq (by omega) (by omega)] at h1 h2 h3
        subst h1 h2 h3
        refine q1 _ (I.sheets (fun r hr => ?_) (fun r hr hr2 => ?_) ⟨s0.frame rfl rfl rfl rfl (fun k' hk' => (h71' _ (by omega)).trans rfl), ?_, s2.frame rfl rfl rfl rfl (fun k' hk' => (h71' _ (by omega)).trans rfl), s3.frame rfl rfl rfl rfl (fun k' hk' => (h71' _ (by omega)).trans rfl)⟩)
        · rw [xrow_ne (by omega), xrow_ne (by omega), xrow_ne (by omega)]
        · rw [xrow_ne (by omega), xrow_ne (by omega), xrow_ne (by omega)]
        · refine ⟨w, m, w4', m40, b1, b2, b3, b4, fun j hj => ?_⟩
          show va_cpy (M 52) (M 54) f g c j = f71 (40 * 1 + j)
          by_cases z : g ≤ j ∧ j < g + c
          · have h8 := h71 (j - g) (by omega)
            rw [show 40 * 1 + g + (j - g) = 40 * 1 + j by omega] at h8
            rw [pk_cpy_in z.1 z.2, h8, a5 (f + (j - g)) (by omega)]
            show M 71 _ = M 71 _
            congr 1
            omega
          · rw [pk_cpy_out (by omega), h71' _ (by omega)]
            exact b5 j hj
      · refine c_fin0 ?_
        exact q _ _ (bad (fun z => r2 z.2))
    · refine c_fin0 ?_
      exact q _ _ (bad (fun z => r1 z.1))
  · refine c_fin2 ?_
    exact q _ _ (fun Q1 q1 => m_copyK 0 1 w w' (by decide) (by decide) rfl rfl (by omega) (by omega) a2 b2 c3 (iv_fc I) q1)
theorem st_copy02 (I : Iv 0 M) (y u v : Int32) (q : ∀ r M1, Aft G jX9_copy [.ref 59, .int (nI 0), .int y, .int (nI 2), .int u, .int v] r M1 → Q (some (.int r)) (HH M1)) : CW G 11 jX8_copy [.ref 0, .int (nI 0), .int y, .int (nI 2), .int u, .int v] (HH M) Q := by
  obtain ⟨s0, s1, s2, s3⟩ := I.2.2.2.2.2.2.2
  obtain ⟨w, n, w4, n40, a1, a2, a3, a4, a5⟩ := id s0
  obtain ⟨w', m, w4', m40, b1, b2, b3, b4, b5⟩ := id s2
  have hw1 : w ≤ 32 := by omega
  have hw2 : w' ≤ 32 := by omega
  refine CW_wp fX8_copy rfl rfl rfl ?_
  refine c_isSheet _ (fun _ _ _ => ?_) (fun h => absurd rfl (h 0 (by decide)))
  refine c_isSheet _ (fun _ _ _ => ?_) (fun h => absurd rfl (h 2 (by decide)))
  refine c_missing0 a1 hw1 (fun c => ?_) (fun c => ?_)
  · refine c_fin5 ?_
    exact q _ _ (fun Q1 q1 => m_copyM 0 2 w w' (by decide) (by decide) rfl rfl hw1 hw2 a2 b2 (Or.inl c) (iv_fc I) q1)
  refine c_missing2 b1 hw2 (fun c2 => ?_) (fun c2 => ?_)
  · refine c_fin5 ?_
    exact q _ _ (fun Q1 q1 => m_copyM 0 2 w w' (by decide) (by decide) rfl rfl hw1 hw2 a2 b2 (Or.inr c2) (iv_fc I) q1)
  skip
  refine xeq w w' a1 b1 (by omega) (by omega) (fun c3 => ?_) (fun c3 => ?_)
  · subst c3
    have bad : ¬ (rgS n y v ∧ rgS m u v) → Aft G jX9_copy [.ref 59, .int (nI 0), .int y, .int (nI 2), .int u, .int v] (nF 0) (fc 0 M) := fun hb Q1 q1 => m_copyG (M := fc 0 M) 0 2 n m w (by decide) (by decide) rfl rfl (by omega) a2 b2 a4 b4 n40 m40 (fun _ => ⟨iv_fc I, q1⟩) (fun f g c h1 h2 h3 h4 h5 => absurd ⟨⟨f, c, h1, h3, h4⟩, ⟨g, c, h2, h3, h5⟩⟩ hb)
    refine c_hasRange0 a3 n40 (fun r1 => ?_) (fun r1 => ?_)
    · refine c_hasRange2 b3 m40 (fun r2 => ?_) (fun r2 => ?_)
      · obtain ⟨f, c, rfl, rfl, hfc⟩ := r1
        obtain ⟨g, c', rfl, ec, hgc⟩ := r2
        rw [nI_eq (by omega) (by omega)] at ec
        subst ec
        have kf : (nI f).toNatClampNeg = f := nI_clamp (by omega)
        have kg : (nI g).toNatClampNeg = g := nI_clamp (by omega)
        have kc : (nI c).toNatClampNeg = c := nI_clamp (by omega)
        refine And.intro ⟨nI_pos (by omega), nI_pos (by omega), nI_pos (by omega), by rw [kf, kc]; omega, by rw [kg, kc]; omega⟩ ?_
        rw [kf, kg, kc]
        refine q _ _ (fun Q1 q1 => m_copyG (M := xrow M 56 (va_cpy (M 52) (M 56) f g c)) 0 2 n m w (by decide) (by decide) rfl rfl (by omega) a2 b2 a4 b4 n40 m40 (fun hb => absurd ⟨⟨f, c, rfl, rfl, hfc⟩, ⟨g, c, rfl, rfl, hgc⟩⟩ hb) (fun f' g' c' h1 h2 h3 h4 h5 f72 f71 h71 h71' => ?_))
        rw [nI_eq (by omega) (by omega)] at h1 h2 h3
        subst h1 h2 h3
        refine q1 _ (I.sheets (fun r hr => ?_) (fun r hr hr2 => ?_) ⟨s0.frame rfl rfl rfl rfl (fun k' hk' => (h71' _ (by omega)).trans rfl), s1.frame rfl rfl rfl rfl (fun k' hk' => (h71' _ (by omega)).trans rfl), ?_, s3.frame rfl rfl rfl rfl (fun k' hk' => (h71' _ (by omega)).trans rfl)⟩)
        · rw [xrow_ne (by omega), xrow_ne (by omega), xrow_ne (by omega)]
        · rw [xrow_ne (by omega), xrow_ne (by omega), xrow_ne (by omega)]
        · refine ⟨w, m, w4', m40, b1, b2, b3, b4, fun j hj => ?_⟩
          show va_cpy (M 52) (M 56) f g c j = f71 (40 * 2 + j)
          by_cases z : g ≤ j ∧ j < g + c
          · have h8 := h71 (j - g) (by omega)
            rw [show 40 * 2 + g + (j - g) = 40 * 2 + j by omega] at h8
            rw [pk_cpy_in z.1 z.2, h8, a5 (f + (j - g)) (by omega)]
            show M 71 _ = M 71 _
            congr 1
            omega
          · rw [pk_cpy_out (by omega), h71' _ (by omega)]
            exact b5 j hj
      · refine c_fin0 ?_
        exact q _ _ (bad (fun z => r2 z.2))
    · refine c_fin0 ?_
      exact q _ _ (bad (fun z => r1 z.1))
  · refine c_fin2 ?_
    exact q _ _ (fun Q1 q1 => m_copyK 0 2 w w' (by decide) (by decide) rfl rfl (by omega) (by omega) a2 b2 c3 (iv_fc I) q1)
theorem st_copy03 (I : Iv 0 M) (y u v : Int32) (q : ∀ r M1, Aft G jX9_copy [.ref 59, .int (nI 0), .int y, .int (nI 3), .int u, .int v] r M1 → Q (some (.int r)) (HH M1)) : CW G 11 jX8_copy [.ref 0, .int (nI 0), .int y, .int (nI 3), .int u, .int v] (HH M) Q := by
  obtain ⟨s0, s1, s2, s3⟩ := I.2.2.2.2.2.2.2
  obtain ⟨w, n, w4, n40, a1, a2, a3, a4, a5⟩ := id s0
  obtain ⟨w', m, w4', m40, b1, b2, b3, b4, b5⟩ := id s3
  have hw1 : w ≤ 32 := by omega
  have hw2 : w' ≤ 32 := by omega
  refine CW_wp fX8_copy rfl rfl rfl ?_
  refine c_isSheet _ (fun _ _ _ => ?_) (fun h => absurd rfl (h 0 (by decide)))
  refine c_isSheet _ (fun _ _ _ => ?_) (fun h => absurd rfl (h 3 (by decide)))
  refine c_missing0 a1 hw1 (fun c => ?_) (fun c => ?_)
  · refine c_fin5 ?_
    exact q _ _ (fun Q1 q1 => m_copyM 0 3 w w' (by decide) (by decide) rfl rfl hw1 hw2 a2 b2 (Or.inl c) (iv_fc I) q1)
  refine c_missing3 b1 hw2 (fun c2 => ?_) (fun c2 => ?_)
  · refine c_fin5 ?_
    exact q _ _ (fun Q1 q1 => m_copyM 0 3 w w' (by decide) (by decide) rfl rfl hw1 hw2 a2 b2 (Or.inr c2) (iv_fc I) q1)
  skip
  refine xeq w w' a1 b1 (by omega) (by omega) (fun c3 => ?_) (fun c3 => ?_)
  · subst c3
    have bad : ¬ (rgS n y v ∧ rgS m u v) → Aft G jX9_copy [.ref 59, .int (nI 0), .int y, .int (nI 3), .int u, .int v] (nF 0) (fc 0 M) := fun hb Q1 q1 => m_copyG (M := fc 0 M) 0 3 n m w (by decide) (by decide) rfl rfl (by omega) a2 b2 a4 b4 n40 m40 (fun _ => ⟨iv_fc I, q1⟩) (fun f g c h1 h2 h3 h4 h5 => absurd ⟨⟨f, c, h1, h3, h4⟩, ⟨g, c, h2, h3, h5⟩⟩ hb)
    refine c_hasRange0 a3 n40 (fun r1 => ?_) (fun r1 => ?_)
    · refine c_hasRange3 b3 m40 (fun r2 => ?_) (fun r2 => ?_)
      · obtain ⟨f, c, rfl, rfl, hfc⟩ := r1
        obtain ⟨g, c', rfl, ec, hgc⟩ := r2
        rw [nI_eq (by omega) (by omega)] at ec
        subst ec
        have kf : (nI f).toNatClampNeg = f := nI_clamp (by omega)
        have kg : (nI g).toNatClampNeg = g := nI_clamp (by omega)
        have kc : (nI c).toNatClampNeg = c := nI_clamp (by omega)
        refine And.intro ⟨nI_pos (by omega), nI_pos (by omega), nI_pos (by omega), by rw [kf, kc]; omega, by rw [kg, kc]; omega⟩ ?_
        rw [kf, kg, kc]
        refine q _ _ (fun Q1 q1 => m_copyG (M := xrow M 58 (va_cpy (M 52) (M 58) f g c)) 0 3 n m w (by decide) (by decide) rfl rfl (by omega) a2 b2 a4 b4 n40 m40 (fun hb => absurd ⟨⟨f, c, rfl, rfl, hfc⟩, ⟨g, c, rfl, rfl, hgc⟩⟩ hb) (fun f' g' c' h1 h2 h3 h4 h5 f72 f71 h71 h71' => ?_))
        rw [nI_eq (by omega) (by omega)] at h1 h2 h3
        subst h1 h2 h3
        refine q1 _ (I.sheets (fun r hr => ?_) (fun r hr hr2 => ?_) ⟨s0.frame rfl rfl rfl rfl (fun k' hk' => (h71' _ (by omega)).trans rfl), s1.frame rfl rfl rfl rfl (fun k' hk' => (h71' _ (by omega)).trans rfl), s2.frame rfl rfl rfl rfl (fun k' hk' => (h71' _ (by omega)).trans rfl), ?_⟩)
        · rw [xrow_ne (by omega), xrow_ne (by omega), xrow_ne (by omega)]
        · rw [xrow_ne (by omega), xrow_ne (by omega), xrow_ne (by omega)]
        · refine ⟨w, m, w4', m40, b1, b2, b3, b4, fun j hj => ?_⟩
          show va_cpy (M 52) (M 58) f g c j = f71 (40 * 3 + j)
          by_cases z : g ≤ j ∧ j < g + c
          · have h8 := h71 (j - g) (by omega)
            rw [show 40 * 3 + g + (j - g) = 40 * 3 + j by omega] at h8
            rw [pk_cpy_in z.1 z.2, h8, a5 (f + (j - g)) (by omega)]
            show M 71 _ = M 71 _
            congr 1
            omega
          · rw [pk_cpy_out (by omega), h71' _ (by omega)]
            exact b5 j hj
      · refine c_fin0 ?_
        exact q _ _ (bad (fun z => r2 z.2))
    · refine c_fin0 ?_
      exact q _ _ (bad (fun z => r1 z.1))
  · refine c_fin2 ?_
    exact q _ _ (fun Q1 q1 => m_copyK 0 3 w w' (by decide) (by decide) rfl rfl (by omega) (by omega) a2 b2 c3 (iv_fc I) q1)
theorem st_copy10 (I : Iv 0 M) (y u v : Int32) (q : ∀ r M1, Aft G jX9_copy [.ref 59, .int (nI 1), .int y, .int (nI 0), .int u, .int v] r M1 → Q (some (.int r)) (HH M1)) : CW G 11 jX8_copy [.ref 0, .int (nI 1), .int y, .int (nI 0), .int u, .int v] (HH M) Q := by
  obtain ⟨s0, s1, s2, s3⟩ := I.2.2.2.2.2.2.2
  obtain ⟨w, n, w4, n40, a1, a2, a3, a4, a5⟩ := id s1
  obtain ⟨w', m, w4', m40, b1, b2, b3, b4, b5⟩ := id s0
  have hw1 : w ≤ 32 := by omega
  have hw2 : w' ≤ 32 := by omega
  refine CW_wp fX8_copy rfl rfl rfl ?_
  refine c_isSheet _ (fun _ _ _ => ?_) (fun h => absurd rfl (h 1 (by decide)))
  refine c_isSheet _ (fun _ _ _ => ?_) (fun h => absurd rfl (h 0 (by decide)))
  refine c_missing1 a1 hw1 (fun c => ?_) (fun c => ?_)
  · refine c_fin5 ?_
    exact q _ _ (fun Q1 q1 => m_copyM 1 0 w w' (by decide) (by decide) rfl rfl hw1 hw2 a2 b2 (Or.inl c) (iv_fc I) q1)
  refine c_missing0 b1 hw2 (fun c2 => ?_) (fun c2 => ?_)
  · refine c_fin5 ?_
    exact q _ _ (fun Q1 q1 => m_copyM 1 0 w w' (by decide) (by decide) rfl rfl hw1 hw2 a2 b2 (Or.inr c2) (iv_fc I) q1)
  skip
  refine xeq w w' a1 b1 (by omega) (by omega) (fun c3 => ?_) (fun c3 => ?_)
  · subst c3
    have bad : ¬ (rgS n y v ∧ rgS m u v) → Aft G jX9_copy [.ref 59, .int (nI 1), .int y, .int (nI 0), .int u, .int v] (nF 0) (fc 0 M) := fun hb Q1 q1 => m_copyG (M := fc 0 M) 1 0 n m w (by decide) (by decide) rfl rfl (by omega) a2 b2 a4 b4 n40 m40 (fun _ => ⟨iv_fc I, q1⟩) (fun f g c h1 h2 h3 h4 h5 => absurd ⟨⟨f, c, h1, h3, h4⟩, ⟨g, c, h2, h3, h5⟩⟩ hb)
    refine c_hasRange1 a3 n40 (fun r1 => ?_) (fun r1 => ?_)
    · refine c_hasRange0 b3 m40 (fun r2 => ?_) (fun r2 => ?_)
      · obtain ⟨f, c, rfl, rfl, hfc⟩ := r1
        obtain ⟨g, c', rfl, ec, hgc⟩ := r2
        rw [nI_eq (by omega) (by omega)] at ec
        subst ec
        have kf : (nI f).toNatClampNeg = f := nI_clamp (by omega)
        have kg : (nI g).toNatClampNeg = g := nI_clamp (by omega)
        have kc : (nI c).toNatClampNeg = c := nI_clamp (by omega)
        refine And.intro ⟨nI_pos (by omega), nI_pos (by omega), nI_pos (by omega), by rw [kf, kc]; omega, by rw [kg, kc]; omega⟩ ?_
        rw [kf, kg, kc]
        refine q _ _ (fun Q1 q1 => m_copyG (M := xrow M 52 (va_cpy (M 54) (M 52) f g c)) 1 0 n m w (by decide) (by decide) rfl rfl (by omega) a2 b2 a4 b4 n40 m40 (fun hb => absurd ⟨⟨f, c, rfl, rfl, hfc⟩, ⟨g, c, rfl, rfl, hgc⟩⟩ hb) (fun f' g' c' h1 h2 h3 h4 h5 f72 f71 h71 h71' => ?_))
        rw [nI_eq (by omega) (by omega)] at h1 h2 h3
        subst h1 h2 h3
        refine q1 _ (I.sheets (fun r hr => ?_) (fun r hr hr2 => ?_) ⟨?_, s1.frame rfl rfl rfl rfl (fun k' hk' => (h71' _ (by omega)).trans rfl), s2.frame rfl rfl rfl rfl (fun k' hk' => (h71' _ (by omega)).trans rfl), s3.frame rfl rfl rfl rfl (fun k' hk' => (h71' _ (by omega)).trans rfl)⟩)
        · rw [xrow_ne (by omega), xrow_ne (by omega), xrow_ne (by omega)]
        · rw [xrow_ne (by omega), xrow_ne (by omega), xrow_ne (by omega)]
        · refine ⟨w, m, w4', m40, b1, b2, b3, b4, fun j hj => ?_⟩
          show va_cpy (M 54) (M 52) f g c j = f71 (40 * 0 + j)
          by_cases z : g ≤ j ∧ j < g + c
          · have h8 := h71 (j - g) (by omega)
            rw [show 40 * 0 + g + (j - g) = 40 * 0 + j by omega] at h8
            rw [pk_cpy_in z.1 z.2, h8, a5 (f + (j - g)) (by omega)]
            show M 71 _ = M 71 _
            congr 1
            omega
          · rw [pk_cpy_out (by omega), h71' _ (by omega)]
            exact b5 j hj
      · refine c_fin0 ?_
        exact q _ _ (bad (fun z => r2 z.2))
    · refine c_fin0 ?_
      exact q _ _ (bad (fun z => r1 z.1))
  · refine c_fin2 ?_
    exact q _ _ (fun Q1 q1 => m_copyK 1 0 w w' (by decide) (by decide) rfl rfl (by omega) (by omega) a2 b2 c3 (iv_fc I) q1)
theorem st_copy11 (I : Iv 0 M) (y u v : Int32) (q : ∀ r M1, Aft G jX9_copy [.ref 59, .int (nI 1), .int y, .int (nI 1), .int u, .int v] r M1 → Q (some (.int r)) (HH M1)) : CW G 11 jX8_copy [.ref 0, .int (nI 1), .int y, .int (nI 1), .int u, .int v] (HH M) Q := by
  obtain ⟨s0, s1, s2, s3⟩ := I.2.2.2.2.2.2.2
  obtain ⟨w, n, w4, n40, a1, a2, a3, a4, a5⟩ := id s1
  obtain ⟨w', m, w4', m40, b1, b2, b3, b4, b5⟩ := id s1
  have hw1 : w ≤ 32 := by omega
  have hw2 : w' ≤ 32 := by omega
  refine CW_wp fX8_copy rfl rfl rfl ?_
  refine c_isSheet _ (fun _ _ _ => ?_) (fun h => absurd rfl (h 1 (by decide)))
  refine c_isSheet _ (fun _ _ _ => ?_) (fun h => absurd rfl (h 1 (by decide)))
  refine c_missing1 a1 hw1 (fun c => ?_) (fun c => ?_)
  · refine c_fin5 ?_
    exact q _ _ (fun Q1 q1 => m_copyM 1 1 w w' (by decide) (by decide) rfl rfl hw1 hw2 a2 b2 (Or.inl c) (iv_fc I) q1)
  refine c_missing1 b1 hw2 (fun c2 => ?_) (fun c2 => ?_)
  · refine c_fin5 ?_
    exact q _ _ (fun Q1 q1 => m_copyM 1 1 w w' (by decide) (by decide) rfl rfl hw1 hw2 a2 b2 (Or.inr c2) (iv_fc I) q1)
  have ew : w' = w := by rw [a1, nI_eq (by omega) (by omega)] at b1; exact b1.symm
  refine xeq w w' a1 b1 (by omega) (by omega) (fun c3 => ?_) (fun c3 => ?_)
  · subst c3
    have bad : ¬ (rgS n y v ∧ rgS m u v) → Aft G jX9_copy [.ref 59, .int (nI 1), .int y, .int (nI 1), .int u, .int v] (nF 0) (fc 0 M) := fun hb Q1 q1 => m_copyG (M := fc 0 M) 1 1 n m w (by decide) (by decide) rfl rfl (by omega) a2 b2 a4 b4 n40 m40 (fun _ => ⟨iv_fc I, q1⟩) (fun f g c h1 h2 h3 h4 h5 => absurd ⟨⟨f, c, h1, h3, h4⟩, ⟨g, c, h2, h3, h5⟩⟩ hb)
    refine c_hasRange1 a3 n40 (fun r1 => ?_) (fun r1 => ?_)
    · refine c_hasRange1 b3 m40 (fun r2 => ?_) (fun r2 => ?_)
      · obtain ⟨f, c, rfl, rfl, hfc⟩ := r1
        obtain ⟨g, c', rfl, ec, hgc⟩ := r2
        rw [nI_eq (by omega) (by omega)] at ec
        subst ec
        have kf : (nI f).toNatClampNeg = f := nI_clamp (by omega)
        have kg : (nI g).toNatClampNeg = g := nI_clamp (by omega)
        have kc : (nI c).toNatClampNeg = c := nI_clamp (by omega)
        refine And.intro ⟨nI_pos (by omega), nI_pos (by omega), nI_pos (by omega), by rw [kf, kc]; omega, by rw [kg, kc]; omega⟩ ?_
        rw [kf, kg, kc]
        refine q _ _ (fun Q1 q1 => m_copyG (M := xrow M 54 (va_cpy (M 54) (M 54) f g c)) 1 1 n m w (by decide) (by decide) rfl rfl (by omega) a2 b2 a4 b4 n40 m40 (fun hb => absurd ⟨⟨f, c, rfl, rfl, hfc⟩, ⟨g, c, rfl, rfl, hgc⟩⟩ hb) (fun f' g' c' h1 h2 h3 h4 h5 f72 f71 h71 h71' => ?_))
        rw [nI_eq (by omega) (by omega)] at h1 h2 h3
        subst h1 h2 h3
        refine q1 _ (I.sheets (fun r hr => ?_) (fun r hr hr2 => ?_) ⟨s0.frame rfl rfl rfl rfl (fun k' hk' => (h71' _ (by omega)).trans rfl), ?_, s2.frame rfl rfl rfl rfl (fun k' hk' => (h71' _ (by omega)).trans rfl), s3.frame rfl rfl rfl rfl (fun k' hk' => (h71' _ (by omega)).trans rfl)⟩)
        · rw [xrow_ne (by omega), xrow_ne (by omega), xrow_ne (by omega)]
        · rw [xrow_ne (by omega), xrow_ne (by omega), xrow_ne (by omega)]
        · refine ⟨w, m, w4', m40, b1, b2, b3, b4, fun j hj => ?_⟩
          show va_cpy (M 54) (M 54) f g c j = f71 (40 * 1 + j)
          by_cases z : g ≤ j ∧ j < g + c
          · have h8 := h71 (j - g) (by omega)
            rw [show 40 * 1 + g + (j - g) = 40 * 1 + j by omega] at h8
            rw [pk_cpy_in z.1 z.2, h8, a5 (f + (j - g)) (by omega)]
            show M 71 _ = M 71 _
            congr 1
            omega
          · rw [pk_cpy_out (by omega), h71' _ (by omega)]
            exact b5 j hj
      · refine c_fin0 ?_
        exact q _ _ (bad (fun z => r2 z.2))
    · refine c_fin0 ?_
      exact q _ _ (bad (fun z => r1 z.1))
  · refine c_fin2 ?_
    exact q _ _ (fun Q1 q1 => m_copyK 1 1 w w' (by decide) (by decide) rfl rfl (by omega) (by omega) a2 b2 c3 (iv_fc I) q1)
theorem st_copy12 (I : Iv 0 M) (y u v : Int32) (q : ∀ r M1, Aft G jX9_copy [.ref 59, .int (nI 1), .int y, .int (nI 2), .int u, .int v] r M1 → Q (some (.int r)) (HH M1)) : CW G 11 jX8_copy [.ref 0, .int (nI 1), .int y, .int (nI 2), .int u, .int v] (HH M) Q := by
  obtain ⟨s0, s1, s2, s3⟩ := I.2.2.2.2.2.2.2
  obtain ⟨w, n, w4, n40, a1, a2, a3, a4, a5⟩ := id s1
  obtain ⟨w', m, w4', m40, b1, b2, b3, b4, b5⟩ := id s2
  have hw1 : w ≤ 32 := by omega
  have hw2 : w' ≤ 32 := by omega
  refine CW_wp fX8_copy rfl rfl rfl ?_
  refine c_isSheet _ (fun _ _ _ => ?_) (fun h => absurd rfl (h 1 (by decide)))
  refine c_isSheet _ (fun _ _ _ => ?_) (fun h => absurd rfl (h 2 (by decide)))
  refine c_missing1 a1 hw1 (fun c => ?_) (fun c => ?_)
  · refine c_fin5 ?_
    exact q _ _ (fun Q1 q1 => m_copyM 1 2 w w' (by decide) (by decide) rfl rfl hw1 hw2 a2 b2 (Or.inl c) (iv_fc I) q1)
  refine c_missing2 b1 hw2 (fun c2 => ?_) (fun c2 => ?_)
  · refine c_fin5 ?_
    exact q _ _ (fun Q1 q1 => m_copyM 1 2 w w' (by decide) (by decide) rfl rfl hw1 hw2 a2 b2 (Or.inr c2) (iv_fc I) q1)
  skip
  refine xeq w w' a1 b1 (by omega) (by omega) (fun c3 => ?_) (fun c3 => ?_)
  · subst c3
    have bad : ¬ (rgS n y v ∧ rgS m u v) → Aft G jX9_copy [.ref 59, .int (nI 1), .int y, .int (nI 2), .int u, .int v] (nF 0) (fc 0 M) := fun hb Q1 q1 => m_copyG (M := fc 0 M) 1 2 n m w (by decide) (by decide) rfl rfl (by omega) a2 b2 a4 b4 n40 m40 (fun _ => ⟨iv_fc I, q1⟩) (fun f g c h1 h2 h3 h4 h5 => absurd ⟨⟨f, c, h1, h3, h4⟩, ⟨g, c, h2, h3, h5⟩⟩ hb)
    refine c_hasRange1 a3 n40 (fun r1 => ?_) (fun r1 => ?_)
    · refine c_hasRange2 b3 m40 (fun r2 => ?_) (fun r2 => ?_)
      · obtain ⟨f, c, rfl, rfl, hfc⟩ := r1
        obtain ⟨g, c', rfl, ec, hgc⟩ := r2
        rw [nI_eq (by omega) (by omega)] at ec
        subst ec
        have kf : (nI f).toNatClampNeg = f := nI_clamp (by omega)
        have kg : (nI g).toNatClampNeg = g := nI_clamp (by omega)
        have kc : (nI c).toNatClampNeg = c := nI_clamp (by omega)
        refine And.intro ⟨nI_pos (by omega), nI_pos (by omega), nI_pos (by omega), by rw [kf, kc]; omega, by rw [kg, kc]; omega⟩ ?_
        rw [kf, kg, kc]
        refine q _ _ (fun Q1 q1 => m_copyG (M := xrow M 56 (va_cpy (M 54) (M 56) f g c)) 1 2 n m w (by decide) (by decide) rfl rfl (by omega) a2 b2 a4 b4 n40 m40 (fun hb => absurd ⟨⟨f, c, rfl, rfl, hfc⟩, ⟨g, c, rfl, rfl, hgc⟩⟩ hb) (fun f' g' c' h1 h2 h3 h4 h5 f72 f71 h71 h71' => ?_))
        rw [nI_eq (by omega) (by omega)] at h1 h2 h3
        subst h1 h2 h3
        refine q1 _ (I.sheets (fun r hr => ?_) (fun r hr hr2 => ?_) ⟨s0.frame rfl rfl rfl rfl (fun k' hk' => (h71' _ (by omega)).trans rfl), s1.frame rfl rfl rfl rfl (fun k' hk' => (h71' _ (by omega)).trans rfl), ?_, s3.frame rfl rfl rfl rfl (fun k' hk' => (h71' _ (by omega)).trans rfl)⟩)
        · rw [xrow_ne (by omega), xrow_ne (by omega), xrow_ne (by omega)]
        · rw [xrow_ne (by omega), xrow_ne (by omega), xrow_ne (by omega)]
        · refine ⟨w, m, w4', m40, b1, b2, b3, b4, fun j hj => ?_⟩
          show va_cpy (M 54) (M 56) f g c j = f71 (40 * 2 + j)
          by_cases z : g ≤ j ∧ j < g + c
          · have h8 := h71 (j - g) (by omega)
            rw [show 40 * 2 + g + (j - g) = 40 * 2 + j by omega] at h8
            rw [pk_cpy_in z.1 z.2, h8, a5 (f + (j - g)) (by omega)]
            show M 71 _ = M 71 _
            congr 1
            omega
          · rw [pk_cpy_out (by omega), h71' _ (by omega)]
            exact b5 j hj
      · refine c_fin0 ?_
        exact q _ _ (bad (fun z => r2 z.2))
    · refine c_fin0 ?_
      exact q _ _ (bad (fun z => r1 z.1))
  · refine c_fin2 ?_
    exact q _ _ (fun Q1 q1 => m_copyK 1 2 w w' (by decide) (by decide) rfl rfl (by omega) (by omega) a2 b2 c3 (iv_fc I) q1)
theorem st_copy13 (I : Iv 0 M) (y u v : Int32) (q : ∀ r M1, Aft G jX9_copy [.ref 59, .int (nI 1), .int y, .int (nI 3), .int u, .int v] r M1 → Q (some (.int r)) (HH M1)) : CW G 11 jX8_copy [.ref 0, .int (nI 1), .int y, .int (nI 3), .int u, .int v] (HH M) Q := by
  obtain ⟨s0, s1, s2, s3⟩ := I.2.2.2.2.2.2.2
  obtain ⟨w, n, w4, n40, a1, a2, a3, a4, a5⟩ := id s1
  obtain ⟨w', m, w4', m40, b1, b2, b3, b4, b5⟩ := id s3
  have hw1 : w ≤ 32 := by omega
  have hw2 : w' ≤ 32 := by omega
  refine CW_wp fX8_copy rfl rfl rfl ?_
  refine c_isSheet _ (fun _ _ _ => ?_) (fun h => absurd rfl (h 1 (by decide)))
  refine c_isSheet _ (fun _ _ _ => ?_) (fun h => absurd rfl (h 3 (by decide)))
  refine c_missing1 a1 hw1 (fun c => ?_) (fun c => ?_)
  · refine c_fin5 ?_
    exact q _ _ (fun Q1 q1 => m_copyM 1 3 w w' (by decide) (by decide) rfl rfl hw1 hw2 a2 b2 (Or.inl c) (iv_fc I) q1)
  refine c_missing3 b1 hw2 (fun c2 => ?_) (fun c2 => ?_)
  · refine c_fin5 ?_
    exact q _ _ (fun Q1 q1 => m_copyM 1 3 w w' (by decide) (by decide) rfl rfl hw1 hw2 a2 b2 (Or.inr c2) (iv_fc I) q1)
  skip
  refine xeq w w' a1 b1 (by omega) (by omega) (fun c3 => ?_) (fun c3 => ?_)
  · subst c3
    have bad : ¬ (rgS n y v ∧ rgS m u v) → Aft G jX9_copy [.ref 59, .int (nI 1), .int y, .int (nI 3), .int u, .int v] (nF 0) (fc 0 M) := fun hb Q1 q1 => m_copyG (M := fc 0 M) 1 3 n m w (by decide) (by decide) rfl rfl (by omega) a2 b2 a4 b4 n40 m40 (fun _ => ⟨iv_fc I, q1⟩) (fun f g c h1 h2 h3 h4 h5 => absurd ⟨⟨f, c, h1, h3, h4⟩, ⟨g, c, h2, h3, h5⟩⟩ hb)
    refine c_hasRange1 a3 n40 (fun r1 => ?_) (fun r1 => ?_)
    · refine c_hasRange3 b3 m40 (fun r2 => ?_) (fun r2 => ?_)
      · obtain ⟨f, c, rfl, rfl, hfc⟩ := r1
        obtain ⟨g, c', rfl, ec, hgc⟩ := r2
        rw [nI_eq (by omega) (by omega)] at ec
        subst ec
        have kf : (nI f).toNatClampNeg = f := nI_clamp (by omega)
        have kg : (nI g).toNatClampNeg = g := nI_clamp (by omega)
        have kc : (nI c).toNatClampNeg = c := nI_clamp (by omega)
        refine And.intro ⟨nI_pos (by omega), nI_pos (by omega), nI_pos (by omega), by rw [kf, kc]; omega, by rw [kg, kc]; omega⟩ ?_
        rw [kf, kg, kc]
        refine q _ _ (fun Q1 q1 => m_copyG (M := xrow M 58 (va_cpy (M 54) (M 58) f g c)) 1 3 n m w (by decide) (by decide) rfl rfl (by omega) a2 b2 a4 b4 n40 m40 (fun hb => absurd ⟨⟨f, c, rfl, rfl, hfc⟩, ⟨g, c, rfl, rfl, hgc⟩⟩ hb) (fun f' g' c' h1 h2 h3 h4 h5 f72 f71 h71 h71' => ?_))
        rw [nI_eq (by omega) (by omega)] at h1 h2 h3
        subst h1 h2 h3
        refine q1 _ (I.sheets (fun r hr => ?_) (fun r hr hr2 => ?_) ⟨s0.frame rfl rfl rfl rfl (fun k' hk' => (h71' _ (by omega)).trans rfl), s1.frame rfl rfl rfl rfl (fun k' hk' => (h71' _ (by omega)).trans rfl), s2.frame rfl rfl rfl rfl (fun k' hk' => (h71' _ (by omega)).trans rfl), ?_⟩)
        · rw [xrow_ne (by omega), xrow_ne (by omega), xrow_ne (by omega)]
        · rw [xrow_ne (by omega), xrow_ne (by omega), xrow_ne (by omega)]
        · refine ⟨w, m, w4', m40, b1, b2, b3, b4, fun j hj => ?_⟩
          show va_cpy (M 54) (M 58) f g c j = f71 (40 * 3 + j)
          by_cases z : g ≤ j ∧ j < g + c
          · have h8 := h71 (j - g) (by omega)
            rw [show 40 * 3 + g + (j - g) = 40 * 3 + j by omega] at h8
            rw [pk_cpy_in z.1 z.2, h8, a5 (f + (j - g)) (by omega)]
            show M 71 _ = M 71 _
            congr 1
            omega
          · rw [pk_cpy_out (by omega), h71' _ (by omega)]
            exact b5 j hj
      · refine c_fin0 ?_
        exact q _ _ (bad (fun z => r2 z.2))
    · refine c_fin0 ?_
      exact q _ _ (bad (fun z => r1 z.1))
  · refine c_fin2 ?_
    exact q _ _ (fun Q1 q1 => m_copyK 1 3 w w' (by decide) (by decide) rfl rfl (by omega) (by omega) a2 b2 c3 (iv_fc I) q1)
theorem st_copy20 (I : Iv 0 M) (y u v : Int32) (q : ∀ r M1, Aft G jX9_copy [.ref 59, .int (nI 2), .int y, .int (nI 0), .int u, .int v] r M1 → Q (some (.int r)) (HH M1)) : CW G 11 jX8_copy [.ref 0, .int (nI 2), .int y, .int (nI 0), .int u, .int v] (HH M) Q := by
  obtain ⟨s0, s1, s2, s3⟩ := I.2.2.2.2.2.2.2
  obtain ⟨w, n, w4, n40, a1, a2, a3, a4, a5⟩ := id s2
  obtain ⟨w', m, w4', m40, b1, b2, b3, b4, b5⟩ := id s0
  have hw1 : w ≤ 32 := by omega
  have hw2 : w' ≤ 32 := by omega
  refine CW_wp fX8_copy rfl rfl rfl ?_
  refine c_isSheet _ (fun _ _ _ => ?_) (fun h => absurd rfl (h 2 (by decide)))
  refine c_isSheet _ (fun _ _ _ => ?_) (fun h => absurd rfl (h 0 (by decide)))
  refine c_missing2 a1 hw1 (fun c => ?_) (fun c => ?_)
  · refine c_fin5 ?_
    exact q _ _ (fun Q1 q1 => m_copyM 2 0 w w' (by decide) (by decide) rfl rfl hw1 hw2 a2 b2 (Or.inl c) (iv_fc I) q1)
  refine c_missing0 b1 hw2 (fun c2 => ?_) (fun c2 => ?_)
  · refine c_fin5 ?_
    exact q _ _ (fun Q1 q1 => m_copyM 2 0 w w' (by decide) (by decide) rfl rfl hw1 hw2 a2 b2 (Or.inr c2) (iv_fc I) q1)
  skip
  refine xeq w w' a1 b1 (by omega) (by omega) (fun c3 => ?_) (fun c3 => ?_)
  · subst c3
    have bad : ¬ (rgS n y v ∧ rgS m u v) → Aft G jX9_copy [.ref 59, .int (nI 2), .int y, .int (nI 0), .int u, .int v] (nF 0) (fc 0 M) := fun hb Q1 q1 => m_copyG (M := fc 0 M) 2 0 n m w (by decide) (by decide) rfl rfl (by omega) a2 b2 a4 b4 n40 m40 (fun _ => ⟨iv_fc I, q1⟩) (fun f g c h1 h2 h3 h4 h5 => absurd ⟨⟨f, c, h1, h3, h4⟩, ⟨g, c, h2, h3, h5⟩⟩ hb)
    refine c_hasRange2 a3 n40 (fun r1 => ?_) (fun r1 => ?_)
    · refine c_hasRange0 b3 m40 (fun r2 => ?_) (fun r2 => ?_)
      · obtain ⟨f, c, rfl, rfl, hfc⟩ := r1
        obtain ⟨g, c', rfl, ec, hgc⟩ := r2
        rw [nI_eq (by omega) (by omega)] at ec
        subst ec
        have kf : (nI f).toNatClampNeg = f := nI_clamp (by omega)
        have kg : (nI g).toNatClampNeg = g := nI_clamp (by omega)
        have kc : (nI c).toNatClampNeg = c := nI_clamp (by omega)
        refine And.intro ⟨nI_pos (by omega), nI_pos (by omega), nI_pos (by omega), by rw [kf, kc]; omega, by rw [kg, kc]; omega⟩ ?_
        rw [kf, kg, kc]
        refine q _ _ (fun Q1 q1 => m_copyG (M := xrow M 52 (va_cpy (M 56) (M 52) f g c)) 2 0 n m w (by decide) (by decide) rfl rfl (by omega) a2 b2 a4 b4 n40 m40 (fun hb => absurd ⟨⟨f, c, rfl, rfl, hfc⟩, ⟨g, c, rfl, rfl, hgc⟩⟩ hb) (fun f' g' c' h1 h2 h3 h4 h5 f72 f71 h71 h71' => ?_))
        rw [nI_eq (by omega) (by omega)] at h1 h2 h3
        subst h1 h2 h3
        refine q1 _ (I.sheets (fun r hr => ?_) (fun r hr hr2 => ?_) ⟨?_, s1.frame rfl rfl rfl rfl (fun k' hk' => (h71' _ (by omega)).trans rfl), s2.frame rfl rfl rfl rfl (fun k' hk' => (h71' _ (by omega)).trans rfl), s3.frame rfl rfl rfl rfl (fun k' hk' => (h71' _ (by omega)).trans rfl)⟩)
        · rw [xrow_ne (by omega), xrow_ne (by omega), xrow_ne (by omega)]
        · rw [xrow_ne (by omega), xrow_ne (by omega), xrow_ne (by omega)]
        · refine ⟨w, m, w4', m40, b1, b2, b3, b4, fun j hj => ?_⟩
          show va_cpy (M 56) (M 52) f g c j = f71 (40 * 0 + j)
          by_cases z : g ≤ j ∧ j < g + c
          · have h8 := h71 (j - g) (by omega)
            rw [show 40 * 0 + g + (j - g) = 40 * 0 + j by omega] at h8
            rw [pk_cpy_in z.1 z.2, h8, a5 (f + (j - g)) (by omega)]
            show M 71 _ = M 71 _
            congr 1
            omega
          · rw [pk_cpy_out (by omega), h71' _ (by omega)]
            exact b5 j hj
      · refine c_fin0 ?_
        exact q _ _ (bad (fun z => r2 z.2))
    · refine c_fin0 ?_
      exact q _ _ (bad (fun z => r1 z.1))
  · refine c_fin2 ?_
    exact q _ _ (fun Q1 q1 => m_copyK 2 0 w w' (by decide) (by decide) rfl rfl (by omega) (by omega) a2 b2 c3 (iv_fc I) q1)
theorem st_copy21 (I : Iv 0 M) (y u v : Int32) (q : ∀ r M1, Aft G jX9_copy [.ref 59, .int (nI 2), .int y, .int (nI 1), .int u, .int v] r M1 → Q (some (.int r)) (HH M1)) : CW G 11 jX8_copy [.ref 0, .int (nI 2), .int y, .int (nI 1), .int u, .int v] (HH M) Q := by
  obtain ⟨s0, s1, s2, s3⟩ := I.2.2.2.2.2.2.2
  obtain ⟨w, n, w4, n40, a1, a2, a3, a4, a5⟩ := id s2
  obtain ⟨w', m, w4', m40, b1, b2, b3, b4, b5⟩ := id s1
  have hw1 : w ≤ 32 := by omega
  have hw2 : w' ≤ 32 := by omega
  refine CW_wp fX8_copy rfl rfl rfl ?_
  refine c_isSheet _ (fun _ _ _ => ?_) (fun h => absurd rfl (h 2 (by decide)))
  refine c_isSheet _ (fun _ _ _ => ?_) (fun h => absurd rfl (h 1 (by decide)))
  refine c_missing2 a1 hw1 (fun c => ?_) (fun c => ?_)
  · refine c_fin5 ?_
    exact q _ _ (fun Q1 q1 => m_copyM 2 1 w w' (by decide) (by decide) rfl rfl hw1 hw2 a2 b2 (Or.inl c) (iv_fc I) q1)
  refine c_missing1 b1 hw2 (fun c2 => ?_) (fun c2 => ?_)
  · refine c_fin5 ?_
    exact q _ _ (fun Q1 q1 => m_copyM 2 1 w w' (by decide) (by decide) rfl rfl hw1 hw2 a2 b2 (Or.inr c2) (iv_fc I) q1)
  skip
  refine xeq w w' a1 b1 (by omega) (by omega) (fun c3 => ?_) (fun c3 => ?_)
  · subst c3
    have bad : ¬ (rgS n y v ∧ rgS m u v) → Aft G jX9_copy [.ref 59, .int (nI 2), .int y, .int (nI 1), .int u, .int v] (nF 0) (fc 0 M) := fun hb Q1 q1 => m_copyG (M := fc 0 M) 2 1 n m w (by decide) (by decide) rfl rfl (by omega) a2 b2 a4 b4 n40 m40 (fun _ => ⟨iv_fc I, q1⟩) (fun f g c h1 h2 h3 h4 h5 => absurd ⟨⟨f, c, h1, h3, h4⟩, ⟨g, c, h2, h3, h5⟩⟩ hb)
    refine c_hasRange2 a3 n40 (fun r1 => ?_) (fun r1 => ?_)
    · refine c_hasRange1 b3 m40 (fun r2 => ?_) (fun r2 => ?_)
      · obtain ⟨f, c, rfl, rfl, hfc⟩ := r1
        obtain ⟨g, c', rfl, ec, hgc⟩ := r2
        rw [nI_eq (by omega) (by omega)] at ec
        subst ec
        have kf : (nI f).toNatClampNeg = f := nI_clamp (by omega)
        have kg : (nI g).toNatClampNeg = g := nI_clamp (by omega)
        have kc : (nI c).toNatClampNeg = c := nI_clamp (by omega)
        refine And.intro ⟨nI_pos (by omega), nI_pos (by omega), nI_pos (by omega), by rw [kf, kc]; omega, by rw [kg, kc]; omega⟩ ?_
        rw [kf, kg, kc]
        refine q _ _ (fun Q1 q1 => m_copyG (M := xrow M 54 (va_cpy (M 56) (M 54) f g c)) 2 1 n m w (by decide) (by decide) rfl rfl (by omega) a2 b2 a4 b4 n40 m40 (fun hb => absurd ⟨⟨f, c, rfl, rfl, hfc⟩, ⟨g, c, rfl, rfl, hgc⟩⟩ hb) (fun f' g' c' h1 h2 h3 h4 h5 f72 f71 h71 h71' => ?_))
        rw [nI_eq (by omega) (by omega)] at h1 h2 h3
        subst h1 h2 h3
        refine q1 _ (I.sheets (fun r hr => ?_) (fun r hr hr2 => ?_) ⟨s0.frame rfl rfl rfl rfl (fun k' hk' => (h71' _ (by omega)).trans rfl), ?_, s2.frame rfl rfl rfl rfl (fun k' hk' => (h71' _ (by omega)).trans rfl), s3.frame rfl rfl rfl rfl (fun k' hk' => (h71' _ (by omega)).trans rfl)⟩)
        · rw [xrow_ne (by omega), xrow_ne (by omega), xrow_ne (by omega)]
        · rw [xrow_ne (by omega), xrow_ne (by omega), xrow_ne (by omega)]
        · refine ⟨w, m, w4', m40, b1, b2, b3, b4, fun j hj => ?_⟩
          show va_cpy (M 56) (M 54) f g c j = f71 (40 * 1 + j)
          by_cases z : g ≤ j ∧ j < g + c
          · have h8 := h71 (j - g) (by omega)
            rw [show 40 * 1 + g + (j - g) = 40 * 1 + j by omega] at h8
            rw [pk_cpy_in z.1 z.2, h8, a5 (f + (j - g)) (by omega)]
            show M 71 _ = M 71 _
            congr 1
            omega
          · rw [pk_cpy_out (by omega), h71' _ (by omega)]
            exact b5 j hj
      · refine c_fin0 ?_
        exact q _ _ (bad (fun z => r2 z.2))
    · refine c_fin0 ?_
      exact q _ _ (bad (fun z => r1 z.1))
  · refine c_fin2 ?_
    exact q _ _ (fun Q1 q1 => m_copyK 2 1 w w' (by decide) (by decide) rfl rfl (by omega) (by omega) a2 b2 c3 (iv_fc I) q1)
theorem st_copy22 (I : Iv 0 M) (y u v : Int32) (q : ∀ r M1, Aft G jX9_copy [.ref 59, .int (nI 2), .int y, .int (nI 2), .int u, .int v] r M1 → Q (some (.int r)) (HH M1)) : CW G 11 jX8_copy [.ref 0, .int (nI 2), .int y, .int (nI 2), .int u, .int v] (HH M) Q := by
  obtain ⟨s0, s1, s2, s3⟩ := I.2.2.2.2.2.2.2
  obtain ⟨w, n, w4, n40, a1, a2, a3, a4, a5⟩ := id s2
  obtain ⟨w', m, w4', m40, b1, b2, b3, b4, b5⟩ := id s2
  have hw1 : w ≤ 32 := by omega
  have hw2 : w' ≤ 32 := by omega
  refine CW_wp fX8_copy rfl rfl rfl ?_
  refine c_isSheet _ (fun _ _ _ => ?_) (fun h => absurd rfl (h 2 (by decide)))
  refine c_isSheet _ (fun _ _ _ => ?_) (fun h => absurd rfl (h 2 (by decide)))
  refine c_missing2 a1 hw1 (fun c => ?_) (fun c => ?_)
  · refine c_fin5 ?_
    exact q _ _ (fun Q1 q1 => m_copyM 2 2 w w' (by decide) (by decide) rfl rfl hw1 hw2 a2 b2 (Or.inl c) (iv_fc I) q1)
  refine c_missing2 b1 hw2 (fun c2 => ?_) (fun c2 => ?_)
  · refine c_fin5 ?_
    exact q _ _ (fun Q1 q1 => m_copyM 2 2 w w' (by decide) (by decide) rfl rfl hw1 hw2 a2 b2 (Or.inr c2) (iv_fc I) q1)
  have ew : w' = w := by rw [a1, nI_eq (by omega) (by omega)] at b1; exact b1.symm
  refine xeq w w' a1 b1 (by omega) (by omega) (fun c3 => ?_) (fun c3 => ?_)
  · subst c3
    have bad : ¬ (rgS n y v ∧ rgS m u v) → Aft G jX9_copy [.ref 59, .int (nI 2), .int y, .int (nI 2), .int u, .int v] (nF 0) (fc 0 M) := fun hb Q1 q1 => m_copyG (M := fc 0 M) 2 2 n m w (by decide) (by decide) rfl rfl (by omega) a2 b2 a4 b4 n40 m40 (fun _ => ⟨iv_fc I, q1⟩) (fun f g c h1 h2 h3 h4 h5 => absurd ⟨⟨f, c, h1, h3, h4⟩, ⟨g, c, h2, h3, h5⟩⟩ hb)
    refine c_hasRange2 a3 n40 (fun r1 => ?_) (fun r1 => ?_)
    · refine c_hasRange2 b3 m40 (fun r2 => ?_) (fun r2 => ?_)
      · obtain ⟨f, c, rfl, rfl, hfc⟩ := r1
        obtain ⟨g, c', rfl, ec, hgc⟩ := r2
        rw [nI_eq (by omega) (by omega)] at ec
        subst ec
        have kf : (nI f).toNatClampNeg = f := nI_clamp (by omega)
        have kg : (nI g).toNatClampNeg = g := nI_clamp (by omega)
        have kc : (nI c).toNatClampNeg = c := nI_clamp (by omega)
        refine And.intro ⟨nI_pos (by omega), nI_pos (by omega), nI_pos (by omega), by rw [kf, kc]; omega, by rw [kg, kc]; omega⟩ ?_
        rw [kf, kg, kc]
        refine q _ _ (fun Q1 q1 => m_copyG (M := xrow M 56 (va_cpy (M 56) (M 56) f g c)) 2 2 n m w (by decide) (by decide) rfl rfl (by omega) a2 b2 a4 b4 n40 m40 (fun hb => absurd ⟨⟨f, c, rfl, rfl, hfc⟩, ⟨g, c, rfl, rfl, hgc⟩⟩ hb) (fun f' g' c' h1 h2 h3 h4 h5 f72 f71 h71 h71' => ?_))
        rw [nI_eq (by omega) (by omega)] at h1 h2 h3
        subst h1 h2 h3
        refine q1 _ (I.sheets (fun r hr => ?_) (fun r hr hr2 => ?_) ⟨s0.frame rfl rfl rfl rfl (fun k' hk' => (h71' _ (by omega)).trans rfl), s1.frame rfl rfl rfl rfl (fun k' hk' => (h71' _ (by omega)).trans rfl), ?_, s3.frame rfl rfl rfl rfl (fun k' hk' => (h71' _ (by omega)).trans rfl)⟩)
        · rw [xrow_ne (by omega), xrow_ne (by omega), xrow_ne (by omega)]
        · rw [xrow_ne (by omega), xrow_ne (by omega), xrow_ne (by omega)]
        · refine ⟨w, m, w4', m40, b1, b2, b3, b4, fun j hj => ?_⟩
          show va_cpy (M 56) (M 56) f g c j = f71 (40 * 2 + j)
          by_cases z : g ≤ j ∧ j < g + c
          · have h8 := h71 (j - g) (by omega)
            rw [show 40 * 2 + g + (j - g) = 40 * 2 + j by omega] at h8
            rw [pk_cpy_in z.1 z.2, h8, a5 (f + (j - g)) (by omega)]
            show M 71 _ = M 71 _
            congr 1
            omega
          · rw [pk_cpy_out (by omega), h71' _ (by omega)]
            exact b5 j hj
      · refine c_fin0 ?_
        exact q _ _ (bad (fun z => r2 z.2))
    · refine c_fin0 ?_
      exact q _ _ (bad (fun z => r1 z.1))
  · refine c_fin2 ?_
    exact q _ _ (fun Q1 q1 => m_copyK 2 2 w w' (by decide) (by decide) rfl rfl (by omega) (by omega) a2 b2 c3 (iv_fc I) q1)
theorem st_copy23 (I : Iv 0 M) (y u v : Int32) (q : ∀ r M1, Aft G jX9_copy [.ref 59, .int (nI 2), .int y, .int (nI 3), .int u, .int v] r M1 → Q (some (.int r)) (HH M1)) : CW G 11 jX8_copy [.ref 0, .int (nI 2), .int y, .int (nI 3), .int u, .int v] (HH M) Q := by
  obtain ⟨s0, s1, s2, s3⟩ := I.2.2.2.2.2.2.2
  obtain ⟨w, n, w4, n40, a1, a2, a3, a4, a5⟩ := id s2
  obtain ⟨w', m, w4', m40, b1, b2, b3, b4, b5⟩ := id s3
  have hw1 : w ≤ 32 := by omega
  have hw2 : w' ≤ 32 := by omega
  refine CW_wp fX8_copy rfl rfl rfl ?_
  refine c_isSheet _ (fun _ _ _ => ?_) (fun h => absurd rfl (h 2 (by decide)))
  refine c_isSheet _ (fun _ _ _ => ?_) (fun h => absurd rfl (h 3 (by decide)))
  refine c_missing2 a1 hw1 (fun c => ?_) (fun c => ?_)
  · refine c_fin5 ?_
    exact q _ _ (fun Q1 q1 => m_copyM 2 3 w w' (by decide) (by decide) rfl rfl hw1 hw2 a2 b2 (Or.inl c) (iv_fc I) q1)
  refine c_missing3 b1 hw2 (fun c2 => ?_) (fun c2 => ?_)
  · refine c_fin5 ?_
    exact q _ _ (fun Q1 q1 => m_copyM 2 3 w w' (by decide) (by decide) rfl rfl hw1 hw2 a2 b2 (Or.inr c2) (iv_fc I) q1)
  skip
  refine xeq w w' a1 b1 (by omega) (by omega) (fun c3 => ?_) (fun c3 => ?_)
  · subst c3
    have bad : ¬ (rgS n y v ∧ rgS m u v) → Aft G jX9_copy [.ref 59, .int (nI 2), .int y, .int (nI 3), .int u, .int v] (nF 0) (fc 0 M) := fun hb Q1 q1 => m_copyG (M := fc 0 M) 2 3 n m w (by decide) (by decide) rfl rfl (by omega) a2 b2 a4 b4 n40 m40 (fun _ => ⟨iv_fc I, q1⟩) (fun f g c h1 h2 h3 h4 h5 => absurd ⟨⟨f, c, h1, h3, h4⟩, ⟨g, c, h2, h3, h5⟩⟩ hb)
    refine c_hasRange2 a3 n40 (fun r1 => ?_) (fun r1 => ?_)
    · refine c_hasRange3 b3 m40 (fun r2 => ?_) (fun r2 => ?_)
      · obtain ⟨f, c, rfl, rfl, hfc⟩ := r1
        obtain ⟨g, c', rfl, ec, hgc⟩ := r2
        rw [nI_eq (by omega) (by omega)] at ec
        subst ec
        have kf : (nI f).toNatClampNeg = f := nI_clamp (by omega)
        have kg : (nI g).toNatClampNeg = g := nI_clamp (by omega)
        have kc : (nI c).toNatClampNeg = c := nI_clamp (by omega)
        refine And.intro ⟨nI_pos (by omega), nI_pos (by omega), nI_pos (by omega), by rw [kf, kc]; omega, by rw [kg, kc]; omega⟩ ?_
        rw [kf, kg, kc]
        refine q _ _ (fun Q1 q1 => m_copyG (M := xrow M 58 (va_cpy (M 56) (M 58) f g c)) 2 3 n m w (by decide) (by decide) rfl rfl (by omega) a2 b2 a4 b4 n40 m40 (fun hb => absurd ⟨⟨f, c, rfl, rfl, hfc⟩, ⟨g, c, rfl, rfl, hgc⟩⟩ hb) (fun f' g' c' h1 h2 h3 h4 h5 f72 f71 h71 h71' => ?_))
        rw [nI_eq (by omega) (by omega)] at h1 h2 h3
        subst h1 h2 h3
        refine q1 _ (I.sheets (fun r hr => ?_) (fun r hr hr2 => ?_) ⟨s0.frame rfl rfl rfl rfl (fun k' hk' => (h71' _ (by omega)).trans rfl), s1.frame rfl rfl rfl rfl (fun k' hk' => (h71' _ (by omega)).trans rfl), s2.frame rfl rfl rfl rfl (fun k' hk' => (h71' _ (by omega)).trans rfl), ?_⟩)
        · rw [xrow_ne (by omega), xrow_ne (by omega), xrow_ne (by omega)]
        · rw [xrow_ne (by omega), xrow_ne (by omega), xrow_ne (by omega)]
        · refine ⟨w, m, w4', m40, b1, b2, b3, b4, fun j hj => ?_⟩
          show va_cpy (M 56) (M 58) f g c j = f71 (40 * 3 + j)
          by_cases z : g ≤ j ∧ j < g + c
          · have h8 := h71 (j - g) (by omega)
            rw [show 40 * 3 + g + (j - g) = 40 * 3 + j by omega] at h8
            rw [pk_cpy_in z.1 z.2, h8, a5 (f + (j - g)) (by omega)]
            show M 71 _ = M 71 _
            congr 1
            omega
          · rw [pk_cpy_out (by omega), h71' _ (by omega)]
            exact b5 j hj
      · refine c_fin0 ?_
        exact q _ _ (bad (fun z => r2 z.2))
    · refine c_fin0 ?_
      exact q _ _ (bad (fun z => r1 z.1))
  · refine c_fin2 ?_
    exact q _ _ (fun Q1 q1 => m_copyK 2 3 w w' (by decide) (by decide) rfl rfl (by omega) (by omega) a2 b2 c3 (iv_fc I) q1)
theorem st_copy30 (I : Iv 0 M) (y u v : Int32) (q : ∀ r M1, Aft G jX9_copy [.ref 59, .int (nI 3), .int y, .int (nI 0), .int u, .int v] r M1 → Q (some (.int r)) (HH M1)) : CW G 11 jX8_copy [.ref 0, .int (nI 3), .int y, .int (nI 0), .int u, .int v] (HH M) Q := by
  obtain ⟨s0, s1, s2, s3⟩ := I.2.2.2.2.2.2.2
  obtain ⟨w, n, w4, n40, a1, a2, a3, a4, a5⟩ := id s3
  obtain ⟨w', m, w4', m40, b1, b2, b3, b4, b5⟩ := id s0
  have hw1 : w ≤ 32 := by omega
  have hw2 : w' ≤ 32 := by omega
  refine CW_wp fX8_copy rfl rfl rfl ?_
  refine c_isSheet _ (fun _ _ _ => ?_) (fun h => absurd rfl (h 3 (by decide)))
  refine c_isSheet _ (fun _ _ _ => ?_) (fun h => absurd rfl (h 0 (by decide)))
  refine c_missing3 a1 hw1 (fun c => ?_) (fun c => ?_)
  · refine c_fin5 ?_
    exact q _ _ (fun Q1 q1 => m_copyM 3 0 w w' (by decide) (by decide) rfl rfl hw1 hw2 a2 b2 (Or.inl c) (iv_fc I) q1)
  refine c_missing0 b1 hw2 (fun c2 => ?_) (fun c2 => ?_)
  · refine c_fin5 ?_
    exact q _ _ (fun Q1 q1 => m_copyM 3 0 w w' (by decide) (by decide) rfl rfl hw1 hw2 a2 b2 (Or.inr c2) (iv_fc I) q1)
  skip
  refine xeq w w' a1 b1 (by omega) (by omega) (fun c3 => ?_) (fun c3 => ?_)
  · subst c3
    have bad : ¬ (rgS n y v ∧ rgS m u v) → Aft G jX9_copy [.ref 59, .int (nI 3), .int y, .int (nI 0), .int u, .int v] (nF 0) (fc 0 M) := fun hb Q1 q1 => m_copyG (M := fc 0 M) 3 0 n m w (by decide) (by decide) rfl rfl (by omega) a2 b2 a4 b4 n40 m40 (fun _ => ⟨iv_fc I, q1⟩) (fun f g c h1 h2 h3 h4 h5 => absurd ⟨⟨f, c, h1, h3, h4⟩, ⟨g, c, h2, h3, h5⟩⟩ hb)
    refine c_hasRange3 a3 n40 (fun r1 => ?_) (fun r1 => ?_)
    · refine c_hasRange0 b3 m40 (fun r2 => ?_) (fun r2 => ?_)
      · obtain ⟨f, c, rfl, rfl, hfc⟩ := r1
        obtain ⟨g, c', rfl, ec, hgc⟩ := r2
        rw [nI_eq (by omega) (by omega)] at ec
        subst ec
        have kf : (nI f).toNatClampNeg = f := nI_clamp (by omega)
        have kg : (nI g).toNatClampNeg = g := nI_clamp (by omega)
        have kc : (nI c).toNatClampNeg = c := nI_clamp (by omega)
        refine And.intro ⟨nI_pos (by omega), nI_pos (by omega), nI_pos (by omega), by rw [kf, kc]; omega, by rw [kg, kc]; omega⟩ ?_
        rw [kf, kg, kc]
        refine q _ _ (fun Q1 q1 => m_copyG (M := xrow M 52 (va_cpy (M 58) (M 52) f g c)) 3 0 n m w (by decide) (by decide) rfl rfl (by omega) a2 b2 a4 b4 n40 m40 (fun hb => absurd ⟨⟨f, c, rfl, rfl, hfc⟩, ⟨g, c, rfl, rfl, hgc⟩⟩ hb) (fun f' g' c' h1 h2 h3 h4 h5 f72 f71 h71 h71' => ?_))
        rw [nI_eq (by omega) (by omega)] at h1 h2 h3
        subst h1 h2 h3
        refine q1 _ (I.sheets (fun r hr => ?_) (fun r hr hr2 => ?_) ⟨?_, s1.frame rfl rfl rfl rfl (fun k' hk' => (h71' _ (by omega)).trans rfl), s2.frame rfl rfl rfl rfl (fun k' hk' => (h71' _ (by omega)).trans rfl), s3.frame rfl rfl rfl rfl (fun k' hk' => (h71' _ (by omega)).trans rfl)⟩)
        · rw [xrow_ne (by omega), xrow_ne (by omega), xrow_ne (by omega)]
        · rw [xrow_ne (by omega), xrow_ne (by omega), xrow_ne (by omega)]
        · refine ⟨w, m, w4', m40, b1, b2, b3, b4, fun j hj => ?_⟩
          show va_cpy (M 58) (M 52) f g c j = f71 (40 * 0 + j)
          by_cases z : g ≤ j ∧ j < g + c
          · have h8 := h71 (j - g) (by omega)
            rw [show 40 * 0 + g + (j - g) = 40 * 0 + j by omega] at h8
            rw [pk_cpy_in z.1 z.2, h8, a5 (f + (j - g)) (by omega)]
            show M 71 _ = M 71 _
            congr 1
            omega
          · rw [pk_cpy_out (by omega), h71' _ (by omega)]
            exact b5 j hj
      · refine c_fin0 ?_
        exact q _ _ (bad (fun z => r2 z.2))
    · refine c_fin0 ?_
      exact q _ _ (bad (fun z => r1 z.1))
  · refine c_fin2 ?_
    exact q _ _ (fun Q1 q1 => m_copyK 3 0 w w' (by decide) (by decide) rfl rfl (by omega) (by omega) a2 b2 c3 (iv_fc I) q1)
theorem st_copy31 (I : Iv 0 M) (y u v : Int32) (q : ∀ r M1, Aft G jX9_copy [.ref 59, .int (nI 3), .int y, .int (nI 1), .int u, .int v] r M1 → Q (some (.int r)) (HH M1)) : CW G 11 jX8_copy [.ref 0, .int (nI 3), .int y, .int (nI 1), .int u, .int v] (HH M) Q := by
  obtain ⟨s0, s1, s2, s3⟩ := I.2.2.2.2.2.2.2
  obtain ⟨w, n, w4, n40, a1, a2, a3, a4, a5⟩ := id s3
  obtain ⟨w', m, w4', m40, b1, b2, b3, b4, b5⟩ := id s1
  have hw1 : w ≤ 32 := by omega
  have hw2 : w' ≤ 32 := by omega
  refine CW_wp fX8_copy rfl rfl rfl ?_
  refine c_isSheet _ (fun _ _ _ => ?_) (fun h => absurd rfl (h 3 (by decide)))
  refine c_isSheet _ (fun _ _ _ => ?_) (fun h => absurd rfl (h 1 (by decide)))
  refine c_missing3 a1 hw1 (fun c => ?_) (fun c => ?_)
  · refine c_fin5 ?_
    exact q _ _ (fun Q1 q1 => m_copyM 3 1 w w' (by decide) (by decide) rfl rfl hw1 hw2 a2 b2 (Or.inl c) (iv_fc I) q1)
  refine c_missing1 b1 hw2 (fun c2 => ?_) (fun c2 => ?_)
  · refine c_fin5 ?_
    exact q _ _ (fun Q1 q1 => m_copyM 3 1 w w' (by decide) (by decide) rfl rfl hw1 hw2 a2 b2 (Or.inr c2) (iv_fc I) q1)
  skip
  refine xeq w w' a1 b1 (by omega) (by omega) (fun c3 => ?_) (fun c3 => ?_)
  · subst c3
    have bad : ¬ (rgS n y v ∧ rgS m u v) → Aft G jX9_copy [.ref 59, .int (nI 3), .int y, .int (nI 1), .int u, .int v] (nF 0) (fc 0 M) := fun hb Q1 q1 => m_copyG (M := fc 0 M) 3 1 n m w (by decide) (by decide) rfl rfl (by omega) a2 b2 a4 b4 n40 m40 (fun _ => ⟨iv_fc I, q1⟩) (fun f g c h1 h2 h3 h4 h5 => absurd ⟨⟨f, c, h1, h3, h4⟩, ⟨g, c, h2, h3, h5⟩⟩ hb)
    refine c_hasRange3 a3 n40 (fun r1 => ?_) (fun r1 => ?_)
    · refine c_hasRange1 b3 m40 (fun r2 => ?_) (fun r2 => ?_)
      · obtain ⟨f, c, rfl, rfl, hfc⟩ := r1
        obtain ⟨g, c', rfl, ec, hgc⟩ := r2
        rw [nI_eq (by omega) (by omega)] at ec
        subst ec
        have kf : (nI f).toNatClampNeg = f := nI_clamp (by omega)
        have kg : (nI g).toNatClampNeg = g := nI_clamp (by omega)
        have kc : (nI c).toNatClampNeg = c := nI_clamp (by omega)
        refine And.intro ⟨nI_pos (by omega), nI_pos (by omega), nI_pos (by omega), by rw [kf, kc]; omega, by rw [kg, kc]; omega⟩ ?_
        rw [kf, kg, kc]
        refine q _ _ (fun Q1 q1 => m_copyG (M := xrow M 54 (va_cpy (M 58) (M 54) f g c)) 3 1 n m w (by decide) (by decide) rfl rfl (by omega) a2 b2 a4 b4 n40 m40 (fun hb => absurd ⟨⟨f, c, rfl, rfl, hfc⟩, ⟨g, c, rfl, rfl, hgc⟩⟩ hb) (fun f' g' c' h1 h2 h3 h4 h5 f72 f71 h71 h71' => ?_))
        rw [nI_eq (by omega) (by omega)] at h1 h2 h3
        subst h1 h2 h3
        refine q1 _ (I.sheets (fun r hr => ?_) (fun r hr hr2 => ?_) ⟨s0.frame rfl rfl rfl rfl (fun k' hk' => (h71' _ (by omega)).trans rfl), ?_, s2.frame rfl rfl rfl rfl (fun k' hk' => (h71' _ (by omega)).trans rfl), s3.frame rfl rfl rfl rfl (fun k' hk' => (h71' _ (by omega)).trans rfl)⟩)
        · rw [xrow_ne (by omega), xrow_ne (by omega), xrow_ne (by omega)]
        · rw [xrow_ne (by omega), xrow_ne (by omega), xrow_ne (by omega)]
        · refine ⟨w, m, w4', m40, b1, b2, b3, b4, fun j hj => ?_⟩
          show va_cpy (M 58) (M 54) f g c j = f71 (40 * 1 + j)
          by_cases z : g ≤ j ∧ j < g + c
          · have h8 := h71 (j - g) (by omega)
            rw [show 40 * 1 + g + (j - g) = 40 * 1 + j by omega] at h8
            rw [pk_cpy_in z.1 z.2, h8, a5 (f + (j - g)) (by omega)]
            show M 71 _ = M 71 _
            congr 1
            omega
          · rw [pk_cpy_out (by omega), h71' _ (by omega)]
            exact b5 j hj
      · refine c_fin0 ?_
        exact q _ _ (bad (fun z => r2 z.2))
    · refine c_fin0 ?_
      exact q _ _ (bad (fun z => r1 z.1))
  · refine c_fin2 ?_
    exact q _ _ (fun Q1 q1 => m_copyK 3 1 w w' (by decide) (by decide) rfl rfl (by omega) (by omega) a2 b2 c3 (iv_fc I) q1)
theorem st_copy32 (I : Iv 0 M) (y u v : Int32) (q : ∀ r M1, Aft G jX9_copy [.ref 59, .int (nI 3), .int y, .int (nI 2), .int u, .int v] r M1 → Q (some (.int r)) (HH M1)) : CW G 11 jX8_copy [.ref 0, .int (nI 3), .int y, .int (nI 2), .int u, .int v] (HH M) Q := by
  obtain ⟨s0, s1, s2, s3⟩ := I.2.2.2.2.2.2.2
  obtain ⟨w, n, w4, n40, a1, a2, a3, a4, a5⟩ := id s3
  obtain ⟨w', m, w4', m40, b1, b2, b3, b4, b5⟩ := id s2
  have hw1 : w ≤ 32 := by omega
  have hw2 : w' ≤ 32 := by omega
  refine CW_wp fX8_copy rfl rfl rfl ?_
  refine c_isSheet _ (fun _ _ _ => ?_) (fun h => absurd rfl (h 3 (by decide)))
  refine c_isSheet _ (fun _ _ _ => ?_) (fun h => absurd rfl (h 2 (by decide)))
  refine c_missing3 a1 hw1 (fun c => ?_) (fun c => ?_)
  · refine c_fin5 ?_
    exact q _ _ (fun Q1 q1 => m_copyM 3 2 w w' (by decide) (by decide) rfl rfl hw1 hw2 a2 b2 (Or.inl c) (iv_fc I) q1)
  refine c_missing2 b1 hw2 (fun c2 => ?_) (fun c2 => ?_)
  · refine c_fin5 ?_
    exact q _ _ (fun Q1 q1 => m_copyM 3 2 w w' (by decide) (by decide) rfl rfl hw1 hw2 a2 b2 (Or.inr c2) (iv_fc I) q1)
  skip
  refine xeq w w' a1 b1 (by omega) (by omega) (fun c3 => ?_) (fun c3 => ?_)
  · subst c3
    have bad : ¬ (rgS n y v ∧ rgS m u v) → Aft G jX9_copy [.ref 59, .int (nI 3), .int y, .int (nI 2), .int u, .int v] (nF 0) (fc 0 M) := fun hb Q1 q1 => m_copyG (M := fc 0 M) 3 2 n m w (by decide) (by decide) rfl rfl (by omega) a2 b2 a4 b4 n40 m40 (fun _ => ⟨iv_fc I, q1⟩) (fun f g c h1 h2 h3 h4 h5 => absurd ⟨⟨f, c, h1, h3, h4⟩, ⟨g, c, h2, h3, h5⟩⟩ hb)
    refine c_hasRange3 a3 n40 (fun r1 => ?_) (fun r1 => ?_)
    · refine c_hasRange2 b3 m40 (fun r2 => ?_) (fun r2 => ?_)
      · obtain ⟨f, c, rfl, rfl, hfc⟩ := r1
        obtain ⟨g, c', rfl, ec, hgc⟩ := r2
        rw [nI_eq (by omega) (by omega)] at ec
        subst ec
        have kf : (nI f).toNatClampNeg = f := nI_clamp (by omega)
        have kg : (nI g).toNatClampNeg = g := nI_clamp (by omega)
        have kc : (nI c).toNatClampNeg = c := nI_clamp (by omega)
        refine And.intro ⟨nI_pos (by omega), nI_pos (by omega), nI_pos (by omega), by rw [kf, kc]; omega, by rw [kg, kc]; omega⟩ ?_
        rw [kf, kg, kc]
        refine q _ _ (fun Q1 q1 => m_copyG (M := xrow M 56 (va_cpy (M 58) (M 56) f g c)) 3 2 n m w (by decide) (by decide) rfl rfl (by omega) a2 b2 a4 b4 n40 m40 (fun hb => absurd ⟨⟨f, c, rfl, rfl, hfc⟩, ⟨g, c, rfl, rfl, hgc⟩⟩ hb) (fun f' g' c' h1 h2 h3 h4 h5 f72 f71 h71 h71' => ?_))
        rw [nI_eq (by omega) (by omega)] at h1 h2 h3
        subst h1 h2 h3
        refine q1 _ (I.sheets (fun r hr => ?_) (fun r hr hr2 => ?_) ⟨s0.frame rfl rfl rfl rfl (fun k' hk' => (h71' _ (by omega)).trans rfl), s1.frame rfl rfl rfl rfl (fun k' hk' => (h71' _ (by omega)).trans rfl), ?_, s3.frame rfl rfl rfl rfl (fun k' hk' => (h71' _ (by omega)).trans rfl)⟩)
        · rw [xrow_ne (by omega), xrow_ne (by omega), xrow_ne (by omega)]
        · rw [xrow_ne (by omega), xrow_ne (by omega), xrow_ne (by omega)]
        · refine ⟨w, m, w4', m40, b1, b2, b3, b4, fun j hj => ?_⟩
          show va_cpy (M 58) (M 56) f g c j = f71 (40 * 2 + j)
          by_cases z : g ≤ j ∧ j < g + c
          · have h8 := h71 (j - g) (by omega)
            rw [show 40 * 2 + g + (j - g) = 40 * 2 + j by omega] at h8
            rw [pk_cpy_in z.1 z.2, h8, a5 (f + (j - g)) (by omega)]
            show M 71 _ = M 71 _
            congr 1
            omega
          · rw [pk_cpy_out (by omega), h71' _ (by omega)]
            exact b5 j hj
      · refine c_fin0 ?_
        exact q _ _ (bad (fun z => r2 z.2))
    · refine c_fin0 ?_
      exact q _ _ (bad (fun z => r1 z.1))
  · refine c_fin2 ?_
    exact q _ _ (fun Q1 q1 => m_copyK 3 2 w w' (by decide) (by decide) rfl rfl (by omega) (by omega) a2 b2 c3 (iv_fc I) q1)
theorem st_copy33 (I : Iv 0 M) (y u v : Int32) (q : ∀ r M1, Aft G jX9_copy [.ref 59, .int (nI 3), .int y, .int (nI 3), .int u, .int v] r M1 → Q (some (.int r)) (HH M1)) : CW G 11 jX8_copy [.ref 0, .int (nI 3), .int y, .int (nI 3), .int u, .int v] (HH M) Q := by
  obtain ⟨s0, s1, s2, s3⟩ := I.2.2.2.2.2.2.2
  obtain ⟨w, n, w4, n40, a1, a2, a3, a4, a5⟩ := id s3
  obtain ⟨w', m, w4', m40, b1, b2, b3, b4, b5⟩ := id s3
  have hw1 : w ≤ 32 := by omega
  have hw2 : w' ≤ 32 := by omega
  refine CW_wp fX8_copy rfl rfl rfl ?_
  refine c_isSheet _ (fun _ _ _ => ?_) (fun h => absurd rfl (h 3 (by decide)))
  refine c_isSheet _ (fun _ _ _ => ?_) (fun h => absurd rfl (h 3 (by decide)))
  refine c_missing3 a1 hw1 (fun c => ?_) (fun c => ?_)
  · refine c_fin5 ?_
    exact q _ _ (fun Q1 q1 => m_copyM 3 3 w w' (by decide) (by decide) rfl rfl hw1 hw2 a2 b2 (Or.inl c) (iv_fc I) q1)
  refine c_missing3 b1 hw2 (fun c2 => ?_) (fun c2 => ?_)
  · refine c_fin5 ?_
    exact q _ _ (fun Q1 q1 => m_copyM 3 3 w w' (by decide) (by decide) rfl rfl hw1 hw2 a2 b2 (Or.inr c2) (iv_fc I) q1)
  have ew : w' = w := by rw [a1, nI_eq (by omega) (by omega)] at b1; exact b1.symm
  refine xeq w w' a1 b1 (by omega) (by omega) (fun c3 => ?_) (fun c3 => ?_)
  · subst c3
    have bad : ¬ (rgS n y v ∧ rgS m u v) → Aft G jX9_copy [.ref 59, .int (nI 3), .int y, .int (nI 3), .int u, .int v] (nF 0) (fc 0 M) := fun hb Q1 q1 => m_copyG (M := fc 0 M) 3 3 n m w (by decide) (by decide) rfl rfl (by omega) a2 b2 a4 b4 n40 m40 (fun _ => ⟨iv_fc I, q1⟩) (fun f g c h1 h2 h3 h4 h5 => absurd ⟨⟨f, c, h1, h3, h4⟩, ⟨g, c, h2, h3, h5⟩⟩ hb)
    refine c_hasRange3 a3 n40 (fun r1 => ?_) (fun r1 => ?_)
    · refine c_hasRange3 b3 m40 (fun r2 => ?_) (fun r2 => ?_)
      · obtain ⟨f, c, rfl, rfl, hfc⟩ := r1
        obtain ⟨g, c', rfl, ec, hgc⟩ := r2
        rw [nI_eq (by omega) (by omega)] at ec
        subst ec
        have kf : (nI f).toNatClampNeg = f := nI_clamp (by omega)
        have kg : (nI g).toNatClampNeg = g := nI_clamp (by omega)
        have kc : (nI c).toNatClampNeg = c := nI_clamp (by omega)
        refine And.intro ⟨nI_pos (by omega), nI_pos (by omega), nI_pos (by omega), by rw [kf, kc]; omega, by rw [kg, kc]; omega⟩ ?_
        rw [kf, kg, kc]
        refine q _ _ (fun Q1 q1 => m_copyG (M := xrow M 58 (va_cpy (M 58) (M 58) f g c)) 3 3 n m w (by decide) (by decide) rfl rfl (by omega) a2 b2 a4 b4 n40 m40 (fun hb => absurd ⟨⟨f, c, rfl, rfl, hfc⟩, ⟨g, c, rfl, rfl, hgc⟩⟩ hb) (fun f' g' c' h1 h2 h3 h4 h5 f72 f71 h71 h71' => ?_))
        rw [nI_eq (by omega) (by omega)] at h1 h2 h3
        subst h1 h2 h3
        refine q1 _ (I.sheets (fun r hr => ?_) (fun r hr hr2 => ?_) ⟨s0.frame rfl rfl rfl rfl (fun k' hk' => (h71' _ (by omega)).trans rfl), s1.frame rfl rfl rfl rfl (fun k' hk' => (h71' _ (by omega)).trans rfl), s2.frame rfl rfl rfl rfl (fun k' hk' => (h71' _ (by omega)).trans rfl), ?_⟩)
        · rw [xrow_ne (by omega), xrow_ne (by omega), xrow_ne (by omega)]
        · rw [xrow_ne (by omega), xrow_ne (by omega), xrow_ne (by omega)]
        · refine ⟨w, m, w4', m40, b1, b2, b3, b4, fun j hj => ?_⟩
          show va_cpy (M 58) (M 58) f g c j = f71 (40 * 3 + j)
          by_cases z : g ≤ j ∧ j < g + c
          · have h8 := h71 (j - g) (by omega)
            rw [show 40 * 3 + g + (j - g) = 40 * 3 + j by omega] at h8
            rw [pk_cpy_in z.1 z.2, h8, a5 (f + (j - g)) (by omega)]
            show M 71 _ = M 71 _
            congr 1
            omega
          · rw [pk_cpy_out (by omega), h71' _ (by omega)]
            exact b5 j hj
      · refine c_fin0 ?_
        exact q _ _ (bad (fun z => r2 z.2))
    · refine c_fin0 ?_
      exact q _ _ (bad (fun z => r1 z.1))
  · refine c_fin2 ?_
    exact q _ _ (fun Q1 q1 => m_copyK 3 3 w w' (by decide) (by decide) rfl rfl (by omega) (by omega) a2 b2 c3 (iv_fc I) q1)
theorem st_copy (I : Iv 0 M) (x y z u v : Int32) (q : ∀ r M1, Aft G jX9_copy [.ref 59, .int x, .int y, .int z, .int u, .int v] r M1 → Q (some (.int r)) (HH M1)) : CW G 11 jX8_copy [.ref 0, .int x, .int y, .int z, .int u, .int v] (HH M) Q := by
  rcases n_ix x 4 (by decide) with ⟨s, hs, es⟩ | ⟨hx, nx⟩
  · rcases n_ix z 4 (by decide) with ⟨t, ht, et⟩ | ⟨hz, nz⟩
    · match s, hs, es, t, ht, et with
      | 0, _, es, 0, _, et => subst es et; exact st_copy00 I y u v q
      | 0, _, es, 1, _, et => subst es et; exact st_copy01 I y u v q
      | 0, _, es, 2, _, et => subst es et; exact st_copy02 I y u v q
      | 0, _, es, 3, _, et => subst es et; exact st_copy03 I y u v q
      | 1, _, es, 0, _, et => subst es et; exact st_copy10 I y u v q
      | 1, _, es, 1, _, et => subst es et; exact st_copy11 I y u v q
      | 1, _, es, 2, _, et => subst es et; exact st_copy12 I y u v q
      | 1, _, es, 3, _, et => subst es et; exact st_copy13 I y u v q
      | 2, _, es, 0, _, et => subst es et; exact st_copy20 I y u v q
      | 2, _, es, 1, _, et => subst es et; exact st_copy21 I y u v q
      | 2, _, es, 2, _, et => subst es et; exact st_copy22 I y u v q
      | 2, _, es, 3, _, et => subst es et; exact st_copy23 I y u v q
      | 3, _, es, 0, _, et => subst es et; exact st_copy30 I y u v q
      | 3, _, es, 1, _, et => subst es et; exact st_copy31 I y u v q
      | 3, _, es, 2, _, et => subst es et; exact st_copy32 I y u v q
      | 3, _, es, 3, _, et => subst es et; exact st_copy33 I y u v q
      | s + 4, hs, _, _, _, _ => exact absurd hs (by omega)
      | _, _, _, t + 4, ht, _ => exact absurd ht (by omega)
    · refine CW_wp fX8_copy rfl rfl rfl ?_
      refine c_isSheet _ (fun _ _ _ => ?_) (fun h => absurd es (h s hs))
      refine c_isSheet _ (fun p hp e => absurd e (nz p hp)) (fun _ => ?_)
      refine c_fin0 ?_
      refine q _ _ (fun Q1 q1 => ?_)
      refine CW_wp fX9_copy rfl rfl rfl ?_
      refine m_isSheet_t s hs es ?_
      refine m_isSheet_f nz ?_
      exact m_fin0 (iv_fc I) q1
  · refine CW_wp fX8_copy rfl rfl rfl ?_
    refine c_isSheet _ (fun p hp e => absurd e (nx p hp)) (fun _ => ?_)
    refine c_fin0 ?_
    refine q _ _ (fun Q1 q1 => ?_)
    refine CW_wp fX9_copy rfl rfl rfl ?_
    refine m_isSheet_f nx ?_
    exact m_fin0 (iv_fc I) q1
end Q10
