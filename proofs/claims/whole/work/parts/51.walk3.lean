/-! walk. -/
section K3
variable {G : xG} {M : xM} {Q : Option Value → xH → Prop}
theorem Iv.walk {M M' : xM} (I : Iv 0 M) (f48 f49 f47 : Nat → Int32) {z : Int32} (n : Nat) (hn : n ≤ 24) (hz : z = nI n) (v : Nat → Int32) (h47 : ∀ k, k < n → f47 k = v k) (hm : Wm (M 60) (xup (xrow (xrow (xrow M 48 f48) 49 f49) 47 f47) 46 0 z) M') (h8 : M' 59 8 = z) (h65 : ∀ k, k < n → M' 65 k = v k) : Iv 0 M' := by
  obtain ⟨i1, i2, i3, i4, i5, i6, i7, i8⟩ := I
  obtain ⟨h1, h2, h3⟩ := hm
  have e : ∀ r, r < 46 ∨ 49 < r → r ≠ 59 → r ≠ 63 → r ≠ 64 → r ≠ 65 → M' r = M r := fun r a b c d e => (h1 r b c d e).trans (by
    unfold xup
    rw [xrow_ne (by omega), xrow_ne (by omega), xrow_ne (by omega), xrow_ne (by omega)])
  have k59 : ∀ k, k ≠ 5 → k ≠ 8 → M' 59 k = M 59 k := fun k a b => h2 k a b
  have e60 : M' 60 = M 60 := e 60 (by decide) (by decide) (by decide) (by decide) (by decide)
  have e46 : M' 46 0 = z := by rw [h1 46 (by decide) (by decide) (by decide) (by decide)]; rfl
  have e47 : M' 47 = f47 := by rw [h1 47 (by decide) (by decide) (by decide) (by decide)]; rfl
  refine ⟨by rw [e60]; exact i1, by rw [e60]; exact i2.congr (fun r _ hr => e r (by omega) (by omega) (by omega) (by omega) (by omega)), ?_, ?_, by rw [e60]; exact h3, ⟨n, hn, by rw [e46]; exact hz, by rw [h8]; exact hz, fun i hi => by rw [e47, h47 i hi, h65 i hi]⟩, ?_, ?_⟩
  · unfold SK at i3 ⊢
    rw [e 0 (by decide) (by decide) (by decide) (by decide) (by decide), k59 2 (by decide) (by decide), e 61 (by decide) (by decide) (by decide) (by decide) (by decide)]
    rcases i3 with i3 | ⟨a, b, c, d⟩
    · exact Or.inl i3
    · exact Or.inr ⟨a, b, c, d.congr (fun r _ hr => e r (by omega) (by omega) (by omega) (by omega) (by omega))⟩
  · unfold SF at i4 ⊢
    rw [e 50 (by decide) (by decide) (by decide) (by decide) (by decide), e 62 (by decide) (by decide) (by decide) (by decide) (by decide)]
    exact i4
  · unfold ST at i7 ⊢
    rw [e 43 (by decide) (by decide) (by decide) (by decide) (by decide), k59 10 (by decide) (by decide), e 44 (by decide) (by decide) (by decide) (by decide) (by decide), e 66 (by decide) (by decide) (by decide) (by decide) (by decide)]
    exact i7
  · unfold SS SS1 at i8 ⊢
    rw [e 51 (by decide) (by decide) (by decide) (by decide) (by decide), e 52 (by decide) (by decide) (by decide) (by decide) (by decide), e 53 (by decide) (by decide) (by decide) (by decide) (by decide), e 54 (by decide) (by decide) (by decide) (by decide) (by decide), e 55 (by decide) (by decide) (by decide) (by decide) (by decide), e 56 (by decide) (by decide) (by decide) (by decide) (by decide), e 57 (by decide) (by decide) (by decide) (by decide) (by decide), e 58 (by decide) (by decide) (by decide) (by decide) (by decide), e 69 (by decide) (by decide) (by decide) (by decide) (by decide), e 70 (by decide) (by decide) (by decide) (by decide) (by decide), e 71 (by decide) (by decide) (by decide) (by decide) (by decide)]
    exact i8
theorem xl3 {l m : Prop} [Decidable l] [Decidable m] (hl : ¬ l) (hm : ¬ m) {c : Prop} [Decidable c] {A B : Prop} (h : if c then A else B) : if l then False else (if m then False else (if c then A else B)) := xelse hl (xelse hm h)
theorem st_walk (I : Iv 0 M) (x y z : Int32) (q : ∀ r M1, Aft G jX9_walk [.ref 59, .int x, .int y, .int z] r M1 → Q (some (.int r)) (HH M1)) : CW G 11 jX8_walk [.ref 0, .int x, .int y, .int z] (HH M) Q := by
  have hw := I.1
  have hp := I.2.1
  have hsr := I.2.2.2.2.1
  have h40 := hw.2.1.2
  have hn : M 60 = M 60 := rfl
  refine CW_wp fX8_walk rfl rfl rfl ?_
  refine c_isPlace x (fun a ha ea => ?_) (fun na => ?_)
  · refine c_isWhen y (fun D t hD ht ew => ?_) (fun nw => ?_)
    · have w1 : y / 100 = nI D := by rw [ew]; exact (when_div D t hD ht).1
      have w2 : y - y / 100 * 100 = nI t := by rw [ew]; exact (when_div D t hD ht).2
      refine xl1 (l := (1 : Int32) = 0) (by decide) ?_
      rcases n_i1 z 24 (by decide) with ⟨n, hn1, hn2, ez⟩ | ⟨hz, nz⟩
      · refine xelse (by rw [ez]; exact nI_nlt (b := 1) hn1 (by omega)) ?_
        refine xelse (by rw [ez]; exact nI_nlt (a := 24) hn2 (by decide)) ?_
        have hour' : ∀ (Qx : Option Value → xH → Prop), (∀ r, r = nI t → Qx (some (.int r)) (HH M)) → CW G 10 jX8_hourOf [.int y] (HH M) Qx := fun Qx k => c_hourOf y (k _ w2)
        refine hour' _ (fun r hr => ?_)
        refine xle (t + n) 24 (ia hr ez) rfl (by omega) (by decide) (fun c => ?_) (fun c => ?_)
        · refine c_choose hp hw a D t n ha hD ht ⟨hn1, c⟩ ea ew ez (fun f48 f49 f47 h47 => ?_)
          refine q _ _ (fun Q1 q1 => ?_)
          refine CW_wp fX9_walk rfl rfl rfl ?_
          refine m_isPlace_t a ha ea ?_
          refine m_isWhen_t D t hD ht ew ?_
          refine m_within_t n 1 24 ez rfl rfl hn1 hn2 (by decide) ?_
          refine xl3 (l := (1 : Int32) = 0) (m := (100 : Int32) = 0) (by decide) (by decide) ?_
          refine xle (t + n) 24 (ia w2 ez) rfl (by omega) (by decide) (fun c2 => ?_) (fun c2 => absurd c2 (by omega))
          have h9 := m_walkT (G := G) (Q := Q1) (x := x) (M0 := xup (xrow (xrow (xrow M 48 f48) 49 f49) 47 f47) 46 0 z) (N := M 60) rfl hw D t n hD ht ⟨hn1, c⟩ w1 w2 ez (fun M' hm hT => by
            refine Ev_wp fX9_walk rfl ?_
            have e0 : M' 64 a = nI (tbS (M 60) D t n (n - 1) a) := by
              have := hT 0 (by omega) a ha
              rw [show 10 * 0 + a = a by omega] at this
              exact this
            have h10 := m_walkP (G := G) (Q := Q1) (M0 := xup (xrow (xrow (xrow M 48 f48) 49 f49) 47 f47) 46 0 z) (N := M 60) rfl hw a D t n ha ⟨hn1, hn2⟩ ea ez (M' 64) hT (fun M'' hm2 h8 h64 h65 => by
              rw [e0]
              exact q1 _ (I.walk f48 f49 f47 n hn2 ez _ h47 hm2 h8 h65)) (xup (xup M' 59 8 z) 65 0 x) ((hm.u8 z).u65 0 x) rfl rfl (fun k hk => by
              have ek : k = 0 := by omega
              subst ek
              exact ea)
            exact h10) n (Nat.le_refl _) _ ⟨fun _ _ _ _ _ => rfl, fun _ _ _ => rfl, hsr⟩ (fun k' h1 h2 => absurd h2 (by omega))
          rw [show nI n + (-1) = z - 1 by rw [ez, Int32.sub_eq_add_neg]] at h9
          exact h9
        · refine c_fin0 ?_
          refine q _ _ (fun Q1 q1 => ?_)
          refine CW_wp fX9_walk rfl rfl rfl ?_
          refine m_isPlace_t a ha ea ?_
          refine m_isWhen_t D t hD ht ew ?_
          refine m_within_t n 1 24 ez rfl rfl hn1 hn2 (by decide) ?_
          refine xl3 (l := (1 : Int32) = 0) (m := (100 : Int32) = 0) (by decide) (by decide) ?_
          refine xle (t + n) 24 (ia w2 ez) rfl (by omega) (by decide) (fun c2 => absurd c2 (by omega)) (fun c2 => ?_)
          exact m_fin0 (iv_fc I) q1
      · refine xite (fun c => ?_) (fun c => ?_)
        · refine c_fin0 ?_
          refine q _ _ (fun Q1 q1 => ?_)
          refine CW_wp fX9_walk rfl rfl rfl ?_
          refine m_isPlace_t a ha ea ?_
          refine m_isWhen_t D t hD ht ew ?_
          refine m_within_f 1 24 rfl rfl (by decide) (by decide) nz ?_
          exact m_fin0 (iv_fc I) q1
        · refine xif (hz.resolve_left c) ?_
          refine c_fin0 ?_
          refine q _ _ (fun Q1 q1 => ?_)
          refine CW_wp fX9_walk rfl rfl rfl ?_
          refine m_isPlace_t a ha ea ?_
          refine m_isWhen_t D t hD ht ew ?_
          refine m_within_f 1 24 rfl rfl (by decide) (by decide) nz ?_
          exact m_fin0 (iv_fc I) q1
    · refine c_fin0 ?_
      refine q _ _ (fun Q1 q1 => ?_)
      refine CW_wp fX9_walk rfl rfl rfl ?_
      refine m_isPlace_t a ha ea ?_
      refine m_isWhen_f nw ?_
      exact m_fin0 (iv_fc I) q1
  · refine c_fin0 ?_
    refine q _ _ (fun Q1 q1 => ?_)
    refine CW_wp fX9_walk rfl rfl rfl ?_
    refine m_isPlace_f na ?_
    exact m_fin0 (iv_fc I) q1
end K3
