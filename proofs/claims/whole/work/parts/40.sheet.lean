/-! The sheets: the class beside the model. -/
theorem Iv.sheets {M M' : xM} (I : Iv 0 M) (h1 : ∀ r, r ≤ 50 → M' r = M r) (h2 : ∀ r, 59 ≤ r → r ≤ 68 → M' r = M r) (hs : SS M') : Iv 0 M' := by
  obtain ⟨i1, i2, i3, i4, i5, i6, i7, i8⟩ := I
  have e60 : M' 60 = M 60 := h2 60 (by decide) (by decide)
  have e59 : M' 59 = M 59 := h2 59 (by decide) (by decide)
  refine ⟨by rw [e60]; exact i1, by rw [e60]; exact i2.congr (fun r _ hr => h1 r (by omega)), ?_, ?_, ?_, ?_, ?_, hs⟩
  · unfold SK at i3 ⊢
    rw [h1 0 (by decide), e59, h2 61 (by decide) (by decide)]
    rcases i3 with i3 | ⟨a, b, c, d⟩
    · exact Or.inl i3
    · exact Or.inr ⟨a, b, c, d.congr (fun r _ hr => h1 r (by omega))⟩
  · unfold SF at i4 ⊢
    rw [h1 50 (by decide), h2 62 (by decide) (by decide)]
    exact i4
  · unfold SR at i5 ⊢
    rw [e59, e60, h2 63 (by decide) (by decide)]
    exact i5
  · unfold SW at i6 ⊢
    rw [h1 46 (by decide), e59, h1 47 (by decide), h2 65 (by decide) (by decide)]
    exact i6
  · unfold ST at i7 ⊢
    rw [h1 43 (by decide), e59, h1 44 (by decide), h2 66 (by decide) (by decide)]
    exact i7
theorem SS1.frame {a b s : Nat} {M M' : xM} (h : SS1 a b s M) (ea : M' a = M a) (eb : M' b = M b) (e69 : M' 69 s = M 69 s) (e70 : M' 70 s = M 70 s) (e71 : ∀ k, k < 40 → M' 71 (40 * s + k) = M 71 (40 * s + k)) : SS1 a b s M' := by
  obtain ⟨w, n, h1, h2, h3, h4, h5, h6, h7⟩ := h
  exact ⟨w, n, h1, h2, by rw [ea]; exact h3, by rw [e69]; exact h4, by rw [ea]; exact h5, by rw [e70]; exact h6, fun k hk => by rw [eb, e71 k hk]; exact h7 k hk⟩
def cutI (w : Nat) (v : Int32) : Int32 := if w = 8 then v.toInt8.toInt32 else if w = 16 then v.toInt16.toInt32 else v
section Q8
variable {G : xG} {M : xM} {Q : Option Value → xH → Prop}
theorem c_areBits {d : Nat} {h : xH} (y : Int32) (q1 : ∀ w : Nat, (w = 0 ∨ w = 8 ∨ w = 16 ∨ w = 32) → y = nI w → Q (some (.int 1)) h) (q0 : ¬ (y = 0 ∨ y = 8 ∨ y = 16 ∨ y = 32) → Q (some (.int 0)) h) : CW G d jX4_areBits [.int y] h Q := by
  refine CW_wp fX4_areBits rfl rfl rfl ?_
  refine xite (fun c => q1 0 (Or.inl rfl) c) (fun c => ?_)
  refine xite (fun c2 => q1 8 (Or.inr (Or.inl rfl)) c2) (fun c2 => ?_)
  refine xite (fun c3 => q1 16 (Or.inr (Or.inr (Or.inl rfl))) c3) (fun c3 => ?_)
  exact xite (fun c4 => q1 32 (Or.inr (Or.inr (Or.inr rfl))) c4) (fun c4 => q0 (by simp [c, c2, c3, c4]))
theorem m_cutTo {d : Nat} {h : xH} {v y : Int32} (w : Nat) (hw : w ≤ 32) (hy : y = nI w) (q : Q (some (.int (cutI w v))) h) : CW G d jX9_cutTo [.int v, .int y] h Q := by
  unfold cutI at q
  refine CW_wp fX9_cutTo rfl rfl rfl ?_
  refine xeq w 8 hy rfl (by omega) (by decide) (fun c => ?_) (fun c => ?_)
  · rw [if_pos c] at q
    exact q
  · rw [if_neg c] at q
    refine xeq w 16 hy rfl (by omega) (by decide) (fun c2 => ?_) (fun c2 => ?_)
    · rw [if_pos c2] at q
      exact q
    · rw [if_neg c2] at q
      exact q
theorem m_sheetL {x : Int32} (s : Nat) (hs : s < 4) (hx : x = nI s) (q : ∀ f, (∀ k, k < 40 → f (40 * s + k) = 0) → (∀ t, t < 40 * s ∨ 40 * s + 40 ≤ t → f t = M 71 t) → Q (some (.int (M 70 s))) (HH (xrow M 71 f))) : Ev G 11 jX9_sheet 86 [some (.ref 59), some (.int x), none, none, some (.int (nI 0))] [] (HH M) 0 0 Q := by
  have key : ∀ f, (∀ k, k < 0 → f (40 * s + k) = 0) → (∀ t, t < 40 * s ∨ 40 * s + 40 ≤ t → f t = M 71 t) → Ev G 11 jX9_sheet 86 [some (.ref 59), some (.int x), none, none, some (.int (nI 0))] [] (HH (xrow M 71 f)) 0 0 Q := by
    refine dn (E := fun i => ∀ f, (∀ k, k < i → f (40 * s + k) = 0) → (∀ t, t < 40 * s ∨ 40 * s + 40 ≤ t → f t = M 71 t) → Ev G 11 jX9_sheet 86 [some (.ref 59), some (.int x), none, none, some (.int (nI i))] [] (HH (xrow M 71 f)) 0 0 Q) (Nat.zero_le 40) (fun f h1 h2 => ?_) (fun i _ h2 ih f h3 h4 => ?_)
    · refine Ev_wp fX9_sheet rfl ?_
      refine xix (n := 4) s hx hs (by decide) (fun e => ?_)
      rw [e]
      exact q f h1 h2
    · refine Ev_wp fX9_sheet rfl ?_
      refine xelse (nI_ge (b := 40) h2 (by decide)) ?_
      refine xix (n := 160) (40 * s + i) (ia (im rfl hx) rfl) (by omega) (by decide) (fun e => ?_)
      rw [e, xup_row]
      have h5 := ih (upd f (40 * s + i) 0) (fun k hk => by
        unfold upd
        by_cases c : k = i
        · subst c; rw [if_pos rfl]
        · rw [if_neg (by omega)]; exact h3 k (by omega)) (fun t ht => by
        unfold upd
        rw [if_neg (by omega)]; exact h4 t ht)
      rw [nI_succ] at h5
      exact h5
  have h0 := key (M 71) (fun k hk => absurd hk (Nat.not_lt_zero _)) (fun t _ => rfl)
  rw [xrow_self] at h0
  exact h0
theorem m_wi {N : Nat} {h : xH} {y z : Int32} {d : Nat} (hN : N < 2 ^ 31) (hz : z = nI N) (hy : ∀ k, k < N → y ≠ nI k) (q : Q (some (.int 0)) h) : CW G d jX9_within [.int y, .int 0, .int (z - 1)] h Q := by
  rcases Nat.eq_zero_or_pos N with c | c
  · refine m_within _ _ _ (fun c1 c2 => ?_) (fun _ => q)
    rw [hz, c] at c2
    exact absurd (Int32.le_trans c1 c2) (by decide)
  · exact m_within_f 0 (N - 1) rfl (isb hz rfl (by omega)) (by omega) (by omega) (fun k _ hk => hy k (by omega)) q
theorem c_put0 {d : Nat} {y v : Int32} {w : Nat} (i : Nat) (h : M 51 0 = nI w) (hw : w ≤ 32) (hi : i < 40) (hy : y = nI i) (q : Q none (HH (xup M 52 i (cutI w v)))) : CW G d jX4_put [.ref 51, .int y, .int v] (HH M) Q := by
  unfold cutI at q
  refine CW_wp fX4_put rfl rfl rfl ?_
  refine xeq w 8 h rfl (by omega) (by decide) (fun c => ?_) (fun c => ?_)
  · rw [if_pos c] at q
    refine xix (n := 40) i hy hi (by decide) (fun e => ?_)
    rw [e]
    exact q
  · rw [if_neg c] at q
    refine xeq w 16 h rfl (by omega) (by decide) (fun c2 => ?_) (fun c2 => ?_)
    · rw [if_pos c2] at q
      refine xix (n := 40) i hy hi (by decide) (fun e => ?_)
      rw [e]
      exact q
    · rw [if_neg c2] at q
      refine xix (n := 40) i hy hi (by decide) (fun e => ?_)
      rw [e]
      exact q
theorem c_begin0 {d : Nat} {y z : Int32} (q0 : y = 0 → Q none (HH (xrow (xup (xup M 51 0 y) 51 1 0) 52 (ffill (M 52) 0 40)))) (q1 : ¬ y = 0 → Q none (HH (xrow (xup (xup M 51 0 y) 51 1 z) 52 (ffill (M 52) 0 40)))) : CW G (d + 1) jX4_begin [.ref 51, .int y, .int z] (HH M) Q := by
  refine CW_wp fX4_begin rfl rfl rfl ?_
  refine xite (fun c => ?_) (fun c => ?_)
  · refine c_fill SH RR _ 52 40 (by decide) rfl 0 ?_
    exact q0 c
  · refine c_fill SH RR _ 52 40 (by decide) rfl 0 ?_
    exact q1 c
theorem iv_sheet0 (I : Iv 0 M) {y v : Int32} (w n : Nat) (hw : w = 0 ∨ w = 8 ∨ w = 16 ∨ w = 32) (hn : n ≤ 40) (hy : y = nI w) (hv : v = nI n) (f : Nat → Int32) (h1 : ∀ k, k < 40 → f (40 * 0 + k) = 0) (h2 : ∀ t, t < 40 * 0 ∨ 40 * 0 + 40 ≤ t → f t = M 71 t) : Iv 0 (xrow (xup (xup (xrow (xup (xup M 51 0 y) 51 1 v) 52 (ffill (M 52) 0 40)) 69 0 y) 70 0 v) 71 f) := by
  obtain ⟨s0, s1, s2, s3⟩ := I.2.2.2.2.2.2.2
  refine I.sheets (fun r hr => ?_) (fun r hr hr2 => ?_) ⟨?_, s1.frame rfl rfl rfl rfl (fun k' hk' => h2 _ (by omega)), s2.frame rfl rfl rfl rfl (fun k' hk' => h2 _ (by omega)), s3.frame rfl rfl rfl rfl (fun k' hk' => h2 _ (by omega))⟩
  · unfold xup
    rw [xrow_ne (by omega), xrow_ne (by omega), xrow_ne (by omega), xrow_ne (by omega), xrow_ne (by omega), xrow_ne (by omega)]
  · unfold xup
    rw [xrow_ne (by omega), xrow_ne (by omega), xrow_ne (by omega), xrow_ne (by omega), xrow_ne (by omega), xrow_ne (by omega)]
  · refine ⟨w, n, hw, hn, hy, hy, hv, hv, fun j hj => ?_⟩
    show ffill (M 52) 0 40 j = f (40 * 0 + j)
    rw [h1 j hj]
    unfold ffill
    rw [if_pos hj]
theorem iv_write0 (I : Iv 0 M) (i : Nat) (hi : i < 40) (v : Int32) : Iv 0 (xup (xup M 52 i v) 71 (40 * 0 + i) v) := by
  obtain ⟨s0, s1, s2, s3⟩ := I.2.2.2.2.2.2.2
  refine I.sheets (fun r hr => ?_) (fun r hr hr2 => ?_) ⟨?_, s1.frame rfl rfl rfl rfl (fun k' hk' => pk_un (by omega)), s2.frame rfl rfl rfl rfl (fun k' hk' => pk_un (by omega)), s3.frame rfl rfl rfl rfl (fun k' hk' => pk_un (by omega))⟩
  · unfold xup
    rw [xrow_ne (by omega), xrow_ne (by omega)]
  · unfold xup
    rw [xrow_ne (by omega), xrow_ne (by omega)]
  · obtain ⟨w, n, b1, b2, b3, b4, b5, b6, b7⟩ := s0
    refine ⟨w, n, b1, b2, b3, b4, b5, b6, fun j hj => ?_⟩
    show upd (M 52) i v j = upd (M 71) (40 * 0 + i) v (40 * 0 + j)
    unfold upd
    by_cases c : j = i
    · subst c; rw [if_pos rfl, if_pos rfl]
    · rw [if_neg c, if_neg (by omega)]; exact b7 j hj
theorem c_put1 {d : Nat} {y v : Int32} {w : Nat} (i : Nat) (h : M 53 0 = nI w) (hw : w ≤ 32) (hi : i < 40) (hy : y = nI i) (q : Q none (HH (xup M 54 i (cutI w v)))) : CW G d jX4_put [.ref 53, .int y, .int v] (HH M) Q := by
  unfold cutI at q
  refine CW_wp fX4_put rfl rfl rfl ?_
  refine xeq w 8 h rfl (by omega) (by decide) (fun c => ?_) (fun c => ?_)
  · rw [if_pos c] at q
    refine xix (n := 40) i hy hi (by decide) (fun e => ?_)
    rw [e]
    exact q
  · rw [if_neg c] at q
    refine xeq w 16 h rfl (by omega) (by decide) (fun c2 => ?_) (fun c2 => ?_)
    · rw [if_pos c2] at q
      refine xix (n := 40) i hy hi (by decide) (fun e => ?_)
      rw [e]
      exact q
    · rw [if_neg c2] at q
      refine xix (n := 40) i hy hi (by decide) (fun e => ?_)
      rw [e]
      exact q
theorem c_begin1 {d : Nat} {y z : Int32} (q0 : y = 0 → Q none (HH (xrow (xup (xup M 53 0 y) 53 1 0) 54 (ffill (M 54) 0 40)))) (q1 : ¬ y = 0 → Q none (HH (xrow (xup (xup M 53 0 y) 53 1 z) 54 (ffill (M 54) 0 40)))) : CW G (d + 1) jX4_begin [.ref 53, .int y, .int z] (HH M) Q := by
  refine CW_wp fX4_begin rfl rfl rfl ?_
  refine xite (fun c => ?_) (fun c => ?_)
  · refine c_fill SH RR _ 54 40 (by decide) rfl 0 ?_
    exact q0 c
  · refine c_fill SH RR _ 54 40 (by decide) rfl 0 ?_
    exact q1 c
theorem iv_sheet1 (I : Iv 0 M) {y v : Int32} (w n : Nat) (hw : w = 0 ∨ w = 8 ∨ w = 16 ∨ w = 32) (hn : n ≤ 40) (hy : y = nI w) (hv : v = nI n) (f : Nat → Int32) (h1 : ∀ k, k < 40 → f (40 * 1 + k) = 0) (h2 : ∀ t, t < 40 * 1 ∨ 40 * 1 + 40 ≤ t → f t = M 71 t) : Iv 0 (xrow (xup (xup (xrow (xup (xup M 53 0 y) 53 1 v) 54 (ffill (M 54) 0 40)) 69 1 y) 70 1 v) 71 f) := by
  obtain ⟨s0, s1, s2, s3⟩ := I.2.2.2.2.2.2.2
  refine I.sheets (fun r hr => ?_) (fun r hr hr2 => ?_) ⟨s0.frame rfl rfl rfl rfl (fun k' hk' => h2 _ (by omega)), ?_, s2.frame rfl rfl rfl rfl (fun k' hk' => h2 _ (by omega)), s3.frame rfl rfl rfl rfl (fun k' hk' => h2 _ (by omega))⟩
  · unfold xup
    rw [xrow_ne (by omega), xrow_ne (by omega), xrow_ne (by omega), xrow_ne (by omega), xrow_ne (by omega), xrow_ne (by omega)]
  · unfold xup
    rw [xrow_ne (by omega), xrow_ne (by omega), xrow_ne (by omega), xrow_ne (by omega), xrow_ne (by omega), xrow_ne (by omega)]
  · refine ⟨w, n, hw, hn, hy, hy, hv, hv, fun j hj => ?_⟩
    show ffill (M 54) 0 40 j = f (40 * 1 + j)
    rw [h1 j hj]
    unfold ffill
    rw [if_pos hj]
theorem iv_write1 (I : Iv 0 M) (i : Nat) (hi : i < 40) (v : Int32) : Iv 0 (xup (xup M 54 i v) 71 (40 * 1 + i) v) := by
  obtain ⟨s0, s1, s2, s3⟩ := I.2.2.2.2.2.2.2
  refine I.sheets (fun r hr => ?_) (fun r hr hr2 => ?_) ⟨s0.frame rfl rfl rfl rfl (fun k' hk' => pk_un (by omega)), ?_, s2.frame rfl rfl rfl rfl (fun k' hk' => pk_un (by omega)), s3.frame rfl rfl rfl rfl (fun k' hk' => pk_un (by omega))⟩
  · unfold xup
    rw [xrow_ne (by omega), xrow_ne (by omega)]
  · unfold xup
    rw [xrow_ne (by omega), xrow_ne (by omega)]
  · obtain ⟨w, n, b1, b2, b3, b4, b5, b6, b7⟩ := s1
    refine ⟨w, n, b1, b2, b3, b4, b5, b6, fun j hj => ?_⟩
    show upd (M 54) i v j = upd (M 71) (40 * 1 + i) v (40 * 1 + j)
    unfold upd
    by_cases c : j = i
    · subst c; rw [if_pos rfl, if_pos rfl]
    · rw [if_neg c, if_neg (by omega)]; exact b7 j hj
theorem c_put2 {d : Nat} {y v : Int32} {w : Nat} (i : Nat) (h : M 55 0 = nI w) (hw : w ≤ 32) (hi : i < 40) (hy : y = nI i) (q : Q none (HH (xup M 56 i (cutI w v)))) : CW G d jX4_put [.ref 55, .int y, .int v] (HH M) Q := by
  unfold cutI at q
  refine CW_wp fX4_put rfl rfl rfl ?_
  refine xeq w 8 h rfl (by omega) (by decide) (fun c => ?_) (fun c => ?_)
  · rw [if_pos c] at q
    refine xix (n := 40) i hy hi (by decide) (fun e => ?_)
    rw [e]
    exact q
  · rw [if_neg c] at q
    refine xeq w 16 h rfl (by omega) (by decide) (fun c2 => ?_) (fun c2 => ?_)
    · rw [if_pos c2] at q
      refine xix (n := 40) i hy hi (by decide) (fun e => ?_)
      rw [e]
      exact q
    · rw [if_neg c2] at q
      refine xix (n := 40) i hy hi (by decide) (fun e => ?_)
      rw [e]
      exact q
theorem c_begin2 {d : Nat} {y z : Int32} (q0 : y = 0 → Q none (HH (xrow (xup (xup M 55 0 y) 55 1 0) 56 (ffill (M 56) 0 40)))) (q1 : ¬ y = 0 → Q none (HH (xrow (xup (xup M 55 0 y) 55 1 z) 56 (ffill (M 56) 0 40)))) : CW G (d + 1) jX4_begin [.ref 55, .int y, .int z] (HH M) Q := by
  refine CW_wp fX4_begin rfl rfl rfl ?_
  refine xite (fun c => ?_) (fun c => ?_)
  · refine c_fill SH RR _ 56 40 (by decide) rfl 0 ?_
    exact q0 c
  · refine c_fill SH RR _ 56 40 (by decide) rfl 0 ?_
    exact q1 c
theorem iv_sheet2 (I : Iv 0 M) {y v : Int32} (w n : Nat) (hw : w = 0 ∨ w = 8 ∨ w = 16 ∨ w = 32) (hn : n ≤ 40) (hy : y = nI w) (hv : v = nI n) (f : Nat → Int32) (h1 : ∀ k, k < 40 → f (40 * 2 + k) = 0) (h2 : ∀ t, t < 40 * 2 ∨ 40 * 2 + 40 ≤ t → f t = M 71 t) : Iv 0 (xrow (xup (xup (xrow (xup (xup M 55 0 y) 55 1 v) 56 (ffill (M 56) 0 40)) 69 2 y) 70 2 v) 71 f) := by
  obtain ⟨s0, s1, s2, s3⟩ := I.2.2.2.2.2.2.2
  refine I.sheets (fun r hr => ?_) (fun r hr hr2 => ?_) ⟨s0.frame rfl rfl rfl rfl (fun k' hk' => h2 _ (by omega)), s1.frame rfl rfl rfl rfl (fun k' hk' => h2 _ (by omega)), ?_, s3.frame rfl rfl rfl rfl (fun k' hk' => h2 _ (by omega))⟩
  · unfold xup
    rw [xrow_ne (by omega), xrow_ne (by omega), xrow_ne (by omega), xrow_ne (by omega), xrow_ne (by omega), xrow_ne (by omega)]
  · unfold xup
    rw [xrow_ne (by omega), xrow_ne (by omega), xrow_ne (by omega), xrow_ne (by omega), xrow_ne (by omega), xrow_ne (by omega)]
  · refine ⟨w, n, hw, hn, hy, hy, hv, hv, fun j hj => ?_⟩
    show ffill (M 56) 0 40 j = f (40 * 2 + j)
    rw [h1 j hj]
    unfold ffill
    rw [if_pos hj]
theorem iv_write2 (I : Iv 0 M) (i : Nat) (hi : i < 40) (v : Int32) : Iv 0 (xup (xup M 56 i v) 71 (40 * 2 + i) v) := by
  obtain ⟨s0, s1, s2, s3⟩ := I.2.2.2.2.2.2.2
  refine I.sheets (fun r hr => ?_) (fun r hr hr2 => ?_) ⟨s0.frame rfl rfl rfl rfl (fun k' hk' => pk_un (by omega)), s1.frame rfl rfl rfl rfl (fun k' hk' => pk_un (by omega)), ?_, s3.frame rfl rfl rfl rfl (fun k' hk' => pk_un (by omega))⟩
  · unfold xup
    rw [xrow_ne (by omega), xrow_ne (by omega)]
  · unfold xup
    rw [xrow_ne (by omega), xrow_ne (by omega)]
  · obtain ⟨w, n, b1, b2, b3, b4, b5, b6, b7⟩ := s2
    refine ⟨w, n, b1, b2, b3, b4, b5, b6, fun j hj => ?_⟩
    show upd (M 56) i v j = upd (M 71) (40 * 2 + i) v (40 * 2 + j)
    unfold upd
    by_cases c : j = i
    · subst c; rw [if_pos rfl, if_pos rfl]
    · rw [if_neg c, if_neg (by omega)]; exact b7 j hj
theorem c_put3 {d : Nat} {y v : Int32} {w : Nat} (i : Nat) (h : M 57 0 = nI w) (hw : w ≤ 32) (hi : i < 40) (hy : y = nI i) (q : Q none (HH (xup M 58 i (cutI w v)))) : CW G d jX4_put [.ref 57, .int y, .int v] (HH M) Q := by
  unfold cutI at q
  refine CW_wp fX4_put rfl rfl rfl ?_
  refine xeq w 8 h rfl (by omega) (by decide) (fun c => ?_) (fun c => ?_)
  · rw [if_pos c] at q
    refine xix (n := 40) i hy hi (by decide) (fun e => ?_)
    rw [e]
    exact q
  · rw [if_neg c] at q
    refine xeq w 16 h rfl (by omega) (by decide) (fun c2 => ?_) (fun c2 => ?_)
    · rw [if_pos c2] at q
      refine xix (n := 40) i hy hi (by decide) (fun e => ?_)
      rw [e]
      exact q
    · rw [if_neg c2] at q
      refine xix (n := 40) i hy hi (by decide) (fun e => ?_)
      rw [e]
      exact q
theorem c_begin3 {d : Nat} {y z : Int32} (q0 : y = 0 → Q none (HH (xrow (xup (xup M 57 0 y) 57 1 0) 58 (ffill (M 58) 0 40)))) (q1 : ¬ y = 0 → Q none (HH (xrow (xup (xup M 57 0 y) 57 1 z) 58 (ffill (M 58) 0 40)))) : CW G (d + 1) jX4_begin [.ref 57, .int y, .int z] (HH M) Q := by
  refine CW_wp fX4_begin rfl rfl rfl ?_
  refine xite (fun c => ?_) (fun c => ?_)
  · refine c_fill SH RR _ 58 40 (by decide) rfl 0 ?_
    exact q0 c
  · refine c_fill SH RR _ 58 40 (by decide) rfl 0 ?_
    exact q1 c
theorem iv_sheet3 (I : Iv 0 M) {y v : Int32} (w n : Nat) (hw : w = 0 ∨ w = 8 ∨ w = 16 ∨ w = 32) (hn : n ≤ 40) (hy : y = nI w) (hv : v = nI n) (f : Nat → Int32) (h1 : ∀ k, k < 40 → f (40 * 3 + k) = 0) (h2 : ∀ t, t < 40 * 3 ∨ 40 * 3 + 40 ≤ t → f t = M 71 t) : Iv 0 (xrow (xup (xup (xrow (xup (xup M 57 0 y) 57 1 v) 58 (ffill (M 58) 0 40)) 69 3 y) 70 3 v) 71 f) := by
  obtain ⟨s0, s1, s2, s3⟩ := I.2.2.2.2.2.2.2
  refine I.sheets (fun r hr => ?_) (fun r hr hr2 => ?_) ⟨s0.frame rfl rfl rfl rfl (fun k' hk' => h2 _ (by omega)), s1.frame rfl rfl rfl rfl (fun k' hk' => h2 _ (by omega)), s2.frame rfl rfl rfl rfl (fun k' hk' => h2 _ (by omega)), ?_⟩
  · unfold xup
    rw [xrow_ne (by omega), xrow_ne (by omega), xrow_ne (by omega), xrow_ne (by omega), xrow_ne (by omega), xrow_ne (by omega)]
  · unfold xup
    rw [xrow_ne (by omega), xrow_ne (by omega), xrow_ne (by omega), xrow_ne (by omega), xrow_ne (by omega), xrow_ne (by omega)]
  · refine ⟨w, n, hw, hn, hy, hy, hv, hv, fun j hj => ?_⟩
    show ffill (M 58) 0 40 j = f (40 * 3 + j)
    rw [h1 j hj]
    unfold ffill
    rw [if_pos hj]
theorem iv_write3 (I : Iv 0 M) (i : Nat) (hi : i < 40) (v : Int32) : Iv 0 (xup (xup M 58 i v) 71 (40 * 3 + i) v) := by
  obtain ⟨s0, s1, s2, s3⟩ := I.2.2.2.2.2.2.2
  refine I.sheets (fun r hr => ?_) (fun r hr hr2 => ?_) ⟨s0.frame rfl rfl rfl rfl (fun k' hk' => pk_un (by omega)), s1.frame rfl rfl rfl rfl (fun k' hk' => pk_un (by omega)), s2.frame rfl rfl rfl rfl (fun k' hk' => pk_un (by omega)), ?_⟩
  · unfold xup
    rw [xrow_ne (by omega), xrow_ne (by omega)]
  · unfold xup
    rw [xrow_ne (by omega), xrow_ne (by omega)]
  · obtain ⟨w, n, b1, b2, b3, b4, b5, b6, b7⟩ := s3
    refine ⟨w, n, b1, b2, b3, b4, b5, b6, fun j hj => ?_⟩
    show upd (M 58) i v j = upd (M 71) (40 * 3 + i) v (40 * 3 + j)
    unfold upd
    by_cases c : j = i
    · subst c; rw [if_pos rfl, if_pos rfl]
    · rw [if_neg c, if_neg (by omega)]; exact b7 j hj
theorem st_sheet (I : Iv 0 M) (x y z : Int32) (q : ∀ r M1, Aft G jX9_sheet [.ref 59, .int x, .int y, .int z] r M1 → Q (some (.int r)) (HH M1)) : CW G 11 jX8_sheet [.ref 0, .int x, .int y, .int z] (HH M) Q := by
  have hw := I.1
  have hp := I.2.1
  have hsr := I.2.2.2.2.1
  have h40 := hw.2.1.2
  have hn : M 60 = M 60 := rfl
  rcases n_ix x 4 (by decide) with ⟨s, hs, es⟩ | ⟨hx, nx⟩
  · match s, hs, es with
    | 0, _, es =>
      subst es
      obtain ⟨w, n, w4, n40, a1, a2, a3, a4, a5⟩ := I.2.2.2.2.2.2.2.1
      have w32 : w ≤ 32 := by omega
      refine CW_wp fX8_sheet rfl rfl rfl ?_
      refine c_isSheet _ (fun p hp0 e0 => ?_) (fun h => absurd rfl (h 0 (by decide)))
      refine c_areBits y (fun b hb eb => ?_) (fun nb => ?_)
      · have y4 : y = 0 ∨ y = 8 ∨ y = 16 ∨ y = 32 := by
          rcases hb with rfl | rfl | rfl | rfl
          · exact Or.inl eb
          · exact Or.inr (Or.inl eb)
          · exact Or.inr (Or.inr (Or.inl eb))
          · exact Or.inr (Or.inr (Or.inr eb))
        refine xite (fun c1 => ?_) (fun c1 => ?_)
        · refine xite (fun c2 => ?_) (fun c2 => ?_)
          · obtain ⟨m, hm, ez⟩ := w_ix (n := 40) (by decide) c1 c2
            refine c_begin0 (fun c => ?_) (fun c => ?_)
            · refine q _ _ (fun Q1 q1 => ?_)
              refine CW_wp fX9_sheet rfl rfl rfl ?_
              refine m_isSheet_t 0 (by decide) rfl ?_
              rcases y4 with h | h | h | h
              · refine xif h ?_
                refine xif c1 ?_
                refine xif c2 ?_
                refine xif c ?_
                exact m_sheetL 0 (by decide) rfl (fun f h1 h2 => q1 _ (iv_sheet0 I b 0 hb (by decide) eb rfl f h1 h2))
              · refine xelse (show ¬ y = 0 by rw [h]; decide) ?_
                refine xif h ?_
                refine xif c1 ?_
                refine xif c2 ?_
                refine xif c ?_
                exact m_sheetL 0 (by decide) rfl (fun f h1 h2 => q1 _ (iv_sheet0 I b 0 hb (by decide) eb rfl f h1 h2))
              · refine xelse (show ¬ y = 0 by rw [h]; decide) ?_
                refine xelse (show ¬ y = 8 by rw [h]; decide) ?_
                refine xif h ?_
                refine xif c1 ?_
                refine xif c2 ?_
                refine xif c ?_
                exact m_sheetL 0 (by decide) rfl (fun f h1 h2 => q1 _ (iv_sheet0 I b 0 hb (by decide) eb rfl f h1 h2))
              · refine xelse (show ¬ y = 0 by rw [h]; decide) ?_
                refine xelse (show ¬ y = 8 by rw [h]; decide) ?_
                refine xelse (show ¬ y = 16 by rw [h]; decide) ?_
                refine xif h ?_
                refine xif c1 ?_
                refine xif c2 ?_
                refine xif c ?_
                exact m_sheetL 0 (by decide) rfl (fun f h1 h2 => q1 _ (iv_sheet0 I b 0 hb (by decide) eb rfl f h1 h2))
            · refine q _ _ (fun Q1 q1 => ?_)
              refine CW_wp fX9_sheet rfl rfl rfl ?_
              refine m_isSheet_t 0 (by decide) rfl ?_
              rcases y4 with h | h | h | h
              · refine xif h ?_
                refine xif c1 ?_
                refine xif c2 ?_
                refine xelse c ?_
                exact m_sheetL 0 (by decide) rfl (fun f h1 h2 => q1 _ (iv_sheet0 I b m hb (by omega) eb ez f h1 h2))
              · refine xelse (show ¬ y = 0 by rw [h]; decide) ?_
                refine xif h ?_
                refine xif c1 ?_
                refine xif c2 ?_
                refine xelse c ?_
                exact m_sheetL 0 (by decide) rfl (fun f h1 h2 => q1 _ (iv_sheet0 I b m hb (by omega) eb ez f h1 h2))
              · refine xelse (show ¬ y = 0 by rw [h]; decide) ?_
                refine xelse (show ¬ y = 8 by rw [h]; decide) ?_
                refine xif h ?_
                refine xif c1 ?_
                refine xif c2 ?_
                refine xelse c ?_
                exact m_sheetL 0 (by decide) rfl (fun f h1 h2 => q1 _ (iv_sheet0 I b m hb (by omega) eb ez f h1 h2))
              · refine xelse (show ¬ y = 0 by rw [h]; decide) ?_
                refine xelse (show ¬ y = 8 by rw [h]; decide) ?_
                refine xelse (show ¬ y = 16 by rw [h]; decide) ?_
                refine xif h ?_
                refine xif c1 ?_
                refine xif c2 ?_
                refine xelse c ?_
                exact m_sheetL 0 (by decide) rfl (fun f h1 h2 => q1 _ (iv_sheet0 I b m hb (by omega) eb ez f h1 h2))
          · refine c_fin0 ?_
            refine q _ _ (fun Q1 q1 => ?_)
            refine CW_wp fX9_sheet rfl rfl rfl ?_
            refine m_isSheet_t 0 (by decide) rfl ?_
            rcases y4 with h | h | h | h
            · refine xif h ?_
              refine xif c1 ?_
              refine xelse c2 ?_
              exact m_fin0 (iv_fc I) q1
            · refine xelse (show ¬ y = 0 by rw [h]; decide) ?_
              refine xif h ?_
              refine xif c1 ?_
              refine xelse c2 ?_
              exact m_fin0 (iv_fc I) q1
            · refine xelse (show ¬ y = 0 by rw [h]; decide) ?_
              refine xelse (show ¬ y = 8 by rw [h]; decide) ?_
              refine xif h ?_
              refine xif c1 ?_
              refine xelse c2 ?_
              exact m_fin0 (iv_fc I) q1
            · refine xelse (show ¬ y = 0 by rw [h]; decide) ?_
              refine xelse (show ¬ y = 8 by rw [h]; decide) ?_
              refine xelse (show ¬ y = 16 by rw [h]; decide) ?_
              refine xif h ?_
              refine xif c1 ?_
              refine xelse c2 ?_
              exact m_fin0 (iv_fc I) q1
        · refine c_fin6 ?_
          refine q _ _ (fun Q1 q1 => ?_)
          refine CW_wp fX9_sheet rfl rfl rfl ?_
          refine m_isSheet_t 0 (by decide) rfl ?_
          rcases y4 with h | h | h | h
          · refine xif h ?_
            refine xelse c1 ?_
            exact m_fin6 (iv_fc I) q1
          · refine xelse (show ¬ y = 0 by rw [h]; decide) ?_
            refine xif h ?_
            refine xelse c1 ?_
            exact m_fin6 (iv_fc I) q1
          · refine xelse (show ¬ y = 0 by rw [h]; decide) ?_
            refine xelse (show ¬ y = 8 by rw [h]; decide) ?_
            refine xif h ?_
            refine xelse c1 ?_
            exact m_fin6 (iv_fc I) q1
          · refine xelse (show ¬ y = 0 by rw [h]; decide) ?_
            refine xelse (show ¬ y = 8 by rw [h]; decide) ?_
            refine xelse (show ¬ y = 16 by rw [h]; decide) ?_
            refine xif h ?_
            refine xelse c1 ?_
            exact m_fin6 (iv_fc I) q1
      · refine c_fin0 ?_
        refine q _ _ (fun Q1 q1 => ?_)
        refine CW_wp fX9_sheet rfl rfl rfl ?_
        refine m_isSheet_t 0 (by decide) rfl ?_
        refine xelse (fun z => nb (Or.inl z)) ?_
        refine xelse (fun z => nb (Or.inr (Or.inl z))) ?_
        refine xelse (fun z => nb (Or.inr (Or.inr (Or.inl z)))) ?_
        refine xelse (fun z => nb (Or.inr (Or.inr (Or.inr z)))) ?_
        exact m_fin0 (iv_fc I) q1
    | 1, _, es =>
      subst es
      obtain ⟨w, n, w4, n40, a1, a2, a3, a4, a5⟩ := I.2.2.2.2.2.2.2.2.1
      have w32 : w ≤ 32 := by omega
      refine CW_wp fX8_sheet rfl rfl rfl ?_
      refine c_isSheet _ (fun p hp0 e0 => ?_) (fun h => absurd rfl (h 1 (by decide)))
      refine c_areBits y (fun b hb eb => ?_) (fun nb => ?_)
      · have y4 : y = 0 ∨ y = 8 ∨ y = 16 ∨ y = 32 := by
          rcases hb with rfl | rfl | rfl | rfl
          · exact Or.inl eb
          · exact Or.inr (Or.inl eb)
          · exact Or.inr (Or.inr (Or.inl eb))
          · exact Or.inr (Or.inr (Or.inr eb))
        refine xite (fun c1 => ?_) (fun c1 => ?_)
        · refine xite (fun c2 => ?_) (fun c2 => ?_)
          · obtain ⟨m, hm, ez⟩ := w_ix (n := 40) (by decide) c1 c2
            refine c_begin1 (fun c => ?_) (fun c => ?_)
            · refine q _ _ (fun Q1 q1 => ?_)
              refine CW_wp fX9_sheet rfl rfl rfl ?_
              refine m_isSheet_t 1 (by decide) rfl ?_
              rcases y4 with h | h | h | h
              · refine xif h ?_
                refine xif c1 ?_
                refine xif c2 ?_
                refine xif c ?_
                exact m_sheetL 1 (by decide) rfl (fun f h1 h2 => q1 _ (iv_sheet1 I b 0 hb (by decide) eb rfl f h1 h2))
              · refine xelse (show ¬ y = 0 by rw [h]; decide) ?_
                refine xif h ?_
                refine xif c1 ?_
                refine xif c2 ?_
                refine xif c ?_
                exact m_sheetL 1 (by decide) rfl (fun f h1 h2 => q1 _ (iv_sheet1 I b 0 hb (by decide) eb rfl f h1 h2))
              · refine xelse (show ¬ y = 0 by rw [h]; decide) ?_
                refine xelse (show ¬ y = 8 by rw [h]; decide) ?_
                refine xif h ?_
                refine xif c1 ?_
                refine xif c2 ?_
                refine xif c ?_
                exact m_sheetL 1 (by decide) rfl (fun f h1 h2 => q1 _ (iv_sheet1 I b 0 hb (by decide) eb rfl f h1 h2))
              · refine xelse (show ¬ y = 0 by rw [h]; decide) ?_
                refine xelse (show ¬ y = 8 by rw [h]; decide) ?_
                refine xelse (show ¬ y = 16 by rw [h]; decide) ?_
                refine xif h ?_
                refine xif c1 ?_
                refine xif c2 ?_
                refine xif c ?_
                exact m_sheetL 1 (by decide) rfl (fun f h1 h2 => q1 _ (iv_sheet1 I b 0 hb (by decide) eb rfl f h1 h2))
            · refine q _ _ (fun Q1 q1 => ?_)
              refine CW_wp fX9_sheet rfl rfl rfl ?_
              refine m_isSheet_t 1 (by decide) rfl ?_
              rcases y4 with h | h | h | h
              · refine xif h ?_
                refine xif c1 ?_
                refine xif c2 ?_
                refine xelse c ?_
                exact m_sheetL 1 (by decide) rfl (fun f h1 h2 => q1 _ (iv_sheet1 I b m hb (by omega) eb ez f h1 h2))
              · refine xelse (show ¬ y = 0 by rw [h]; decide) ?_
                refine xif h ?_
                refine xif c1 ?_
                refine xif c2 ?_
                refine xelse c ?_
                exact m_sheetL 1 (by decide) rfl (fun f h1 h2 => q1 _ (iv_sheet1 I b m hb (by omega) eb ez f h1 h2))
              · refine xelse (show ¬ y = 0 by rw [h]; decide) ?_
                refine xelse (show ¬ y = 8 by rw [h]; decide) ?_
                refine xif h ?_
                refine xif c1 ?_
                refine xif c2 ?_
                refine xelse c ?_
                exact m_sheetL 1 (by decide) rfl (fun f h1 h2 => q1 _ (iv_sheet1 I b m hb (by omega) eb ez f h1 h2))
              · refine xelse (show ¬ y = 0 by rw [h]; decide) ?_
                refine xelse (show ¬ y = 8 by rw [h]; decide) ?_
                refine xelse (show ¬ y = 16 by rw [h]; decide) ?_
                refine xif h ?_
                refine xif c1 ?_
                refine xif c2 ?_
                refine xelse c ?_
                exact m_sheetL 1 (by decide) rfl (fun f h1 h2 => q1 _ (iv_sheet1 I b m hb (by omega) eb ez f h1 h2))
          · refine c_fin0 ?_
            refine q _ _ (fun Q1 q1 => ?_)
            refine CW_wp fX9_sheet rfl rfl rfl ?_
            refine m_isSheet_t 1 (by decide) rfl ?_
            rcases y4 with h | h | h | h
            · refine xif h ?_
              refine xif c1 ?_
              refine xelse c2 ?_
              exact m_fin0 (iv_fc I) q1
            · refine xelse (show ¬ y = 0 by rw [h]; decide) ?_
              refine xif h ?_
              refine xif c1 ?_
              refine xelse c2 ?_
              exact m_fin0 (iv_fc I) q1
            · refine xelse (show ¬ y = 0 by rw [h]; decide) ?_
              refine xelse (show ¬ y = 8 by rw [h]; decide) ?_
              refine xif h ?_
              refine xif c1 ?_
              refine xelse c2 ?_
              exact m_fin0 (iv_fc I) q1
            · refine xelse (show ¬ y = 0 by rw [h]; decide) ?_
              refine xelse (show ¬ y = 8 by rw [h]; decide) ?_
              refine xelse (show ¬ y = 16 by rw [h]; decide) ?_
              refine xif h ?_
              refine xif c1 ?_
              refine xelse c2 ?_
              exact m_fin0 (iv_fc I) q1
        · refine c_fin6 ?_
          refine q _ _ (fun Q1 q1 => ?_)
          refine CW_wp fX9_sheet rfl rfl rfl ?_
          refine m_isSheet_t 1 (by decide) rfl ?_
          rcases y4 with h | h | h | h
          · refine xif h ?_
            refine xelse c1 ?_
            exact m_fin6 (iv_fc I) q1
          · refine xelse (show ¬ y = 0 by rw [h]; decide) ?_
            refine xif h ?_
            refine xelse c1 ?_
            exact m_fin6 (iv_fc I) q1
          · refine xelse (show ¬ y = 0 by rw [h]; decide) ?_
            refine xelse (show ¬ y = 8 by rw [h]; decide) ?_
            refine xif h ?_
            refine xelse c1 ?_
            exact m_fin6 (iv_fc I) q1
          · refine xelse (show ¬ y = 0 by rw [h]; decide) ?_
            refine xelse (show ¬ y = 8 by rw [h]; decide) ?_
            refine xelse (show ¬ y = 16 by rw [h]; decide) ?_
            refine xif h ?_
            refine xelse c1 ?_
            exact m_fin6 (iv_fc I) q1
      · refine c_fin0 ?_
        refine q _ _ (fun Q1 q1 => ?_)
        refine CW_wp fX9_sheet rfl rfl rfl ?_
        refine m_isSheet_t 1 (by decide) rfl ?_
        refine xelse (fun z => nb (Or.inl z)) ?_
        refine xelse (fun z => nb (Or.inr (Or.inl z))) ?_
        refine xelse (fun z => nb (Or.inr (Or.inr (Or.inl z)))) ?_
        refine xelse (fun z => nb (Or.inr (Or.inr (Or.inr z)))) ?_
        exact m_fin0 (iv_fc I) q1
    | 2, _, es =>
      subst es
      obtain ⟨w, n, w4, n40, a1, a2, a3, a4, a5⟩ := I.2.2.2.2.2.2.2.2.2.1
      have w32 : w ≤ 32 := by omega
      refine CW_wp fX8_sheet rfl rfl rfl ?_
      refine c_isSheet _ (fun p hp0 e0 => ?_) (fun h => absurd rfl (h 2 (by decide)))
      refine c_areBits y (fun b hb eb => ?_) (fun nb => ?_)
      · have y4 : y = 0 ∨ y = 8 ∨ y = 16 ∨ y = 32 := by
          rcases hb with rfl | rfl | rfl | rfl
          · exact Or.inl eb
          · exact Or.inr (Or.inl eb)
          · exact Or.inr (Or.inr (Or.inl eb))
          · exact Or.inr (Or.inr (Or.inr eb))
        refine xite (fun c1 => ?_) (fun c1 => ?_)
        · refine xite (fun c2 => ?_) (fun c2 => ?_)
          · obtain ⟨m, hm, ez⟩ := w_ix (n := 40) (by decide) c1 c2
            refine c_begin2 (fun c => ?_) (fun c => ?_)
            · refine q _ _ (fun Q1 q1 => ?_)
              refine CW_wp fX9_sheet rfl rfl rfl ?_
              refine m_isSheet_t 2 (by decide) rfl ?_
              rcases y4 with h | h | h | h
              · refine xif h ?_
                refine xif c1 ?_
                refine xif c2 ?_
                refine xif c ?_
                exact m_sheetL 2 (by decide) rfl (fun f h1 h2 => q1 _ (iv_sheet2 I b 0 hb (by decide) eb rfl f h1 h2))
              · refine xelse (show ¬ y = 0 by rw [h]; decide) ?_
                refine xif h ?_
                refine xif c1 ?_
                refine xif c2 ?_
                refine xif c ?_
                exact m_sheetL 2 (by decide) rfl (fun f h1 h2 => q1 _ (iv_sheet2 I b 0 hb (by decide) eb rfl f h1 h2))
              · refine xelse (show ¬ y = 0 by rw [h]; decide) ?_
                refine xelse (show ¬ y = 8 by rw [h]; decide) ?_
                refine xif h ?_
                refine xif c1 ?_
                refine xif c2 ?_
                refine xif c ?_
                exact m_sheetL 2 (by decide) rfl (fun f h1 h2 => q1 _ (iv_sheet2 I b 0 hb (by decide) eb rfl f h1 h2))
              · refine xelse (show ¬ y = 0 by rw [h]; decide) ?_
                refine xelse (show ¬ y = 8 by rw [h]; decide) ?_
                refine xelse (show ¬ y = 16 by rw [h]; decide) ?_
                refine xif h ?_
                refine xif c1 ?_
                refine xif c2 ?_
                refine xif c ?_
                exact m_sheetL 2 (by decide) rfl (fun f h1 h2 => q1 _ (iv_sheet2 I b 0 hb (by decide) eb rfl f h1 h2))
            · refine q _ _ (fun Q1 q1 => ?_)
              refine CW_wp fX9_sheet rfl rfl rfl ?_
              refine m_isSheet_t 2 (by decide) rfl ?_
              rcases y4 with h | h | h | h
              · refine xif h ?_
                refine xif c1 ?_
                refine xif c2 ?_
                refine xelse c ?_
                exact m_sheetL 2 (by decide) rfl (fun f h1 h2 => q1 _ (iv_sheet2 I b m hb (by omega) eb ez f h1 h2))
              · refine xelse (show ¬ y = 0 by rw [h]; decide) ?_
                refine xif h ?_
                refine xif c1 ?_
                refine xif c2 ?_
                refine xelse c ?_
                exact m_sheetL 2 (by decide) rfl (fun f h1 h2 => q1 _ (iv_sheet2 I b m hb (by omega) eb ez f h1 h2))
              · refine xelse (show ¬ y = 0 by rw [h]; decide) ?_
                refine xelse (show ¬ y = 8 by rw [h]; decide) ?_
                refine xif h ?_
                refine xif c1 ?_
                refine xif c2 ?_
                refine xelse c ?_
                exact m_sheetL 2 (by decide) rfl (fun f h1 h2 => q1 _ (iv_sheet2 I b m hb (by omega) eb ez f h1 h2))
              · refine xelse (show ¬ y = 0 by rw [h]; decide) ?_
                refine xelse (show ¬ y = 8 by rw [h]; decide) ?_
                refine xelse (show ¬ y = 16 by rw [h]; decide) ?_
                refine xif h ?_
                refine xif c1 ?_
                refine xif c2 ?_
                refine xelse c ?_
                exact m_sheetL 2 (by decide) rfl (fun f h1 h2 => q1 _ (iv_sheet2 I b m hb (by omega) eb ez f h1 h2))
          · refine c_fin0 ?_
            refine q _ _ (fun Q1 q1 => ?_)
            refine CW_wp fX9_sheet rfl rfl rfl ?_
            refine m_isSheet_t 2 (by decide) rfl ?_
            rcases y4 with h | h | h | h
            · refine xif h ?_
              refine xif c1 ?_
              refine xelse c2 ?_
              exact m_fin0 (iv_fc I) q1
            · refine xelse (show ¬ y = 0 by rw [h]; decide) ?_
              refine xif h ?_
              refine xif c1 ?_
              refine xelse c2 ?_
              exact m_fin0 (iv_fc I) q1
            · refine xelse (show ¬ y = 0 by rw [h]; decide) ?_
              refine xelse (show ¬ y = 8 by rw [h]; decide) ?_
              refine xif h ?_
              refine xif c1 ?_
              refine xelse c2 ?_
              exact m_fin0 (iv_fc I) q1
            · refine xelse (show ¬ y = 0 by rw [h]; decide) ?_
              refine xelse (show ¬ y = 8 by rw [h]; decide) ?_
              refine xelse (show ¬ y = 16 by rw [h]; decide) ?_
              refine xif h ?_
              refine xif c1 ?_
              refine xelse c2 ?_
              exact m_fin0 (iv_fc I) q1
        · refine c_fin6 ?_
          refine q _ _ (fun Q1 q1 => ?_)
          refine CW_wp fX9_sheet rfl rfl rfl ?_
          refine m_isSheet_t 2 (by decide) rfl ?_
          rcases y4 with h | h | h | h
          · refine xif h ?_
            refine xelse c1 ?_
            exact m_fin6 (iv_fc I) q1
          · refine xelse (show ¬ y = 0 by rw [h]; decide) ?_
            refine xif h ?_
            refine xelse c1 ?_
            exact m_fin6 (iv_fc I) q1
          · refine xelse (show ¬ y = 0 by rw [h]; decide) ?_
            refine xelse (show ¬ y = 8 by rw [h]; decide) ?_
            refine xif h ?_
            refine xelse c1 ?_
            exact m_fin6 (iv_fc I) q1
          · refine xelse (show ¬ y = 0 by rw [h]; decide) ?_
            refine xelse (show ¬ y = 8 by rw [h]; decide) ?_
            refine xelse (show ¬ y = 16 by rw [h]; decide) ?_
            refine xif h ?_
            refine xelse c1 ?_
            exact m_fin6 (iv_fc I) q1
      · refine c_fin0 ?_
        refine q _ _ (fun Q1 q1 => ?_)
        refine CW_wp fX9_sheet rfl rfl rfl ?_
        refine m_isSheet_t 2 (by decide) rfl ?_
        refine xelse (fun z => nb (Or.inl z)) ?_
        refine xelse (fun z => nb (Or.inr (Or.inl z))) ?_
        refine xelse (fun z => nb (Or.inr (Or.inr (Or.inl z)))) ?_
        refine xelse (fun z => nb (Or.inr (Or.inr (Or.inr z)))) ?_
        exact m_fin0 (iv_fc I) q1
    | 3, _, es =>
      subst es
      obtain ⟨w, n, w4, n40, a1, a2, a3, a4, a5⟩ := I.2.2.2.2.2.2.2.2.2.2
      have w32 : w ≤ 32 := by omega
      refine CW_wp fX8_sheet rfl rfl rfl ?_
      refine c_isSheet _ (fun p hp0 e0 => ?_) (fun h => absurd rfl (h 3 (by decide)))
      refine c_areBits y (fun b hb eb => ?_) (fun nb => ?_)
      · have y4 : y = 0 ∨ y = 8 ∨ y = 16 ∨ y = 32 := by
          rcases hb with rfl | rfl | rfl | rfl
          · exact Or.inl eb
          · exact Or.inr (Or.inl eb)
          · exact Or.inr (Or.inr (Or.inl eb))
          · exact Or.inr (Or.inr (Or.inr eb))
        refine xite (fun c1 => ?_) (fun c1 => ?_)
        · refine xite (fun c2 => ?_) (fun c2 => ?_)
          · obtain ⟨m, hm, ez⟩ := w_ix (n := 40) (by decide) c1 c2
            refine c_begin3 (fun c => ?_) (fun c => ?_)
            · refine q _ _ (fun Q1 q1 => ?_)
              refine CW_wp fX9_sheet rfl rfl rfl ?_
              refine m_isSheet_t 3 (by decide) rfl ?_
              rcases y4 with h | h | h | h
              · refine xif h ?_
                refine xif c1 ?_
                refine xif c2 ?_
                refine xif c ?_
                exact m_sheetL 3 (by decide) rfl (fun f h1 h2 => q1 _ (iv_sheet3 I b 0 hb (by decide) eb rfl f h1 h2))
              · refine xelse (show ¬ y = 0 by rw [h]; decide) ?_
                refine xif h ?_
                refine xif c1 ?_
                refine xif c2 ?_
                refine xif c ?_
                exact m_sheetL 3 (by decide) rfl (fun f h1 h2 => q1 _ (iv_sheet3 I b 0 hb (by decide) eb rfl f h1 h2))
              · refine xelse (show ¬ y = 0 by rw [h]; decide) ?_
                refine xelse (show ¬ y = 8 by rw [h]; decide) ?_
                refine xif h ?_
                refine xif c1 ?_
                refine xif c2 ?_
                refine xif c ?_
                exact m_sheetL 3 (by decide) rfl (fun f h1 h2 => q1 _ (iv_sheet3 I b 0 hb (by decide) eb rfl f h1 h2))
              · refine xelse (show ¬ y = 0 by rw [h]; decide) ?_
                refine xelse (show ¬ y = 8 by rw [h]; decide) ?_
                refine xelse (show ¬ y = 16 by rw [h]; decide) ?_
                refine xif h ?_
                refine xif c1 ?_
                refine xif c2 ?_
                refine xif c ?_
                exact m_sheetL 3 (by decide) rfl (fun f h1 h2 => q1 _ (iv_sheet3 I b 0 hb (by decide) eb rfl f h1 h2))
            · refine q _ _ (fun Q1 q1 => ?_)
              refine CW_wp fX9_sheet rfl rfl rfl ?_
              refine m_isSheet_t 3 (by decide) rfl ?_
              rcases y4 with h | h | h | h
              · refine xif h ?_
                refine xif c1 ?_
                refine xif c2 ?_
                refine xelse c ?_
                exact m_sheetL 3 (by decide) rfl (fun f h1 h2 => q1 _ (iv_sheet3 I b m hb (by omega) eb ez f h1 h2))
              · refine xelse (show ¬ y = 0 by rw [h]; decide) ?_
                refine xif h ?_
                refine xif c1 ?_
                refine xif c2 ?_
                refine xelse c ?_
                exact m_sheetL 3 (by decide) rfl (fun f h1 h2 => q1 _ (iv_sheet3 I b m hb (by omega) eb ez f h1 h2))
              · refine xelse (show ¬ y = 0 by rw [h]; decide) ?_
                refine xelse (show ¬ y = 8 by rw [h]; decide) ?_
                refine xif h ?_
                refine xif c1 ?_
                refine xif c2 ?_
                refine xelse c ?_
                exact m_sheetL 3 (by decide) rfl (fun f h1 h2 => q1 _ (iv_sheet3 I b m hb (by omega) eb ez f h1 h2))
              · refine xelse (show ¬ y = 0 by rw [h]; decide) ?_
                refine xelse (show ¬ y = 8 by rw [h]; decide) ?_
                refine xelse (show ¬ y = 16 by rw [h]; decide) ?_
                refine xif h ?_
                refine xif c1 ?_
                refine xif c2 ?_
                refine xelse c ?_
                exact m_sheetL 3 (by decide) rfl (fun f h1 h2 => q1 _ (iv_sheet3 I b m hb (by omega) eb ez f h1 h2))
          · refine c_fin0 ?_
            refine q _ _ (fun Q1 q1 => ?_)
            refine CW_wp fX9_sheet rfl rfl rfl ?_
            refine m_isSheet_t 3 (by decide) rfl ?_
            rcases y4 with h | h | h | h
            · refine xif h ?_
              refine xif c1 ?_
              refine xelse c2 ?_
              exact m_fin0 (iv_fc I) q1
            · refine xelse (show ¬ y = 0 by rw [h]; decide) ?_
              refine xif h ?_
              refine xif c1 ?_
              refine xelse c2 ?_
              exact m_fin0 (iv_fc I) q1
            · refine xelse (show ¬ y = 0 by rw [h]; decide) ?_
              refine xelse (show ¬ y = 8 by rw [h]; decide) ?_
              refine xif h ?_
              refine xif c1 ?_
              refine xelse c2 ?_
              exact m_fin0 (iv_fc I) q1
            · refine xelse (show ¬ y = 0 by rw [h]; decide) ?_
              refine xelse (show ¬ y = 8 by rw [h]; decide) ?_
              refine xelse (show ¬ y = 16 by rw [h]; decide) ?_
              refine xif h ?_
              refine xif c1 ?_
              refine xelse c2 ?_
              exact m_fin0 (iv_fc I) q1
        · refine c_fin6 ?_
          refine q _ _ (fun Q1 q1 => ?_)
          refine CW_wp fX9_sheet rfl rfl rfl ?_
          refine m_isSheet_t 3 (by decide) rfl ?_
          rcases y4 with h | h | h | h
          · refine xif h ?_
            refine xelse c1 ?_
            exact m_fin6 (iv_fc I) q1
          · refine xelse (show ¬ y = 0 by rw [h]; decide) ?_
            refine xif h ?_
            refine xelse c1 ?_
            exact m_fin6 (iv_fc I) q1
          · refine xelse (show ¬ y = 0 by rw [h]; decide) ?_
            refine xelse (show ¬ y = 8 by rw [h]; decide) ?_
            refine xif h ?_
            refine xelse c1 ?_
            exact m_fin6 (iv_fc I) q1
          · refine xelse (show ¬ y = 0 by rw [h]; decide) ?_
            refine xelse (show ¬ y = 8 by rw [h]; decide) ?_
            refine xelse (show ¬ y = 16 by rw [h]; decide) ?_
            refine xif h ?_
            refine xelse c1 ?_
            exact m_fin6 (iv_fc I) q1
      · refine c_fin0 ?_
        refine q _ _ (fun Q1 q1 => ?_)
        refine CW_wp fX9_sheet rfl rfl rfl ?_
        refine m_isSheet_t 3 (by decide) rfl ?_
        refine xelse (fun z => nb (Or.inl z)) ?_
        refine xelse (fun z => nb (Or.inr (Or.inl z))) ?_
        refine xelse (fun z => nb (Or.inr (Or.inr (Or.inl z)))) ?_
        refine xelse (fun z => nb (Or.inr (Or.inr (Or.inr z)))) ?_
        exact m_fin0 (iv_fc I) q1
    | s + 4, hs, _ => exact absurd hs (by omega)
  · refine CW_wp fX8_sheet rfl rfl rfl ?_
    refine c_isSheet _ (fun p hp0 e0 => absurd e0 (nx p hp0)) (fun _ => ?_)
    refine c_fin0 ?_
    refine q _ _ (fun Q1 q1 => ?_)
    refine CW_wp fX9_sheet rfl rfl rfl ?_
    refine m_isSheet_f nx ?_
    exact m_fin0 (iv_fc I) q1
theorem st_write (I : Iv 0 M) (x y z : Int32) (q : ∀ r M1, Aft G jX9_write [.ref 59, .int x, .int y, .int z] r M1 → Q (some (.int r)) (HH M1)) : CW G 11 jX8_write [.ref 0, .int x, .int y, .int z] (HH M) Q := by
  have hw := I.1
  have hp := I.2.1
  have hsr := I.2.2.2.2.1
  have h40 := hw.2.1.2
  have hn : M 60 = M 60 := rfl
  rcases n_ix x 4 (by decide) with ⟨s, hs, es⟩ | ⟨hx, nx⟩
  · match s, hs, es with
    | 0, _, es =>
      subst es
      obtain ⟨w, n, w4, n40, a1, a2, a3, a4, a5⟩ := I.2.2.2.2.2.2.2.1
      have w32 : w ≤ 32 := by omega
      refine CW_wp fX8_write rfl rfl rfl ?_
      refine c_isSheet _ (fun p hp0 e0 => ?_) (fun h => absurd rfl (h 0 (by decide)))
      refine c_missing0 a1 w32 (fun c => ?_) (fun c => ?_)
      · refine c_fin5 ?_
        refine q _ _ (fun Q1 q1 => ?_)
        refine CW_wp fX9_write rfl rfl rfl ?_
        refine m_isSheet_t 0 (by decide) rfl ?_
        refine xif (show fc 5 M 69 0 = 0 by rw [show fc 5 M 69 0 = nI w from a2, c]; rfl) ?_
        exact m_fin5 (iv_fc I) q1
      have c0 : ¬ M 69 0 = 0 := by rw [a2]; exact nI_ne0 (by omega) (by omega)
      rcases n_ix y n (by omega) with ⟨i, hi, ey⟩ | ⟨hy, ny⟩
      · refine xelse (by rw [ey]; exact nI_pos (by omega)) ?_
        refine xif (by rw [ey, a3]; exact nI_lt hi (by omega)) ?_
        refine c_put0 i a1 w32 (by omega) ey ?_
        refine q _ _ (fun Q1 q1 => ?_)
        refine CW_wp fX9_write rfl rfl rfl ?_
        refine m_isSheet_t 0 (by decide) rfl ?_
        refine xelse c0 ?_
        refine m_within_t i 0 (n - 1) ey rfl (isb a4 rfl (by omega)) (Nat.zero_le _) (by omega) (by omega) ?_
        refine m_cutTo w w32 a2 ?_
        refine xix (n := 160) (40 * 0 + i) (ia (im rfl rfl) ey) (by omega) (by decide) (fun e => ?_)
        rw [e]
        exact q1 _ (iv_write0 I i (by omega) _)
      · refine xite (fun c1 => ?_) (fun c1 => ?_)
        · refine c_fin0 ?_
          refine q _ _ (fun Q1 q1 => ?_)
          refine CW_wp fX9_write rfl rfl rfl ?_
          refine m_isSheet_t 0 (by decide) rfl ?_
          refine xelse c0 ?_
          refine m_wi (by omega) a4 ny ?_
          exact m_fin0 (iv_fc I) q1
        · refine xelse (by rw [a3]; exact Int32.not_lt.mpr (hy.resolve_left c1)) ?_
          refine c_fin0 ?_
          refine q _ _ (fun Q1 q1 => ?_)
          refine CW_wp fX9_write rfl rfl rfl ?_
          refine m_isSheet_t 0 (by decide) rfl ?_
          refine xelse c0 ?_
          refine m_wi (by omega) a4 ny ?_
          exact m_fin0 (iv_fc I) q1
    | 1, _, es =>
      subst es
      obtain ⟨w, n, w4, n40, a1, a2, a3, a4, a5⟩ := I.2.2.2.2.2.2.2.2.1
      have w32 : w ≤ 32 := by omega
      refine CW_wp fX8_write rfl rfl rfl ?_
      refine c_isSheet _ (fun p hp0 e0 => ?_) (fun h => absurd rfl (h 1 (by decide)))
      refine c_missing1 a1 w32 (fun c => ?_) (fun c => ?_)
      · refine c_fin5 ?_
        refine q _ _ (fun Q1 q1 => ?_)
        refine CW_wp fX9_write rfl rfl rfl ?_
        refine m_isSheet_t 1 (by decide) rfl ?_
        refine xif (show fc 5 M 69 1 = 0 by rw [show fc 5 M 69 1 = nI w from a2, c]; rfl) ?_
        exact m_fin5 (iv_fc I) q1
      have c0 : ¬ M 69 1 = 0 := by rw [a2]; exact nI_ne0 (by omega) (by omega)
      rcases n_ix y n (by omega) with ⟨i, hi, ey⟩ | ⟨hy, ny⟩
      · refine xelse (by rw [ey]; exact nI_pos (by omega)) ?_
        refine xif (by rw [ey, a3]; exact nI_lt hi (by omega)) ?_
        refine c_put1 i a1 w32 (by omega) ey ?_
        refine q _ _ (fun Q1 q1 => ?_)
        refine CW_wp fX9_write rfl rfl rfl ?_
        refine m_isSheet_t 1 (by decide) rfl ?_
        refine xelse c0 ?_
        refine m_within_t i 0 (n - 1) ey rfl (isb a4 rfl (by omega)) (Nat.zero_le _) (by omega) (by omega) ?_
        refine m_cutTo w w32 a2 ?_
        refine xix (n := 160) (40 * 1 + i) (ia (im rfl rfl) ey) (by omega) (by decide) (fun e => ?_)
        rw [e]
        exact q1 _ (iv_write1 I i (by omega) _)
      · refine xite (fun c1 => ?_) (fun c1 => ?_)
        · refine c_fin0 ?_
          refine q _ _ (fun Q1 q1 => ?_)
          refine CW_wp fX9_write rfl rfl rfl ?_
          refine m_isSheet_t 1 (by decide) rfl ?_
          refine xelse c0 ?_
          refine m_wi (by omega) a4 ny ?_
          exact m_fin0 (iv_fc I) q1
        · refine xelse (by rw [a3]; exact Int32.not_lt.mpr (hy.resolve_left c1)) ?_
          refine c_fin0 ?_
          refine q _ _ (fun Q1 q1 => ?_)
          refine CW_wp fX9_write rfl rfl rfl ?_
          refine m_isSheet_t 1 (by decide) rfl ?_
          refine xelse c0 ?_
          refine m_wi (by omega) a4 ny ?_
          exact m_fin0 (iv_fc I) q1
    | 2, _, es =>
      subst es
      obtain ⟨w, n, w4, n40, a1, a2, a3, a4, a5⟩ := I.2.2.2.2.2.2.2.2.2.1
      have w32 : w ≤ 32 := by omega
      refine CW_wp fX8_write rfl rfl rfl ?_
      refine c_isSheet _ (fun p hp0 e0 => ?_) (fun h => absurd rfl (h 2 (by decide)))
      refine c_missing2 a1 w32 (fun c => ?_) (fun c => ?_)
      · refine c_fin5 ?_
        refine q _ _ (fun Q1 q1 => ?_)
        refine CW_wp fX9_write rfl rfl rfl ?_
        refine m_isSheet_t 2 (by decide) rfl ?_
        refine xif (show fc 5 M 69 2 = 0 by rw [show fc 5 M 69 2 = nI w from a2, c]; rfl) ?_
        exact m_fin5 (iv_fc I) q1
      have c0 : ¬ M 69 2 = 0 := by rw [a2]; exact nI_ne0 (by omega) (by omega)
      rcases n_ix y n (by omega) with ⟨i, hi, ey⟩ | ⟨hy, ny⟩
      · refine xelse (by rw [ey]; exact nI_pos (by omega)) ?_
        refine xif (by rw [ey, a3]; exact nI_lt hi (by omega)) ?_
        refine c_put2 i a1 w32 (by omega) ey ?_
        refine q _ _ (fun Q1 q1 => ?_)
        refine CW_wp fX9_write rfl rfl rfl ?_
        refine m_isSheet_t 2 (by decide) rfl ?_
        refine xelse c0 ?_
        refine m_within_t i 0 (n - 1) ey rfl (isb a4 rfl (by omega)) (Nat.zero_le _) (by omega) (by omega) ?_
        refine m_cutTo w w32 a2 ?_
        refine xix (n := 160) (40 * 2 + i) (ia (im rfl rfl) ey) (by omega) (by decide) (fun e => ?_)
        rw [e]
        exact q1 _ (iv_write2 I i (by omega) _)
      · refine xite (fun c1 => ?_) (fun c1 => ?_)
        · refine c_fin0 ?_
          refine q _ _ (fun Q1 q1 => ?_)
          refine CW_wp fX9_write rfl rfl rfl ?_
          refine m_isSheet_t 2 (by decide) rfl ?_
          refine xelse c0 ?_
          refine m_wi (by omega) a4 ny ?_
          exact m_fin0 (iv_fc I) q1
        · refine xelse (by rw [a3]; exact Int32.not_lt.mpr (hy.resolve_left c1)) ?_
          refine c_fin0 ?_
          refine q _ _ (fun Q1 q1 => ?_)
          refine CW_wp fX9_write rfl rfl rfl ?_
          refine m_isSheet_t 2 (by decide) rfl ?_
          refine xelse c0 ?_
          refine m_wi (by omega) a4 ny ?_
          exact m_fin0 (iv_fc I) q1
    | 3, _, es =>
      subst es
      obtain ⟨w, n, w4, n40, a1, a2, a3, a4, a5⟩ := I.2.2.2.2.2.2.2.2.2.2
      have w32 : w ≤ 32 := by omega
      refine CW_wp fX8_write rfl rfl rfl ?_
      refine c_isSheet _ (fun p hp0 e0 => ?_) (fun h => absurd rfl (h 3 (by decide)))
      refine c_missing3 a1 w32 (fun c => ?_) (fun c => ?_)
      · refine c_fin5 ?_
        refine q _ _ (fun Q1 q1 => ?_)
        refine CW_wp fX9_write rfl rfl rfl ?_
        refine m_isSheet_t 3 (by decide) rfl ?_
        refine xif (show fc 5 M 69 3 = 0 by rw [show fc 5 M 69 3 = nI w from a2, c]; rfl) ?_
        exact m_fin5 (iv_fc I) q1
      have c0 : ¬ M 69 3 = 0 := by rw [a2]; exact nI_ne0 (by omega) (by omega)
      rcases n_ix y n (by omega) with ⟨i, hi, ey⟩ | ⟨hy, ny⟩
      · refine xelse (by rw [ey]; exact nI_pos (by omega)) ?_
        refine xif (by rw [ey, a3]; exact nI_lt hi (by omega)) ?_
        refine c_put3 i a1 w32 (by omega) ey ?_
        refine q _ _ (fun Q1 q1 => ?_)
        refine CW_wp fX9_write rfl rfl rfl ?_
        refine m_isSheet_t 3 (by decide) rfl ?_
        refine xelse c0 ?_
        refine m_within_t i 0 (n - 1) ey rfl (isb a4 rfl (by omega)) (Nat.zero_le _) (by omega) (by omega) ?_
        refine m_cutTo w w32 a2 ?_
        refine xix (n := 160) (40 * 3 + i) (ia (im rfl rfl) ey) (by omega) (by decide) (fun e => ?_)
        rw [e]
        exact q1 _ (iv_write3 I i (by omega) _)
      · refine xite (fun c1 => ?_) (fun c1 => ?_)
        · refine c_fin0 ?_
          refine q _ _ (fun Q1 q1 => ?_)
          refine CW_wp fX9_write rfl rfl rfl ?_
          refine m_isSheet_t 3 (by decide) rfl ?_
          refine xelse c0 ?_
          refine m_wi (by omega) a4 ny ?_
          exact m_fin0 (iv_fc I) q1
        · refine xelse (by rw [a3]; exact Int32.not_lt.mpr (hy.resolve_left c1)) ?_
          refine c_fin0 ?_
          refine q _ _ (fun Q1 q1 => ?_)
          refine CW_wp fX9_write rfl rfl rfl ?_
          refine m_isSheet_t 3 (by decide) rfl ?_
          refine xelse c0 ?_
          refine m_wi (by omega) a4 ny ?_
          exact m_fin0 (iv_fc I) q1
    | s + 4, hs, _ => exact absurd hs (by omega)
  · refine CW_wp fX8_write rfl rfl rfl ?_
    refine c_isSheet _ (fun p hp0 e0 => absurd e0 (nx p hp0)) (fun _ => ?_)
    refine c_fin0 ?_
    refine q _ _ (fun Q1 q1 => ?_)
    refine CW_wp fX9_write rfl rfl rfl ?_
    refine m_isSheet_f nx ?_
    exact m_fin0 (iv_fc I) q1
end Q8
