/-! image, undo, feed: the class beside the model. -/
theorem Wf.ext {N N' : Nat → Int32} (h : ∀ j, j < 598 → N' j = N j) (w : Wf N) : Wf N' := by
  have h40 := w.2.1.2
  have h0 : N' 0 = N 0 := h 0 (by decide)
  have h1 : N' 1 = N 1 := h 1 (by decide)
  exact ⟨wc1 h0 w, wc2 h1 w, wc3 (h 2 (by decide)) w, wc4 (fun j hj => h _ (by omega)) w, wc5 (fun a b ha hb => h _ (by omega)) w, wc6 (fun a b ha hb => h _ (by omega)) w, wc7 h1 (fun s f hs hf => h _ (by omega)) w, wc8 (Nat.le_of_eq (vN_e h0).symm) h1 (fun s f hs hf => h _ (by omega)) w, wc9 h1 (fun s f hs hf => h _ (by omega)) w, wc10 (fun q hq => h _ (by omega)) w, wc11 h1 (fun j hj => h _ (by omega)) w⟩
theorem PV.ext {b : Nat} {N N' : Nat → Int32} {M : xM} (h : ∀ j, j < 598 → N' j = N j) (w : Wf N) (p : PV b N M) : PV b N' M := by
  have h40 := w.2.1.2
  obtain ⟨p1, p2, p3, p4, p5, p6, p7, p8, p9⟩ := p
  refine ⟨p1.trans (h 0 (by decide)).symm, p2.trans (h 1 (by decide)).symm, p3.trans (h 2 (by decide)).symm, p4.trans (h 3 (by decide)).symm, fun j hj => (p5 j hj).trans (h _ (by omega)).symm, fun q hq => (p6 q hq).trans (congrArg nI (bts_congr (fun r hr => (wy_e (fun a b ha hb => h _ (by omega)) hq hr).symm))), fun s hs f hf => ?_, fun q hq => (p8 q hq).trans (h _ (by omega)).symm, fun j hj => (p9 j hj).trans (h _ (by omega)).symm⟩
  rw [sN_e (h 1 (by decide))] at hs
  exact (p7 s hs f hf).trans (h _ (by omega)).symm
section I1
variable {G : xG} {M : xM} {Q : Option Value → xH → Prop}
theorem Iv.img {M M' : xM} (I : Iv 0 M) (h : ∀ r, r ≠ 0 → r ≠ 59 → r ≠ 61 → (r < 15 ∨ 28 < r) → M' r = M r) (h59 : ∀ k, k ≠ 2 → M' 59 k = M 59 k) (sk : SK M') : Iv 0 M' := by
  obtain ⟨i1, i2, i3, i4, i5, i6, i7, i8⟩ := I
  have e60 : M' 60 = M 60 := h 60 (by decide) (by decide) (by decide) (by decide)
  refine ⟨by rw [e60]; exact i1, by rw [e60]; exact i2.congr (fun r h1 hr => h r (by omega) (by omega) (by omega) (by omega)), sk, ?_, ?_, ?_, ?_, ?_⟩
  · unfold SF at i4 ⊢
    rw [h 50 (by decide) (by decide) (by decide) (by decide), h 62 (by decide) (by decide) (by decide) (by decide)]
    exact i4
  · unfold SR at i5 ⊢
    rw [e60, h59 5 (by decide), h 63 (by decide) (by decide) (by decide) (by decide)]
    exact i5
  · unfold SW at i6 ⊢
    rw [h 46 (by decide) (by decide) (by decide) (by decide), h59 8 (by decide), h 47 (by decide) (by decide) (by decide) (by decide), h 65 (by decide) (by decide) (by decide) (by decide)]
    exact i6
  · unfold ST at i7 ⊢
    rw [h 43 (by decide) (by decide) (by decide) (by decide), h59 10 (by decide), h 44 (by decide) (by decide) (by decide) (by decide), h 66 (by decide) (by decide) (by decide) (by decide)]
    exact i7
  · unfold SS SS1 at i8 ⊢
    rw [h 51 (by decide) (by decide) (by decide) (by decide), h 52 (by decide) (by decide) (by decide) (by decide), h 53 (by decide) (by decide) (by decide) (by decide), h 54 (by decide) (by decide) (by decide) (by decide), h 55 (by decide) (by decide) (by decide) (by decide), h 56 (by decide) (by decide) (by decide) (by decide), h 57 (by decide) (by decide) (by decide) (by decide), h 58 (by decide) (by decide) (by decide) (by decide), h 69 (by decide) (by decide) (by decide) (by decide), h 70 (by decide) (by decide) (by decide) (by decide), h 71 (by decide) (by decide) (by decide) (by decide)]
    exact i8
theorem Iv.und {M M' : xM} (I : Iv 0 M) (h : ∀ r, 14 < r → r ≠ 59 → r ≠ 60 → M' r = M r) (h0 : M' 0 = M 0) (h59 : ∀ k, k ≠ 5 → M' 59 k = M 59 k) (h5 : M' 59 5 = 0) (w : Wf (M' 60)) (p : PV 1 (M' 60) M') : Iv 0 M' := by
  obtain ⟨i1, i2, i3, i4, i5, i6, i7, i8⟩ := I
  refine ⟨w, p, ?_, ?_, Or.inl h5, ?_, ?_, ?_⟩
  · unfold SK at i3 ⊢
    rw [h0, h59 2 (by decide), h 61 (by decide) (by decide) (by decide)]
    rcases i3 with i3 | ⟨a, b, c, d⟩
    · exact Or.inl i3
    · exact Or.inr ⟨a, b, c, d.congr (fun r h1 hr => h r (by omega) (by omega) (by omega))⟩
  · unfold SF at i4 ⊢
    rw [h 50 (by decide) (by decide) (by decide), h 62 (by decide) (by decide) (by decide)]
    exact i4
  · unfold SW at i6 ⊢
    rw [h 46 (by decide) (by decide) (by decide), h59 8 (by decide), h 47 (by decide) (by decide) (by decide), h 65 (by decide) (by decide) (by decide)]
    exact i6
  · unfold ST at i7 ⊢
    rw [h 43 (by decide) (by decide) (by decide), h59 10 (by decide), h 44 (by decide) (by decide) (by decide), h 66 (by decide) (by decide) (by decide)]
    exact i7
  · unfold SS SS1 at i8 ⊢
    rw [h 51 (by decide) (by decide) (by decide), h 52 (by decide) (by decide) (by decide), h 53 (by decide) (by decide) (by decide), h 54 (by decide) (by decide) (by decide), h 55 (by decide) (by decide) (by decide), h 56 (by decide) (by decide) (by decide), h 57 (by decide) (by decide) (by decide), h 58 (by decide) (by decide) (by decide), h 69 (by decide) (by decide) (by decide), h 70 (by decide) (by decide) (by decide), h 71 (by decide) (by decide) (by decide)]
    exact i8
theorem c_wbec15_1 {dd : Nat} (q : Q none (HH (xrow M 17 (va_cpy (M 3) (M 17) 0 0 10)))) : CW G dd jX7_become [.ref 16, .ref 2] (HH M) Q := by
  refine CW_wp fX7_become rfl rfl rfl ?_
  refine And.intro ⟨by decide, by decide, by decide, by decide, by decide⟩ ?_
  exact q
theorem c_pbec15_1 {dd : Nat} (q : Q none (HH (xrow M 26 (va_cpy (M 12) (M 26) 0 0 144)))) : CW G dd jX1_become [.ref 25, .ref 11] (HH M) Q := by
  refine CW_wp fX1_become rfl rfl rfl ?_
  refine And.intro ⟨by decide, by decide, by decide, by decide, by decide⟩ ?_
  exact q
theorem c_sbec15_1 {dd : Nat} {m : Nat} (hm : M 4 0 = nI m) (hm40 : m ≤ 40) (q : Q none (HH (xrow (xrow (xrow (xrow (xrow (xrow (xup M 18 0 (M 4 0)) 19 (va_cpy (M 5) (M 19) 0 0 (M 4 0).toNatClampNeg)) 20 (va_cpy (M 6) (M 20) 0 0 (M 4 0).toNatClampNeg)) 21 (va_cpy (M 7) (M 21) 0 0 (M 4 0).toNatClampNeg)) 22 (va_cpy (M 8) (M 22) 0 0 (M 4 0).toNatClampNeg)) 23 (va_cpy (M 9) (M 23) 0 0 (M 4 0).toNatClampNeg)) 24 (va_cpy (M 10) (M 24) 0 0 (M 4 0).toNatClampNeg)))) : CW G dd jX3_become [.ref 18, .ref 4] (HH M) Q := by
  have n0 : ¬ M 4 0 < 0 := by rw [hm]; exact nI_pos (by omega)
  have n1 : (0 : Int32).toNatClampNeg + (M 4 0).toNatClampNeg ≤ 40 := by rw [hm, nI_clamp (by omega)]; show 0 + m ≤ 40; omega
  refine CW_wp fX3_become rfl rfl rfl ?_
  refine And.intro ⟨by decide, by decide, n0, n1, n1⟩ ?_
  refine And.intro ⟨by decide, by decide, n0, n1, n1⟩ ?_
  refine And.intro ⟨by decide, by decide, n0, n1, n1⟩ ?_
  refine And.intro ⟨by decide, by decide, n0, n1, n1⟩ ?_
  refine And.intro ⟨by decide, by decide, n0, n1, n1⟩ ?_
  refine And.intro ⟨by decide, by decide, n0, n1, n1⟩ ?_
  exact q
theorem c_become15_1 {dd : Nat} {N : Nat → Int32} (w : Wf N) (hp : PV 1 N M) (q : ∀ M', (∀ r, r < 15 ∨ 28 < r → M' r = M r) → PV 15 N M' → Q none (HH M')) : CW G (dd + 1) jX5_become [.ref 15, .ref 1] (HH M) Q := by
  obtain ⟨p1, p2, p3, p4, p5, p6, p7, p8, p9⟩ := hp
  have h40 := w.2.1.2
  have hm : M 4 0 = nI (sN N) := p2.trans w.2.1.1
  have hc : (M 4 0).toNatClampNeg = sN N := by rw [hm, nI_clamp (by omega)]
  refine CW_wp fX5_become rfl rfl rfl ?_
  refine c_wbec15_1 ?_
  refine c_sbec15_1 (m := sN N) hm h40 ?_
  refine c_pbec15_1 ?_
  refine And.intro ⟨by decide, by decide, by decide, by decide, by decide⟩ ?_
  refine And.intro ⟨by decide, by decide, by decide, by decide, by decide⟩ ?_
  refine q _ (fun r hr => ?_) ⟨p1, p2, p3, p4, fun j hj => ?_, fun p hp => ?_, fun s' hs f hf => ?_, fun j hj => ?_, fun j hj => ?_⟩
  · unfold xup
    rw [xrow_ne (by omega), xrow_ne (by omega), xrow_ne (by omega), xrow_ne (by omega), xrow_ne (by omega), xrow_ne (by omega), xrow_ne (by omega), xrow_ne (by omega), xrow_ne (by omega), xrow_ne (by omega), xrow_ne (by omega), xrow_ne (by omega), xrow_ne (by omega), xrow_ne (by omega)]
  · exact (pk_cpy_in (Nat.zero_le _) (show j < 0 + 100 by omega)).trans ((congrArg (M 13) (show 0 + (j - 0) = j by omega)).trans (p5 j hj))
  · exact (pk_cpy_in (Nat.zero_le _) (show p < 0 + 10 by omega)).trans ((congrArg (M 3) (show 0 + (p - 0) = p by omega)).trans (p6 p hp))
  · have h7 := p7 s' hs f hf
    have hlt : s' < 0 + (M 4 0).toNatClampNeg := by omega
    match f, hf with
    | 0, _ => exact (pk_cpy_in (Nat.zero_le _) hlt).trans ((congrArg (M 5) (show 0 + (s' - 0) = s' by omega)).trans h7)
    | 1, _ => exact (pk_cpy_in (Nat.zero_le _) hlt).trans ((congrArg (M 6) (show 0 + (s' - 0) = s' by omega)).trans h7)
    | 2, _ => exact (pk_cpy_in (Nat.zero_le _) hlt).trans ((congrArg (M 7) (show 0 + (s' - 0) = s' by omega)).trans h7)
    | 3, _ => exact (pk_cpy_in (Nat.zero_le _) hlt).trans ((congrArg (M 8) (show 0 + (s' - 0) = s' by omega)).trans h7)
    | 4, _ => exact (pk_cpy_in (Nat.zero_le _) hlt).trans ((congrArg (M 9) (show 0 + (s' - 0) = s' by omega)).trans h7)
    | 5, _ => exact (pk_cpy_in (Nat.zero_le _) hlt).trans ((congrArg (M 10) (show 0 + (s' - 0) = s' by omega)).trans h7)
    | f + 6, hf => exact absurd hf (by omega)
  · exact (pk_cpy_in (Nat.zero_le _) (show j < 0 + 144 by omega)).trans ((congrArg (M 12) (show 0 + (j - 0) = j by omega)).trans (p8 j hj))
  · exact (pk_cpy_in (Nat.zero_le _) (show j < 0 + 10 by omega)).trans ((congrArg (M 14) (show 0 + (j - 0) = j by omega)).trans (p9 j hj))
theorem c_wbec1_15 {dd : Nat} (q : Q none (HH (xrow M 3 (va_cpy (M 17) (M 3) 0 0 10)))) : CW G dd jX7_become [.ref 2, .ref 16] (HH M) Q := by
  refine CW_wp fX7_become rfl rfl rfl ?_
  refine And.intro ⟨by decide, by decide, by decide, by decide, by decide⟩ ?_
  exact q
theorem c_pbec1_15 {dd : Nat} (q : Q none (HH (xrow M 12 (va_cpy (M 26) (M 12) 0 0 144)))) : CW G dd jX1_become [.ref 11, .ref 25] (HH M) Q := by
  refine CW_wp fX1_become rfl rfl rfl ?_
  refine And.intro ⟨by decide, by decide, by decide, by decide, by decide⟩ ?_
  exact q
theorem c_sbec1_15 {dd : Nat} {m : Nat} (hm : M 18 0 = nI m) (hm40 : m ≤ 40) (q : Q none (HH (xrow (xrow (xrow (xrow (xrow (xrow (xup M 4 0 (M 18 0)) 5 (va_cpy (M 19) (M 5) 0 0 (M 18 0).toNatClampNeg)) 6 (va_cpy (M 20) (M 6) 0 0 (M 18 0).toNatClampNeg)) 7 (va_cpy (M 21) (M 7) 0 0 (M 18 0).toNatClampNeg)) 8 (va_cpy (M 22) (M 8) 0 0 (M 18 0).toNatClampNeg)) 9 (va_cpy (M 23) (M 9) 0 0 (M 18 0).toNatClampNeg)) 10 (va_cpy (M 24) (M 10) 0 0 (M 18 0).toNatClampNeg)))) : CW G dd jX3_become [.ref 4, .ref 18] (HH M) Q := by
  have n0 : ¬ M 18 0 < 0 := by rw [hm]; exact nI_pos (by omega)
  have n1 : (0 : Int32).toNatClampNeg + (M 18 0).toNatClampNeg ≤ 40 := by rw [hm, nI_clamp (by omega)]; show 0 + m ≤ 40; omega
  refine CW_wp fX3_become rfl rfl rfl ?_
  refine And.intro ⟨by decide, by decide, n0, n1, n1⟩ ?_
  refine And.intro ⟨by decide, by decide, n0, n1, n1⟩ ?_
  refine And.intro ⟨by decide, by decide, n0, n1, n1⟩ ?_
  refine And.intro ⟨by decide, by decide, n0, n1, n1⟩ ?_
  refine And.intro ⟨by decide, by decide, n0, n1, n1⟩ ?_
  refine And.intro ⟨by decide, by decide, n0, n1, n1⟩ ?_
  exact q
theorem c_become1_15 {dd : Nat} {N : Nat → Int32} (w : Wf N) (hp : PV 15 N M) (q : ∀ M', (∀ r, r < 1 ∨ 14 < r → M' r = M r) → PV 1 N M' → Q none (HH M')) : CW G (dd + 1) jX5_become [.ref 1, .ref 15] (HH M) Q := by
  obtain ⟨p1, p2, p3, p4, p5, p6, p7, p8, p9⟩ := hp
  have h40 := w.2.1.2
  have hm : M 18 0 = nI (sN N) := p2.trans w.2.1.1
  have hc : (M 18 0).toNatClampNeg = sN N := by rw [hm, nI_clamp (by omega)]
  refine CW_wp fX5_become rfl rfl rfl ?_
  refine c_wbec1_15 ?_
  refine c_sbec1_15 (m := sN N) hm h40 ?_
  refine c_pbec1_15 ?_
  refine And.intro ⟨by decide, by decide, by decide, by decide, by decide⟩ ?_
  refine And.intro ⟨by decide, by decide, by decide, by decide, by decide⟩ ?_
  refine q _ (fun r hr => ?_) ⟨p1, p2, p3, p4, fun j hj => ?_, fun p hp => ?_, fun s' hs f hf => ?_, fun j hj => ?_, fun j hj => ?_⟩
  · unfold xup
    rw [xrow_ne (by omega), xrow_ne (by omega), xrow_ne (by omega), xrow_ne (by omega), xrow_ne (by omega), xrow_ne (by omega), xrow_ne (by omega), xrow_ne (by omega), xrow_ne (by omega), xrow_ne (by omega), xrow_ne (by omega), xrow_ne (by omega), xrow_ne (by omega), xrow_ne (by omega)]
  · exact (pk_cpy_in (Nat.zero_le _) (show j < 0 + 100 by omega)).trans ((congrArg (M 27) (show 0 + (j - 0) = j by omega)).trans (p5 j hj))
  · exact (pk_cpy_in (Nat.zero_le _) (show p < 0 + 10 by omega)).trans ((congrArg (M 17) (show 0 + (p - 0) = p by omega)).trans (p6 p hp))
  · have h7 := p7 s' hs f hf
    have hlt : s' < 0 + (M 18 0).toNatClampNeg := by omega
    match f, hf with
    | 0, _ => exact (pk_cpy_in (Nat.zero_le _) hlt).trans ((congrArg (M 19) (show 0 + (s' - 0) = s' by omega)).trans h7)
    | 1, _ => exact (pk_cpy_in (Nat.zero_le _) hlt).trans ((congrArg (M 20) (show 0 + (s' - 0) = s' by omega)).trans h7)
    | 2, _ => exact (pk_cpy_in (Nat.zero_le _) hlt).trans ((congrArg (M 21) (show 0 + (s' - 0) = s' by omega)).trans h7)
    | 3, _ => exact (pk_cpy_in (Nat.zero_le _) hlt).trans ((congrArg (M 22) (show 0 + (s' - 0) = s' by omega)).trans h7)
    | 4, _ => exact (pk_cpy_in (Nat.zero_le _) hlt).trans ((congrArg (M 23) (show 0 + (s' - 0) = s' by omega)).trans h7)
    | 5, _ => exact (pk_cpy_in (Nat.zero_le _) hlt).trans ((congrArg (M 24) (show 0 + (s' - 0) = s' by omega)).trans h7)
    | f + 6, hf => exact absurd hf (by omega)
  · exact (pk_cpy_in (Nat.zero_le _) (show j < 0 + 144 by omega)).trans ((congrArg (M 26) (show 0 + (j - 0) = j by omega)).trans (p8 j hj))
  · exact (pk_cpy_in (Nat.zero_le _) (show j < 0 + 10 by omega)).trans ((congrArg (M 28) (show 0 + (j - 0) = j by omega)).trans (p9 j hj))
theorem c_wbec29_1 {dd : Nat} (q : Q none (HH (xrow M 31 (va_cpy (M 3) (M 31) 0 0 10)))) : CW G dd jX7_become [.ref 30, .ref 2] (HH M) Q := by
  refine CW_wp fX7_become rfl rfl rfl ?_
  refine And.intro ⟨by decide, by decide, by decide, by decide, by decide⟩ ?_
  exact q
theorem c_pbec29_1 {dd : Nat} (q : Q none (HH (xrow M 40 (va_cpy (M 12) (M 40) 0 0 144)))) : CW G dd jX1_become [.ref 39, .ref 11] (HH M) Q := by
  refine CW_wp fX1_become rfl rfl rfl ?_
  refine And.intro ⟨by decide, by decide, by decide, by decide, by decide⟩ ?_
  exact q
theorem c_sbec29_1 {dd : Nat} {m : Nat} (hm : M 4 0 = nI m) (hm40 : m ≤ 40) (q : Q none (HH (xrow (xrow (xrow (xrow (xrow (xrow (xup M 32 0 (M 4 0)) 33 (va_cpy (M 5) (M 33) 0 0 (M 4 0).toNatClampNeg)) 34 (va_cpy (M 6) (M 34) 0 0 (M 4 0).toNatClampNeg)) 35 (va_cpy (M 7) (M 35) 0 0 (M 4 0).toNatClampNeg)) 36 (va_cpy (M 8) (M 36) 0 0 (M 4 0).toNatClampNeg)) 37 (va_cpy (M 9) (M 37) 0 0 (M 4 0).toNatClampNeg)) 38 (va_cpy (M 10) (M 38) 0 0 (M 4 0).toNatClampNeg)))) : CW G dd jX3_become [.ref 32, .ref 4] (HH M) Q := by
  have n0 : ¬ M 4 0 < 0 := by rw [hm]; exact nI_pos (by omega)
  have n1 : (0 : Int32).toNatClampNeg + (M 4 0).toNatClampNeg ≤ 40 := by rw [hm, nI_clamp (by omega)]; show 0 + m ≤ 40; omega
  refine CW_wp fX3_become rfl rfl rfl ?_
  refine And.intro ⟨by decide, by decide, n0, n1, n1⟩ ?_
  refine And.intro ⟨by decide, by decide, n0, n1, n1⟩ ?_
  refine And.intro ⟨by decide, by decide, n0, n1, n1⟩ ?_
  refine And.intro ⟨by decide, by decide, n0, n1, n1⟩ ?_
  refine And.intro ⟨by decide, by decide, n0, n1, n1⟩ ?_
  refine And.intro ⟨by decide, by decide, n0, n1, n1⟩ ?_
  exact q
theorem c_become29_1 {dd : Nat} {N : Nat → Int32} (w : Wf N) (hp : PV 1 N M) (q : ∀ M', (∀ r, r < 29 ∨ 42 < r → M' r = M r) → PV 29 N M' → Q none (HH M')) : CW G (dd + 1) jX5_become [.ref 29, .ref 1] (HH M) Q := by
  obtain ⟨p1, p2, p3, p4, p5, p6, p7, p8, p9⟩ := hp
  have h40 := w.2.1.2
  have hm : M 4 0 = nI (sN N) := p2.trans w.2.1.1
  have hc : (M 4 0).toNatClampNeg = sN N := by rw [hm, nI_clamp (by omega)]
  refine CW_wp fX5_become rfl rfl rfl ?_
  refine c_wbec29_1 ?_
  refine c_sbec29_1 (m := sN N) hm h40 ?_
  refine c_pbec29_1 ?_
  refine And.intro ⟨by decide, by decide, by decide, by decide, by decide⟩ ?_
  refine And.intro ⟨by decide, by decide, by decide, by decide, by decide⟩ ?_
  refine q _ (fun r hr => ?_) ⟨p1, p2, p3, p4, fun j hj => ?_, fun p hp => ?_, fun s' hs f hf => ?_, fun j hj => ?_, fun j hj => ?_⟩
  · unfold xup
    rw [xrow_ne (by omega), xrow_ne (by omega), xrow_ne (by omega), xrow_ne (by omega), xrow_ne (by omega), xrow_ne (by omega), xrow_ne (by omega), xrow_ne (by omega), xrow_ne (by omega), xrow_ne (by omega), xrow_ne (by omega), xrow_ne (by omega), xrow_ne (by omega), xrow_ne (by omega)]
  · exact (pk_cpy_in (Nat.zero_le _) (show j < 0 + 100 by omega)).trans ((congrArg (M 13) (show 0 + (j - 0) = j by omega)).trans (p5 j hj))
  · exact (pk_cpy_in (Nat.zero_le _) (show p < 0 + 10 by omega)).trans ((congrArg (M 3) (show 0 + (p - 0) = p by omega)).trans (p6 p hp))
  · have h7 := p7 s' hs f hf
    have hlt : s' < 0 + (M 4 0).toNatClampNeg := by omega
    match f, hf with
    | 0, _ => exact (pk_cpy_in (Nat.zero_le _) hlt).trans ((congrArg (M 5) (show 0 + (s' - 0) = s' by omega)).trans h7)
    | 1, _ => exact (pk_cpy_in (Nat.zero_le _) hlt).trans ((congrArg (M 6) (show 0 + (s' - 0) = s' by omega)).trans h7)
    | 2, _ => exact (pk_cpy_in (Nat.zero_le _) hlt).trans ((congrArg (M 7) (show 0 + (s' - 0) = s' by omega)).trans h7)
    | 3, _ => exact (pk_cpy_in (Nat.zero_le _) hlt).trans ((congrArg (M 8) (show 0 + (s' - 0) = s' by omega)).trans h7)
    | 4, _ => exact (pk_cpy_in (Nat.zero_le _) hlt).trans ((congrArg (M 9) (show 0 + (s' - 0) = s' by omega)).trans h7)
    | 5, _ => exact (pk_cpy_in (Nat.zero_le _) hlt).trans ((congrArg (M 10) (show 0 + (s' - 0) = s' by omega)).trans h7)
    | f + 6, hf => exact absurd hf (by omega)
  · exact (pk_cpy_in (Nat.zero_le _) (show j < 0 + 144 by omega)).trans ((congrArg (M 12) (show 0 + (j - 0) = j by omega)).trans (p8 j hj))
  · exact (pk_cpy_in (Nat.zero_le _) (show j < 0 + 10 by omega)).trans ((congrArg (M 14) (show 0 + (j - 0) = j by omega)).trans (p9 j hj))
theorem c_wbec1_29 {dd : Nat} (q : Q none (HH (xrow M 3 (va_cpy (M 31) (M 3) 0 0 10)))) : CW G dd jX7_become [.ref 2, .ref 30] (HH M) Q := by
  refine CW_wp fX7_become rfl rfl rfl ?_
  refine And.intro ⟨by decide, by decide, by decide, by decide, by decide⟩ ?_
  exact q
theorem c_pbec1_29 {dd : Nat} (q : Q none (HH (xrow M 12 (va_cpy (M 40) (M 12) 0 0 144)))) : CW G dd jX1_become [.ref 11, .ref 39] (HH M) Q := by
  refine CW_wp fX1_become rfl rfl rfl ?_
  refine And.intro ⟨by decide, by decide, by decide, by decide, by decide⟩ ?_
  exact q
theorem c_sbec1_29 {dd : Nat} {m : Nat} (hm : M 32 0 = nI m) (hm40 : m ≤ 40) (q : Q none (HH (xrow (xrow (xrow (xrow (xrow (xrow (xup M 4 0 (M 32 0)) 5 (va_cpy (M 33) (M 5) 0 0 (M 32 0).toNatClampNeg)) 6 (va_cpy (M 34) (M 6) 0 0 (M 32 0).toNatClampNeg)) 7 (va_cpy (M 35) (M 7) 0 0 (M 32 0).toNatClampNeg)) 8 (va_cpy (M 36) (M 8) 0 0 (M 32 0).toNatClampNeg)) 9 (va_cpy (M 37) (M 9) 0 0 (M 32 0).toNatClampNeg)) 10 (va_cpy (M 38) (M 10) 0 0 (M 32 0).toNatClampNeg)))) : CW G dd jX3_become [.ref 4, .ref 32] (HH M) Q := by
  have n0 : ¬ M 32 0 < 0 := by rw [hm]; exact nI_pos (by omega)
  have n1 : (0 : Int32).toNatClampNeg + (M 32 0).toNatClampNeg ≤ 40 := by rw [hm, nI_clamp (by omega)]; show 0 + m ≤ 40; omega
  refine CW_wp fX3_become rfl rfl rfl ?_
  refine And.intro ⟨by decide, by decide, n0, n1, n1⟩ ?_
  refine And.intro ⟨by decide, by decide, n0, n1, n1⟩ ?_
  refine And.intro ⟨by decide, by decide, n0, n1, n1⟩ ?_
  refine And.intro ⟨by decide, by decide, n0, n1, n1⟩ ?_
  refine And.intro ⟨by decide, by decide, n0, n1, n1⟩ ?_
  refine And.intro ⟨by decide, by decide, n0, n1, n1⟩ ?_
  exact q
theorem c_become1_29 {dd : Nat} {N : Nat → Int32} (w : Wf N) (hp : PV 29 N M) (q : ∀ M', (∀ r, r < 1 ∨ 14 < r → M' r = M r) → PV 1 N M' → Q none (HH M')) : CW G (dd + 1) jX5_become [.ref 1, .ref 29] (HH M) Q := by
  obtain ⟨p1, p2, p3, p4, p5, p6, p7, p8, p9⟩ := hp
  have h40 := w.2.1.2
  have hm : M 32 0 = nI (sN N) := p2.trans w.2.1.1
  have hc : (M 32 0).toNatClampNeg = sN N := by rw [hm, nI_clamp (by omega)]
  refine CW_wp fX5_become rfl rfl rfl ?_
  refine c_wbec1_29 ?_
  refine c_sbec1_29 (m := sN N) hm h40 ?_
  refine c_pbec1_29 ?_
  refine And.intro ⟨by decide, by decide, by decide, by decide, by decide⟩ ?_
  refine And.intro ⟨by decide, by decide, by decide, by decide, by decide⟩ ?_
  refine q _ (fun r hr => ?_) ⟨p1, p2, p3, p4, fun j hj => ?_, fun p hp => ?_, fun s' hs f hf => ?_, fun j hj => ?_, fun j hj => ?_⟩
  · unfold xup
    rw [xrow_ne (by omega), xrow_ne (by omega), xrow_ne (by omega), xrow_ne (by omega), xrow_ne (by omega), xrow_ne (by omega), xrow_ne (by omega), xrow_ne (by omega), xrow_ne (by omega), xrow_ne (by omega), xrow_ne (by omega), xrow_ne (by omega), xrow_ne (by omega), xrow_ne (by omega)]
  · exact (pk_cpy_in (Nat.zero_le _) (show j < 0 + 100 by omega)).trans ((congrArg (M 41) (show 0 + (j - 0) = j by omega)).trans (p5 j hj))
  · exact (pk_cpy_in (Nat.zero_le _) (show p < 0 + 10 by omega)).trans ((congrArg (M 31) (show 0 + (p - 0) = p by omega)).trans (p6 p hp))
  · have h7 := p7 s' hs f hf
    have hlt : s' < 0 + (M 32 0).toNatClampNeg := by omega
    match f, hf with
    | 0, _ => exact (pk_cpy_in (Nat.zero_le _) hlt).trans ((congrArg (M 33) (show 0 + (s' - 0) = s' by omega)).trans h7)
    | 1, _ => exact (pk_cpy_in (Nat.zero_le _) hlt).trans ((congrArg (M 34) (show 0 + (s' - 0) = s' by omega)).trans h7)
    | 2, _ => exact (pk_cpy_in (Nat.zero_le _) hlt).trans ((congrArg (M 35) (show 0 + (s' - 0) = s' by omega)).trans h7)
    | 3, _ => exact (pk_cpy_in (Nat.zero_le _) hlt).trans ((congrArg (M 36) (show 0 + (s' - 0) = s' by omega)).trans h7)
    | 4, _ => exact (pk_cpy_in (Nat.zero_le _) hlt).trans ((congrArg (M 37) (show 0 + (s' - 0) = s' by omega)).trans h7)
    | 5, _ => exact (pk_cpy_in (Nat.zero_le _) hlt).trans ((congrArg (M 38) (show 0 + (s' - 0) = s' by omega)).trans h7)
    | f + 6, hf => exact absurd hf (by omega)
  · exact (pk_cpy_in (Nat.zero_le _) (show j < 0 + 144 by omega)).trans ((congrArg (M 40) (show 0 + (j - 0) = j by omega)).trans (p8 j hj))
  · exact (pk_cpy_in (Nat.zero_le _) (show j < 0 + 10 by omega)).trans ((congrArg (M 42) (show 0 + (j - 0) = j by omega)).trans (p9 j hj))
theorem m_copyRow60 {d : Nat} (q : ∀ f, (∀ k, k < 598 → f k = M 60 k) → Q none (HH (xrow M 61 f))) : CW G d jX9_copyRow [.ref 60, .ref 61] (HH M) Q := by
  refine CW_wp fX9_copyRow rfl rfl rfl ?_
  have key : ∀ f, (∀ k, k < 0 → f k = M 60 k) → Ev G d jX9_copyRow 2 [some (.ref 60), some (.ref 61), some (.int (nI 0))] [] (HH (xrow M 61 f)) 0 0 Q := by
    refine dn (E := fun i => ∀ f, (∀ k, k < i → f k = M 60 k) → Ev G d jX9_copyRow 2 [some (.ref 60), some (.ref 61), some (.int (nI i))] [] (HH (xrow M 61 f)) 0 0 Q) (Nat.zero_le 598) (fun f hf => ?_) (fun i _ h2 ih f hf => ?_)
    · refine Ev_wp fX9_copyRow rfl ?_
      exact q f hf
    · refine Ev_wp fX9_copyRow rfl ?_
      refine xelse (nI_ge (b := 598) h2 (by decide)) ?_
      refine xix (n := 598) i rfl h2 (by decide) (fun e => ?_)
      refine xix (n := 598) i rfl h2 (by decide) (fun e2 => ?_)
      rw [e, show xrow M 61 f 60 i = M 60 i from rfl, xup_row]
      have h5 := ih (upd f i (M 60 i)) (fun k hk => by
        unfold upd
        by_cases z : k = i
        · subst z; rw [if_pos rfl]
        · rw [if_neg z]; exact hf k (by omega))
      rw [nI_succ i] at h5
      exact h5
  have h0 := key (M 61) (fun k hk => absurd hk (Nat.not_lt_zero _))
  rw [xrow_self] at h0
  exact h0
theorem m_copyRow61 {d : Nat} (q : ∀ f, (∀ k, k < 598 → f k = M 61 k) → Q none (HH (xrow M 60 f))) : CW G d jX9_copyRow [.ref 61, .ref 60] (HH M) Q := by
  refine CW_wp fX9_copyRow rfl rfl rfl ?_
  have key : ∀ f, (∀ k, k < 0 → f k = M 61 k) → Ev G d jX9_copyRow 2 [some (.ref 61), some (.ref 60), some (.int (nI 0))] [] (HH (xrow M 60 f)) 0 0 Q := by
    refine dn (E := fun i => ∀ f, (∀ k, k < i → f k = M 61 k) → Ev G d jX9_copyRow 2 [some (.ref 61), some (.ref 60), some (.int (nI i))] [] (HH (xrow M 60 f)) 0 0 Q) (Nat.zero_le 598) (fun f hf => ?_) (fun i _ h2 ih f hf => ?_)
    · refine Ev_wp fX9_copyRow rfl ?_
      exact q f hf
    · refine Ev_wp fX9_copyRow rfl ?_
      refine xelse (nI_ge (b := 598) h2 (by decide)) ?_
      refine xix (n := 598) i rfl h2 (by decide) (fun e => ?_)
      refine xix (n := 598) i rfl h2 (by decide) (fun e2 => ?_)
      rw [e, show xrow M 60 f 61 i = M 61 i from rfl, xup_row]
      have h5 := ih (upd f i (M 61 i)) (fun k hk => by
        unfold upd
        by_cases z : k = i
        · subst z; rw [if_pos rfl]
        · rw [if_neg z]; exact hf k (by omega))
      rw [nI_succ i] at h5
      exact h5
  have h0 := key (M 60) (fun k hk => absurd hk (Nat.not_lt_zero _))
  rw [xrow_self] at h0
  exact h0
theorem st_image (I : Iv 0 M) (q : ∀ r M1, Aft G jX9_image [.ref 59] r M1 → Q (some (.int r)) (HH M1)) : CW G 11 jX8_image [.ref 0] (HH M) Q := by
  have hw := I.1
  have hp := I.2.1
  have hsr := I.2.2.2.2.1
  have h40 := hw.2.1.2
  have hn : M 60 = M 60 := rfl
  refine CW_wp fX8_image rfl rfl rfl ?_
  refine c_become15_1 hw hp (fun M1 hf hpv => ?_)
  have e60 : M1 60 = M 60 := hf 60 (by decide)
  refine q _ _ (fun Q1 q1 => ?_)
  refine CW_wp fX9_image rfl rfl rfl ?_
  refine m_copyRow60 (fun f hff => ?_)
  have hff2 : ∀ k, k < 598 → f k = M 60 k := fun k hk => (hff k hk).trans (by rw [← e60]; rfl)
  refine q1 _ (I.img (fun r h0 h59 h61 hr => ?_) (fun k hk => ?_) (Or.inr ⟨rfl, rfl, hw.ext hff2, ?_⟩))
  · unfold xup
    rw [xrow_ne h59, xrow_ne h61, xrow_ne h0]
    exact hf r (by omega)
  · show upd (M1 59) 2 1 k = M 59 k
    rw [pk_un hk, hf 59 (by decide)]
  · exact PV.up (PV.row (PV.up (PV.ext hff2 hw hpv) (by decide)) (by decide)) (by decide)
theorem st_undo (I : Iv 0 M) (q : ∀ r M1, Aft G jX9_undo [.ref 59] r M1 → Q (some (.int r)) (HH M1)) : CW G 11 jX8_undo [.ref 0] (HH M) Q := by
  have hw := I.1
  have hp := I.2.1
  have hsr := I.2.2.2.2.1
  have h40 := hw.2.1.2
  have hn : M 60 = M 60 := rfl
  refine CW_wp fX8_undo rfl rfl rfl ?_
  rcases I.2.2.1 with ⟨h1, h2⟩ | ⟨h1, h2, wk, pk⟩
  · refine xif h1 ?_
    refine c_fin3 ?_
    refine q _ _ (fun Q1 q1 => ?_)
    refine CW_wp fX9_undo rfl rfl rfl ?_
    refine xif (show fc 3 M 59 2 = 0 from h2) ?_
    exact m_fin3 (iv_fc I) q1
  · refine xelse (b1 h1) ?_
    refine c_become1_15 wk pk (fun M1 hf hpv => ?_)
    have e61 : M1 61 = M 61 := hf 61 (by decide)
    have e59 : M1 59 = M 59 := hf 59 (by decide)
    refine q (M1 4 0) M1 (fun Q1 q1 => ?_)
    refine CW_wp fX9_undo rfl rfl rfl ?_
    refine xelse (show ¬ M1 59 2 = 0 from by rw [e59, h2]; decide) ?_
    refine m_copyRow61 (fun f hff => ?_)
    have hff2 : ∀ k, k < 598 → f k = M 61 k := fun k hk => (hff k hk).trans (by rw [e61])
    rw [show M1 4 0 = f 1 from hpv.2.1.trans (hff2 1 (by decide)).symm] at q1
    refine q1 _ (I.und (fun r hr h59 h60 => ?_) ?_ (fun k hk => ?_) rfl (wk.ext hff2) ?_)
    · unfold xup
      rw [xrow_ne h59, xrow_ne h60]
      exact hf r (by omega)
    · exact hf 0 (by decide)
    · show upd (M1 59) 5 0 k = M 59 k
      rw [pk_un hk, e59]
    · exact PV.up (PV.row (PV.ext hff2 wk hpv) (by decide)) (by decide)
end I1
/-- the bytes as class and model take them -/
def byC (x : Int32) (k : Nat) : Int32 := (x.toUInt32 >>> ((8 * nI k).toUInt32 &&& Int32.toUInt32 31)).toInt32 &&& 255
def byM (x : Int32) (k : Nat) : Int32 := x >>> (8 * nI k &&& 31) &&& 255
theorem bt255 : ∀ i, i < 32 → bt 255 i = decide (i < 8) := by decide +kernel
theorem by_eq (x : Int32) {k : Nat} (hk : k < 4) : byC x k = byM x k ∧ ∃ b, b < 256 ∧ byM x k = nI b := by
  obtain ⟨n, hn, rfl⟩ := wb_of32 x
  have e8 : (8 : Int32) * nI k = nI (8 * k) := im rfl rfl
  have h1 : byC (nI n) k = nI (n / 2 ^ (8 * k) % 256) := by
    unfold byC
    rw [e8, show ((nI n).toUInt32 >>> ((nI (8 * k)).toUInt32 &&& Int32.toUInt32 31)).toInt32 = nI (n / 2 ^ (8 * k)) from iu_e hn (by omega)]
    exact pk_andN (Nat.lt_of_le_of_lt (Nat.div_le_self _ _) hn) 8 (by decide)
  have h2 : byM (nI n) k = nI (n / 2 ^ (8 * k) % 256) := by
    unfold byM
    rw [e8]
    refine eq_nI (fun i hi => ?_)
    rw [b_and, b_sshr _ (by omega) _ hi, bt255 i hi, show (256 : Nat) = 2 ^ 8 from rfl, Nat.testBit_mod_two_pow, Nat.testBit_div_two_pow]
    by_cases c : i < 8
    · rw [if_pos (by omega), bt_nI (by omega), decide_eq_true c, Bool.and_true, Bool.true_and, Nat.add_comm]
    · rw [decide_eq_false c, Bool.and_false, Bool.false_and]
  exact ⟨h1.trans h2.symm, n / 2 ^ (8 * k) % 256, Nat.mod_lt _ (by decide), h2⟩
section F1
variable {G : xG} {M : xM} {Q : Option Value → xH → Prop}
def tpM (M : xM) (a b c : Nat) (F : Nat → Int32) (v : Int32) : xM := xup (xrow M a F) b c v
theorem tp_s (M : xM) {a b : Nat} (h : a ≠ b) (c : Nat) (F : Nat → Int32) (v v2 x : Int32) (p : Nat) : xup (xup (tpM M a b c F v) a p x) b c v2 = tpM M a b c (upd F p x) v2 := by
  have hb : ¬ b = a := fun z => h z.symm
  funext i j
  unfold tpM xup xrow upd
  by_cases h1 : i = b
  · subst h1
    by_cases h2 : j = c
    · simp [h2]
    · simp [h2, hb]
  · by_cases h2 : i = a
    · subst h2
      simp [h1, hb]
    · simp [h1, h2]
theorem tp_0 (M : xM) {a b : Nat} (h : a ≠ b) (c : Nat) : tpM M a b c (M a) (M b c) = M := by
  unfold tpM
  rw [xrow_self]
  funext i
  unfold xup xrow
  by_cases h1 : i = b
  · rw [if_pos h1, h1]
    funext j
    unfold upd
    by_cases h2 : j = c
    · rw [if_pos h2, h2]
    · rw [if_neg h2]
  · rw [if_neg h1]
theorem c_addL {d : Nat} {x y : Int32} (T n : Nat) (hn : 1 ≤ n ∧ n ≤ 4) (hT : T + n ≤ 120) (hy : y = nI n) (h43 : M 43 0 = nI T) (q : Q none (HH (tpM M 44 43 0 (ldF (M 44) (fun j => byC x (n - 1 - j)) T n) (nI (T + n))))) : CW G d jX2_add [.ref 43, .int x, .int y] (HH M) Q := by
  refine CW_wp fX2_add rfl rfl rfl ?_
  have key : ∀ k, k ≤ n → Ev G d jX2_add 4 [some (.ref 43), some (.int x), none, some (.int (nI k + (-1)))] [] (HH (tpM M 44 43 0 (ldF (M 44) (fun j => byC x (n - 1 - j)) T (n - k)) (nI (T + (n - k))))) 0 0 Q := by
    intro k
    induction k with
    | zero =>
      intro _
      refine Ev_wp fX2_add rfl ?_
      exact q
    | succ k ih =>
      intro hk
      have h5 := ih (by omega)
      rw [show n - k = (n - (k + 1)) + 1 by omega, ← ld_s, ← Nat.add_assoc, nI_succ] at h5
      rw [pk_m1]
      refine Ev_wp fX2_add rfl ?_
      refine xelse (nI_pos (by omega)) ?_
      refine xix (n := 120) (T + (n - (k + 1))) rfl (by omega) (by decide) (fun e => ?_)
      rw [e]
      rw [← tp_s M (show 44 ≠ 43 by decide) 0 _ (nI (T + (n - (k + 1)))) (nI (T + (n - (k + 1))) + 1), show n - 1 - (n - (k + 1)) = k by omega] at h5
      exact h5
  have k2 := key n (Nat.le_refl _)
  rw [Nat.sub_self, ld_0, Nat.add_zero, ← h43, tp_0 M (by decide), show nI n + (-1) = y - 1 by rw [hy, Int32.sub_eq_add_neg]] at k2
  exact k2
theorem m_feedL {x : Int32} (T n : Nat) (hn : 1 ≤ n ∧ n ≤ 4) (hT : T + n ≤ 120) (h59 : M 59 10 = nI T) (q : Q (some (.int (nI (T + n)))) (HH (tpM M 66 59 10 (ldF (M 66) (fun j => byM x (n - 1 - j)) T n) (nI (T + n))))) : Ev G 11 jX9_feed 38 [some (.ref 59), some (.int x), none, some (.int (nI n + (-1)))] [] (HH M) 0 0 Q := by
  have key : ∀ k, k ≤ n → Ev G 11 jX9_feed 38 [some (.ref 59), some (.int x), none, some (.int (nI k + (-1)))] [] (HH (tpM M 66 59 10 (ldF (M 66) (fun j => byM x (n - 1 - j)) T (n - k)) (nI (T + (n - k))))) 0 0 Q := by
    intro k
    induction k with
    | zero =>
      intro _
      refine Ev_wp fX9_feed rfl ?_
      exact q
    | succ k ih =>
      intro hk
      have h5 := ih (by omega)
      rw [show n - k = (n - (k + 1)) + 1 by omega, ← ld_s, ← Nat.add_assoc, nI_succ] at h5
      rw [pk_m1]
      refine Ev_wp fX9_feed rfl ?_
      refine xelse (nI_pos (by omega)) ?_
      refine xix (n := 120) (T + (n - (k + 1))) rfl (by omega) (by decide) (fun e => ?_)
      rw [e]
      rw [← tp_s M (show 66 ≠ 59 by decide) 10 _ (nI (T + (n - (k + 1)))) (nI (T + (n - (k + 1))) + 1), show n - 1 - (n - (k + 1)) = k by omega] at h5
      exact h5
  have k2 := key n (Nat.le_refl _)
  rw [Nat.sub_self, ld_0, Nat.add_zero, ← h59, tp_0 M (by decide)] at k2
  exact k2
theorem iv_feed (I : Iv 0 M) (x : Int32) (T n : Nat) (hn : 1 ≤ n ∧ n ≤ 4) (hT : T + n ≤ 120) (h43 : M 43 0 = nI T) (h59 : M 59 10 = nI T) (ht : ∀ i, i < T → M 44 i = M 66 i ∧ ∃ b, b < 256 ∧ M 66 i = nI b) : Iv 0 (tpM (tpM M 44 43 0 (ldF (M 44) (fun j => byC x (n - 1 - j)) T n) (nI (T + n))) 66 59 10 (ldF (M 66) (fun j => byM x (n - 1 - j)) T n) (nI (T + n))) := by
  obtain ⟨i1, i2, i3, i4, i5, i6, i7, i8⟩ := I
  refine ⟨i1, PV.up (PV.row (PV.up (PV.row i2 (by decide)) (by decide)) (by decide)) (by decide), ?_, i4, i5, i6, ⟨T + n, hT, rfl, rfl, fun i hi => ?_⟩, i8⟩
  · rcases i3 with i3 | ⟨a, b, c, d⟩
    · exact Or.inl i3
    · exact Or.inr ⟨a, b, c, PV.up (PV.row (PV.up (PV.row d (by decide)) (by decide)) (by decide)) (by decide)⟩
  · show ldF (M 44) (fun j => byC x (n - 1 - j)) T n i = ldF (M 66) (fun j => byM x (n - 1 - j)) T n i ∧ ∃ b, b < 256 ∧ ldF (M 66) (fun j => byM x (n - 1 - j)) T n i = nI b
    by_cases c : i < T
    · rw [ld_un (by omega), ld_un (by omega)]
      exact ht i c
    · rw [ld_in (by omega) (by omega), ld_in (by omega) (by omega)]
      exact by_eq x (by omega)
theorem st_feed (I : Iv 0 M) (x y : Int32) (q : ∀ r M1, Aft G jX9_feed [.ref 59, .int x, .int y] r M1 → Q (some (.int r)) (HH M1)) : CW G 11 jX8_feed [.ref 0, .int x, .int y] (HH M) Q := by
  have hw := I.1
  have hp := I.2.1
  have hsr := I.2.2.2.2.1
  have h40 := hw.2.1.2
  have hn : M 60 = M 60 := rfl
  refine CW_wp fX8_feed rfl rfl rfl ?_
  obtain ⟨T, hT, t1, t2, t3⟩ := I.2.2.2.2.2.2.1
  rcases n_i1 y 4 (by decide) with ⟨n, hn1, hn2, ey⟩ | ⟨hy, ny⟩
  · refine xelse (by rw [ey]; exact nI_nlt (b := 1) hn1 (by omega)) ?_
    refine xif (by rw [ey]; exact nI_le (b := 4) hn2 (by decide)) ?_
    refine xle (T + n) 120 (ia t1 ey) rfl (by omega) (by decide) (fun c => ?_) (fun c => ?_)
    · refine c_addL T n ⟨hn1, hn2⟩ c ey t1 ?_
      refine (show Q (some (.int (nI (T + n)))) (HH (tpM M 44 43 0 (ldF (M 44) (fun j => byC x (n - 1 - j)) T n) (nI (T + n)))) from ?_)
      refine q _ _ (fun Q1 q1 => ?_)
      refine CW_wp fX9_feed rfl rfl rfl ?_
      refine m_within_t n 1 4 ey rfl rfl hn1 hn2 (by decide) ?_
      refine xl1 (l := (1 : Int32) = 0) (by decide) ?_
      refine xle (T + n) 120 (show M 59 10 + y = nI (T + n) from ia t2 ey) rfl (by omega) (by decide) (fun c2 => ?_) (fun c2 => absurd c2 (by omega))
      have h9 := m_feedL (G := G) (M := tpM M 44 43 0 (ldF (M 44) (fun j => byC x (n - 1 - j)) T n) (nI (T + n))) (Q := Q1) (x := x) T n ⟨hn1, hn2⟩ c t2 (q1 _ (iv_feed I x T n ⟨hn1, hn2⟩ c t1 t2 t3))
      rw [show nI n + (-1) = y - 1 by rw [ey, Int32.sub_eq_add_neg]] at h9
      exact h9
    · refine c_fin1 ?_
      refine q _ _ (fun Q1 q1 => ?_)
      refine CW_wp fX9_feed rfl rfl rfl ?_
      refine m_within_t n 1 4 ey rfl rfl hn1 hn2 (by decide) ?_
      refine xl1 (l := (1 : Int32) = 0) (by decide) ?_
      refine xle (T + n) 120 (show M 59 10 + y = nI (T + n) from ia t2 ey) rfl (by omega) (by decide) (fun c2 => absurd c2 (by omega)) (fun c2 => ?_)
      exact m_fin1 (iv_fc I) q1
  · refine xite (fun c => ?_) (fun c => ?_)
    · refine c_fin0 ?_
      refine q _ _ (fun Q1 q1 => ?_)
      refine CW_wp fX9_feed rfl rfl rfl ?_
      refine m_within_f 1 4 rfl rfl (by decide) (by decide) ny ?_
      exact m_fin0 (iv_fc I) q1
    · refine xelse (by exact Int32.not_le.mpr (hy.resolve_left c)) ?_
      refine c_fin0 ?_
      refine q _ _ (fun Q1 q1 => ?_)
      refine CW_wp fX9_feed rfl rfl rfl ?_
      refine m_within_f 1 4 rfl rfl (by decide) (by decide) ny ?_
      exact m_fin0 (iv_fc I) q1
end F1
