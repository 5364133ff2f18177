/-! Words and numbers at hand: the class's side. -/
def wdT (b : Nat → Nat) (T e i : Nat) : Bool := decide (tkT b T e = 1) && (decide (enT b T e - stT b T e = xslen i) && !(anyN (fun j => decide (nI (b (stT b T e + j)) ≠ xsbyt i j)) (xslen i)))
def nuT (b : Nat → Nat) (T e lo hi : Nat) : Bool := decide (tkT b T e = 2) && (decide (lo ≤ vT b T e) && decide (vT b T e ≤ hi))
theorem nu_iff {b : Nat → Nat} {T e lo hi : Nat} : nuT b T e lo hi = true ↔ tkT b T e = 2 ∧ lo ≤ vT b T e ∧ vT b T e ≤ hi := by
  unfold nuT
  simp only [Bool.and_eq_true, decide_eq_true_eq]
theorem wd_1 {b : Nat → Nat} {T e i : Nat} (h : wdT b T e i = true) : tkT b T e = 1 := by
  unfold wdT at h
  simp only [Bool.and_eq_true, decide_eq_true_eq] at h
  exact h.1
theorem wd_inj {b : Nat → Nat} {T e i j : Nat} (hi : i < 15) (hj : j < 15) (h1 : wdT b T e i = true) (h2 : wdT b T e j = true) : i = j := by
  have key : ∀ i, i < 15 → ∀ j, j < 15 → xslen i = xslen j → (∀ k, k < xslen i → xsbyt i k = xsbyt j k) → i = j := by decide +kernel
  unfold wdT at h1 h2
  simp only [Bool.and_eq_true, decide_eq_true_eq, Bool.not_eq_true'] at h1 h2
  have e1 : xslen i = xslen j := h1.2.1.symm.trans h2.2.1
  have at1 : ∀ k, k < xslen i → nI (b (stT b T e + k)) = xsbyt i k := fun k hk => by
    by_cases z : nI (b (stT b T e + k)) = xsbyt i k
    · exact z
    · have := (anyN_iff (fun j => decide (nI (b (stT b T e + j)) ≠ xsbyt i j)) (xslen i)).mpr ⟨k, hk, decide_eq_true z⟩
      rw [h1.2.2] at this; cases this
  have at2 : ∀ k, k < xslen j → nI (b (stT b T e + k)) = xsbyt j k := fun k hk => by
    by_cases z : nI (b (stT b T e + k)) = xsbyt j k
    · exact z
    · have := (anyN_iff (fun i => decide (nI (b (stT b T e + i)) ≠ xsbyt j i)) (xslen j)).mpr ⟨k, hk, decide_eq_true z⟩
      rw [h2.2.2] at this; cases this
  exact key i hi j hj e1 (fun k hk => (at1 k hk).symm.trans (at2 k (by omega)))
section LD
variable {G : xG} {d : Nat} {M : xM} {Q : Option Value → xH → Prop} {b : Nat → Nat} {T : Nat}
theorem c_isAtHand0 (tp : TpC b T M) (e : Nat) (he : e ≤ T) (lx : LxC b T e M) (q1 : wdT b T e 0 = true → Q (some (.int 1)) (HH M)) (q0 : wdT b T e 0 = false → Q (some (.int 0)) (HH M)) : CW G (d + 4) jX2_isAtHand [.ref 43, .ref 1100] (HH M) Q := by
  obtain ⟨t1, t2, t3, t4⟩ := tp
  obtain ⟨l1, l2, l3, l4⟩ := lx
  have hb := en_b b T e he
  have htk := tk_le b T e
  have hl : xslen 0 < 16 := by decide
  refine CW_wp fX2_isAtHand rfl rfl rfl ?_
  refine xeq (tkT b T e) 1 l1 rfl (by omega) (by decide) (fun c => ?_) (fun c => q0 (by unfold wdT; rw [decide_eq_false c]; rfl))
  refine c_length 0 (by decide) ?_
  refine xeq (enT b T e - stT b T e) (xslen 0) (isb l3 l2 hb.1) rfl (by omega) (by omega) (fun c2 => ?_) (fun c2 => q0 (by unfold wdT; rw [decide_eq_false c2]; simp))
  have ew : wdT b T e 0 = !(anyN (fun j => decide (nI (b (stT b T e + j)) ≠ xsbyt 0 j)) (xslen 0)) := by
    unfold wdT
    rw [decide_eq_true c, decide_eq_true c2]
    rfl
  have key : anyN (fun j => decide (nI (b (stT b T e + j)) ≠ xsbyt 0 j)) 0 = false → Ev G (d + 4) jX2_isAtHand 28 [some (.ref 43), some (.ref 1100), some (.int (nI 0))] [] (HH M) 0 0 Q := by
    refine dn (E := fun j => anyN (fun j => decide (nI (b (stT b T e + j)) ≠ xsbyt 0 j)) j = false → Ev G (d + 4) jX2_isAtHand 28 [some (.ref 43), some (.ref 1100), some (.int (nI j))] [] (HH M) 0 0 Q) (Nat.zero_le (xslen 0)) (fun hn => ?_) (fun j _ hj ih hn => ?_)
    · refine Ev_wp fX2_isAtHand rfl ?_
      refine c_length 0 (by decide) ?_
      exact q1 (by rw [ew, hn]; rfl)
    · refine Ev_wp fX2_isAtHand rfl ?_
      refine c_length 0 (by decide) ?_
      refine xelse (nI_ge hj (by omega)) ?_
      refine xix (n := 120) (stT b T e + j) (ia l2 rfl) (by omega) (by decide) (fun e9 => ?_)
      rw [e9, t3 _ (by omega)]
      refine c_charAt 0 (by decide) j hj ?_
      rw [nI_succ j] at ih
      refine xite (fun c3 => ?_) (fun c3 => ?_)
      · refine ih ?_
        rw [anyN_s, hn, decide_eq_false (by simpa using c3)]
        rfl
      · refine q0 ?_
        rw [ew, (anyN_iff _ _).mpr ⟨j, hj, decide_eq_true c3⟩]
        rfl
  exact key rfl
theorem c_take0 (tp : TpC b T M) (e : Nat) (he : e ≤ T) (lx : LxC b T e M) (q1 : wdT b T e 0 = true → ∀ M', CfM M M' → LxC b T (enT b T e) M' → Q (some (.int 1)) (HH M')) (q0 : wdT b T e 0 = false → Q (some (.int 0)) (HH M)) : CW G (d + 5) jX2_take [.ref 43, .ref 1100] (HH M) Q := by
  refine CW_wp fX2_take rfl rfl rfl ?_
  refine c_isAtHand0 tp e he lx (fun c => ?_) (fun c => ?_)
  · exact c_next tp (enT b T e) (en_b b T e he).2.1 lx.2.2.1 (fun M' hm hl => q1 c M' hm hl)
  · exact q0 c
theorem c_isAtHand1 (tp : TpC b T M) (e : Nat) (he : e ≤ T) (lx : LxC b T e M) (q1 : wdT b T e 1 = true → Q (some (.int 1)) (HH M)) (q0 : wdT b T e 1 = false → Q (some (.int 0)) (HH M)) : CW G (d + 4) jX2_isAtHand [.ref 43, .ref 1101] (HH M) Q := by
  obtain ⟨t1, t2, t3, t4⟩ := tp
  obtain ⟨l1, l2, l3, l4⟩ := lx
  have hb := en_b b T e he
  have htk := tk_le b T e
  have hl : xslen 1 < 16 := by decide
  refine CW_wp fX2_isAtHand rfl rfl rfl ?_
  refine xeq (tkT b T e) 1 l1 rfl (by omega) (by decide) (fun c => ?_) (fun c => q0 (by unfold wdT; rw [decide_eq_false c]; rfl))
  refine c_length 1 (by decide) ?_
  refine xeq (enT b T e - stT b T e) (xslen 1) (isb l3 l2 hb.1) rfl (by omega) (by omega) (fun c2 => ?_) (fun c2 => q0 (by unfold wdT; rw [decide_eq_false c2]; simp))
  have ew : wdT b T e 1 = !(anyN (fun j => decide (nI (b (stT b T e + j)) ≠ xsbyt 1 j)) (xslen 1)) := by
    unfold wdT
    rw [decide_eq_true c, decide_eq_true c2]
    rfl
  have key : anyN (fun j => decide (nI (b (stT b T e + j)) ≠ xsbyt 1 j)) 0 = false → Ev G (d + 4) jX2_isAtHand 28 [some (.ref 43), some (.ref 1101), some (.int (nI 0))] [] (HH M) 0 0 Q := by
    refine dn (E := fun j => anyN (fun j => decide (nI (b (stT b T e + j)) ≠ xsbyt 1 j)) j = false → Ev G (d + 4) jX2_isAtHand 28 [some (.ref 43), some (.ref 1101), some (.int (nI j))] [] (HH M) 0 0 Q) (Nat.zero_le (xslen 1)) (fun hn => ?_) (fun j _ hj ih hn => ?_)
    · refine Ev_wp fX2_isAtHand rfl ?_
      refine c_length 1 (by decide) ?_
      exact q1 (by rw [ew, hn]; rfl)
    · refine Ev_wp fX2_isAtHand rfl ?_
      refine c_length 1 (by decide) ?_
      refine xelse (nI_ge hj (by omega)) ?_
      refine xix (n := 120) (stT b T e + j) (ia l2 rfl) (by omega) (by decide) (fun e9 => ?_)
      rw [e9, t3 _ (by omega)]
      refine c_charAt 1 (by decide) j hj ?_
      rw [nI_succ j] at ih
      refine xite (fun c3 => ?_) (fun c3 => ?_)
      · refine ih ?_
        rw [anyN_s, hn, decide_eq_false (by simpa using c3)]
        rfl
      · refine q0 ?_
        rw [ew, (anyN_iff _ _).mpr ⟨j, hj, decide_eq_true c3⟩]
        rfl
  exact key rfl
theorem c_take1 (tp : TpC b T M) (e : Nat) (he : e ≤ T) (lx : LxC b T e M) (q1 : wdT b T e 1 = true → ∀ M', CfM M M' → LxC b T (enT b T e) M' → Q (some (.int 1)) (HH M')) (q0 : wdT b T e 1 = false → Q (some (.int 0)) (HH M)) : CW G (d + 5) jX2_take [.ref 43, .ref 1101] (HH M) Q := by
  refine CW_wp fX2_take rfl rfl rfl ?_
  refine c_isAtHand1 tp e he lx (fun c => ?_) (fun c => ?_)
  · exact c_next tp (enT b T e) (en_b b T e he).2.1 lx.2.2.1 (fun M' hm hl => q1 c M' hm hl)
  · exact q0 c
theorem c_isAtHand2 (tp : TpC b T M) (e : Nat) (he : e ≤ T) (lx : LxC b T e M) (q1 : wdT b T e 2 = true → Q (some (.int 1)) (HH M)) (q0 : wdT b T e 2 = false → Q (some (.int 0)) (HH M)) : CW G (d + 4) jX2_isAtHand [.ref 43, .ref 1102] (HH M) Q := by
  obtain ⟨t1, t2, t3, t4⟩ := tp
  obtain ⟨l1, l2, l3, l4⟩ := lx
  have hb := en_b b T e he
  have htk := tk_le b T e
  have hl : xslen 2 < 16 := by decide
  refine CW_wp fX2_isAtHand rfl rfl rfl ?_
  refine xeq (tkT b T e) 1 l1 rfl (by omega) (by decide) (fun c => ?_) (fun c => q0 (by unfold wdT; rw [decide_eq_false c]; rfl))
  refine c_length 2 (by decide) ?_
  refine xeq (enT b T e - stT b T e) (xslen 2) (isb l3 l2 hb.1) rfl (by omega) (by omega) (fun c2 => ?_) (fun c2 => q0 (by unfold wdT; rw [decide_eq_false c2]; simp))
  have ew : wdT b T e 2 = !(anyN (fun j => decide (nI (b (stT b T e + j)) ≠ xsbyt 2 j)) (xslen 2)) := by
    unfold wdT
    rw [decide_eq_true c, decide_eq_true c2]
    rfl
  have key : anyN (fun j => decide (nI (b (stT b T e + j)) ≠ xsbyt 2 j)) 0 = false → Ev G (d + 4) jX2_isAtHand 28 [some (.ref 43), some (.ref 1102), some (.int (nI 0))] [] (HH M) 0 0 Q := by
    refine dn (E := fun j => anyN (fun j => decide (nI (b (stT b T e + j)) ≠ xsbyt 2 j)) j = false → Ev G (d + 4) jX2_isAtHand 28 [some (.ref 43), some (.ref 1102), some (.int (nI j))] [] (HH M) 0 0 Q) (Nat.zero_le (xslen 2)) (fun hn => ?_) (fun j _ hj ih hn => ?_)
    · refine Ev_wp fX2_isAtHand rfl ?_
      refine c_length 2 (by decide) ?_
      exact q1 (by rw [ew, hn]; rfl)
    · refine Ev_wp fX2_isAtHand rfl ?_
      refine c_length 2 (by decide) ?_
      refine xelse (nI_ge hj (by omega)) ?_
      refine xix (n := 120) (stT b T e + j) (ia l2 rfl) (by omega) (by decide) (fun e9 => ?_)
      rw [e9, t3 _ (by omega)]
      refine c_charAt 2 (by decide) j hj ?_
      rw [nI_succ j] at ih
      refine xite (fun c3 => ?_) (fun c3 => ?_)
      · refine ih ?_
        rw [anyN_s, hn, decide_eq_false (by simpa using c3)]
        rfl
      · refine q0 ?_
        rw [ew, (anyN_iff _ _).mpr ⟨j, hj, decide_eq_true c3⟩]
        rfl
  exact key rfl
theorem c_take2 (tp : TpC b T M) (e : Nat) (he : e ≤ T) (lx : LxC b T e M) (q1 : wdT b T e 2 = true → ∀ M', CfM M M' → LxC b T (enT b T e) M' → Q (some (.int 1)) (HH M')) (q0 : wdT b T e 2 = false → Q (some (.int 0)) (HH M)) : CW G (d + 5) jX2_take [.ref 43, .ref 1102] (HH M) Q := by
  refine CW_wp fX2_take rfl rfl rfl ?_
  refine c_isAtHand2 tp e he lx (fun c => ?_) (fun c => ?_)
  · exact c_next tp (enT b T e) (en_b b T e he).2.1 lx.2.2.1 (fun M' hm hl => q1 c M' hm hl)
  · exact q0 c
theorem c_isAtHand3 (tp : TpC b T M) (e : Nat) (he : e ≤ T) (lx : LxC b T e M) (q1 : wdT b T e 3 = true → Q (some (.int 1)) (HH M)) (q0 : wdT b T e 3 = false → Q (some (.int 0)) (HH M)) : CW G (d + 4) jX2_isAtHand [.ref 43, .ref 1103] (HH M) Q := by
  obtain ⟨t1, t2, t3, t4⟩ := tp
  obtain ⟨l1, l2, l3, l4⟩ := lx
  have hb := en_b b T e he
  have htk := tk_le b T e
  have hl : xslen 3 < 16 := by decide
  refine CW_wp fX2_isAtHand rfl rfl rfl ?_
  refine xeq (tkT b T e) 1 l1 rfl (by omega) (by decide) (fun c => ?_) (fun c => q0 (by unfold wdT; rw [decide_eq_false c]; rfl))
  refine c_length 3 (by decide) ?_
  refine xeq (enT b T e - stT b T e) (xslen 3) (isb l3 l2 hb.1) rfl (by omega) (by omega) (fun c2 => ?_) (fun c2 => q0 (by unfold wdT; rw [decide_eq_false c2]; simp))
  have ew : wdT b T e 3 = !(anyN (fun j => decide (nI (b (stT b T e + j)) ≠ xsbyt 3 j)) (xslen 3)) := by
    unfold wdT
    rw [decide_eq_true c, decide_eq_true c2]
    rfl
  have key : anyN (fun j => decide (nI (b (stT b T e + j)) ≠ xsbyt 3 j)) 0 = false → Ev G (d + 4) jX2_isAtHand 28 [some (.ref 43), some (.ref 1103), some (.int (nI 0))] [] (HH M) 0 0 Q := by
    refine dn (E := fun j => anyN (fun j => decide (nI (b (stT b T e + j)) ≠ xsbyt 3 j)) j = false → Ev G (d + 4) jX2_isAtHand 28 [some (.ref 43), some (.ref 1103), some (.int (nI j))] [] (HH M) 0 0 Q) (Nat.zero_le (xslen 3)) (fun hn => ?_) (fun j _ hj ih hn => ?_)
    · refine Ev_wp fX2_isAtHand rfl ?_
      refine c_length 3 (by decide) ?_
      exact q1 (by rw [ew, hn]; rfl)
    · refine Ev_wp fX2_isAtHand rfl ?_
      refine c_length 3 (by decide) ?_
      refine xelse (nI_ge hj (by omega)) ?_
      refine xix (n := 120) (stT b T e + j) (ia l2 rfl) (by omega) (by decide) (fun e9 => ?_)
      rw [e9, t3 _ (by omega)]
      refine c_charAt 3 (by decide) j hj ?_
      rw [nI_succ j] at ih
      refine xite (fun c3 => ?_) (fun c3 => ?_)
      · refine ih ?_
        rw [anyN_s, hn, decide_eq_false (by simpa using c3)]
        rfl
      · refine q0 ?_
        rw [ew, (anyN_iff _ _).mpr ⟨j, hj, decide_eq_true c3⟩]
        rfl
  exact key rfl
theorem c_take3 (tp : TpC b T M) (e : Nat) (he : e ≤ T) (lx : LxC b T e M) (q1 : wdT b T e 3 = true → ∀ M', CfM M M' → LxC b T (enT b T e) M' → Q (some (.int 1)) (HH M')) (q0 : wdT b T e 3 = false → Q (some (.int 0)) (HH M)) : CW G (d + 5) jX2_take [.ref 43, .ref 1103] (HH M) Q := by
  refine CW_wp fX2_take rfl rfl rfl ?_
  refine c_isAtHand3 tp e he lx (fun c => ?_) (fun c => ?_)
  · exact c_next tp (enT b T e) (en_b b T e he).2.1 lx.2.2.1 (fun M' hm hl => q1 c M' hm hl)
  · exact q0 c
theorem c_isAtHand4 (tp : TpC b T M) (e : Nat) (he : e ≤ T) (lx : LxC b T e M) (q1 : wdT b T e 4 = true → Q (some (.int 1)) (HH M)) (q0 : wdT b T e 4 = false → Q (some (.int 0)) (HH M)) : CW G (d + 4) jX2_isAtHand [.ref 43, .ref 1104] (HH M) Q := by
  obtain ⟨t1, t2, t3, t4⟩ := tp
  obtain ⟨l1, l2, l3, l4⟩ := lx
  have hb := en_b b T e he
  have htk := tk_le b T e
  have hl : xslen 4 < 16 := by decide
  refine CW_wp fX2_isAtHand rfl rfl rfl ?_
  refine xeq (tkT b T e) 1 l1 rfl (by omega) (by decide) (fun c => ?_) (fun c => q0 (by unfold wdT; rw [decide_eq_false c]; rfl))
  refine c_length 4 (by decide) ?_
  refine xeq (enT b T e - stT b T e) (xslen 4) (isb l3 l2 hb.1) rfl (by omega) (by omega) (fun c2 => ?_) (fun c2 => q0 (by unfold wdT; rw [decide_eq_false c2]; simp))
  have ew : wdT b T e 4 = !(anyN (fun j => decide (nI (b (stT b T e + j)) ≠ xsbyt 4 j)) (xslen 4)) := by
    unfold wdT
    rw [decide_eq_true c, decide_eq_true c2]
    rfl
  have key : anyN (fun j => decide (nI (b (stT b T e + j)) ≠ xsbyt 4 j)) 0 = false → Ev G (d + 4) jX2_isAtHand 28 [some (.ref 43), some (.ref 1104), some (.int (nI 0))] [] (HH M) 0 0 Q := by
    refine dn (E := fun j => anyN (fun j => decide (nI (b (stT b T e + j)) ≠ xsbyt 4 j)) j = false → Ev G (d + 4) jX2_isAtHand 28 [some (.ref 43), some (.ref 1104), some (.int (nI j))] [] (HH M) 0 0 Q) (Nat.zero_le (xslen 4)) (fun hn => ?_) (fun j _ hj ih hn => ?_)
    · refine Ev_wp fX2_isAtHand rfl ?_
      refine c_length 4 (by decide) ?_
      exact q1 (by rw [ew, hn]; rfl)
    · refine Ev_wp fX2_isAtHand rfl ?_
      refine c_length 4 (by decide) ?_
      refine xelse (nI_ge hj (by omega)) ?_
      refine xix (n := 120) (stT b T e + j) (ia l2 rfl) (by omega) (by decide) (fun e9 => ?_)
      rw [e9, t3 _ (by omega)]
      refine c_charAt 4 (by decide) j hj ?_
      rw [nI_succ j] at ih
      refine xite (fun c3 => ?_) (fun c3 => ?_)
      · refine ih ?_
        rw [anyN_s, hn, decide_eq_false (by simpa using c3)]
        rfl
      · refine q0 ?_
        rw [ew, (anyN_iff _ _).mpr ⟨j, hj, decide_eq_true c3⟩]
        rfl
  exact key rfl
theorem c_take4 (tp : TpC b T M) (e : Nat) (he : e ≤ T) (lx : LxC b T e M) (q1 : wdT b T e 4 = true → ∀ M', CfM M M' → LxC b T (enT b T e) M' → Q (some (.int 1)) (HH M')) (q0 : wdT b T e 4 = false → Q (some (.int 0)) (HH M)) : CW G (d + 5) jX2_take [.ref 43, .ref 1104] (HH M) Q := by
  refine CW_wp fX2_take rfl rfl rfl ?_
  refine c_isAtHand4 tp e he lx (fun c => ?_) (fun c => ?_)
  · exact c_next tp (enT b T e) (en_b b T e he).2.1 lx.2.2.1 (fun M' hm hl => q1 c M' hm hl)
  · exact q0 c
theorem c_isAtHand5 (tp : TpC b T M) (e : Nat) (he : e ≤ T) (lx : LxC b T e M) (q1 : wdT b T e 5 = true → Q (some (.int 1)) (HH M)) (q0 : wdT b T e 5 = false → Q (some (.int 0)) (HH M)) : CW G (d + 4) jX2_isAtHand [.ref 43, .ref 1105] (HH M) Q := by
  obtain ⟨t1, t2, t3, t4⟩ := tp
  obtain ⟨l1, l2, l3, l4⟩ := lx
  have hb := en_b b T e he
  have htk := tk_le b T e
  have hl : xslen 5 < 16 := by decide
  refine CW_wp fX2_isAtHand rfl rfl rfl ?_
  refine xeq (tkT b T e) 1 l1 rfl (by omega) (by decide) (fun c => ?_) (fun c => q0 (by unfold wdT; rw [decide_eq_false c]; rfl))
  refine c_length 5 (by decide) ?_
  refine xeq (enT b T e - stT b T e) (xslen 5) (isb l3 l2 hb.1) rfl (by omega) (by omega) (fun c2 => ?_) (fun c2 => q0 (by unfold wdT; rw [decide_eq_false c2]; simp))
  have ew : wdT b T e 5 = !(anyN (fun j => decide (nI (b (stT b T e + j)) ≠ xsbyt 5 j)) (xslen 5)) := by
    unfold wdT
    rw [decide_eq_true c, decide_eq_true c2]
    rfl
  have key : anyN (fun j => decide (nI (b (stT b T e + j)) ≠ xsbyt 5 j)) 0 = false → Ev G (d + 4) jX2_isAtHand 28 [some (.ref 43), some (.ref 1105), some (.int (nI 0))] [] (HH M) 0 0 Q := by
    refine dn (E := fun j => anyN (fun j => decide (nI (b (stT b T e + j)) ≠ xsbyt 5 j)) j = false → Ev G (d + 4) jX2_isAtHand 28 [some (.ref 43), some (.ref 1105), some (.int (nI j))] [] (HH M) 0 0 Q) (Nat.zero_le (xslen 5)) (fun hn => ?_) (fun j _ hj ih hn => ?_)
    · refine Ev_wp fX2_isAtHand rfl ?_
      refine c_length 5 (by decide) ?_
      exact q1 (by rw [ew, hn]; rfl)
    · refine Ev_wp fX2_isAtHand rfl ?_
      refine c_length 5 (by decide) ?_
      refine xelse (nI_ge hj (by omega)) ?_
      refine xix (n := 120) (stT b T e + j) (ia l2 rfl) (by omega) (by decide) (fun e9 => ?_)
      rw [e9, t3 _ (by omega)]
      refine c_charAt 5 (by decide) j hj ?_
      rw [nI_succ j] at ih
      refine xite (fun c3 => ?_) (fun c3 => ?_)
      · refine ih ?_
        rw [anyN_s, hn, decide_eq_false (by simpa using c3)]
        rfl
      · refine q0 ?_
        rw [ew, (anyN_iff _ _).mpr ⟨j, hj, decide_eq_true c3⟩]
        rfl
  exact key rfl
theorem c_take5 (tp : TpC b T M) (e : Nat) (he : e ≤ T) (lx : LxC b T e M) (q1 : wdT b T e 5 = true → ∀ M', CfM M M' → LxC b T (enT b T e) M' → Q (some (.int 1)) (HH M')) (q0 : wdT b T e 5 = false → Q (some (.int 0)) (HH M)) : CW G (d + 5) jX2_take [.ref 43, .ref 1105] (HH M) Q := by
  refine CW_wp fX2_take rfl rfl rfl ?_
  refine c_isAtHand5 tp e he lx (fun c => ?_) (fun c => ?_)
  · exact c_next tp (enT b T e) (en_b b T e he).2.1 lx.2.2.1 (fun M' hm hl => q1 c M' hm hl)
  · exact q0 c
theorem c_isAtHand6 (tp : TpC b T M) (e : Nat) (he : e ≤ T) (lx : LxC b T e M) (q1 : wdT b T e 6 = true → Q (some (.int 1)) (HH M)) (q0 : wdT b T e 6 = false → Q (some (.int 0)) (HH M)) : CW G (d + 4) jX2_isAtHand [.ref 43, .ref 1106] (HH M) Q := by
  obtain ⟨t1, t2, t3, t4⟩ := tp
  obtain ⟨l1, l2, l3, l4⟩ := lx
  have hb := en_b b T e he
  have htk := tk_le b T e
  have hl : xslen 6 < 16 := by decide
  refine CW_wp fX2_isAtHand rfl rfl rfl ?_
  refine xeq (tkT b T e) 1 l1 rfl (by omega) (by decide) (fun c => ?_) (fun c => q0 (by unfold wdT; rw [decide_eq_false c]; rfl))
  refine c_length 6 (by decide) ?_
  refine xeq (enT b T e - stT b T e) (xslen 6) (isb l3 l2 hb.1) rfl (by omega) (by omega) (fun c2 => ?_) (fun c2 => q0 (by unfold wdT; rw [decide_eq_false c2]; simp))
  have ew : wdT b T e 6 = !(anyN (fun j => decide (nI (b (stT b T e + j)) ≠ xsbyt 6 j)) (xslen 6)) := by
    unfold wdT
    rw [decide_eq_true c, decide_eq_true c2]
    rfl
  have key : anyN (fun j => decide (nI (b (stT b T e + j)) ≠ xsbyt 6 j)) 0 = false → Ev G (d + 4) jX2_isAtHand 28 [some (.ref 43), some (.ref 1106), some (.int (nI 0))] [] (HH M) 0 0 Q := by
    refine dn (E := fun j => anyN (fun j => decide (nI (b (stT b T e + j)) ≠ xsbyt 6 j)) j = false → Ev G (d + 4) jX2_isAtHand 28 [some (.ref 43), some (.ref 1106), some (.int (nI j))] [] (HH M) 0 0 Q) (Nat.zero_le (xslen 6)) (fun hn => ?_) (fun j _ hj ih hn => ?_)
    · refine Ev_wp fX2_isAtHand rfl ?_
      refine c_length 6 (by decide) ?_
      exact q1 (by rw [ew, hn]; rfl)
    · refine Ev_wp fX2_isAtHand rfl ?_
      refine c_length 6 (by decide) ?_
      refine xelse (nI_ge hj (by omega)) ?_
      refine xix (n := 120) (stT b T e + j) (ia l2 rfl) (by omega) (by decide) (fun e9 => ?_)
      rw [e9, t3 _ (by omega)]
      refine c_charAt 6 (by decide) j hj ?_
      rw [nI_succ j] at ih
      refine xite (fun c3 => ?_) (fun c3 => ?_)
      · refine ih ?_
        rw [anyN_s, hn, decide_eq_false (by simpa using c3)]
        rfl
      · refine q0 ?_
        rw [ew, (anyN_iff _ _).mpr ⟨j, hj, decide_eq_true c3⟩]
        rfl
  exact key rfl
theorem c_take6 (tp : TpC b T M) (e : Nat) (he : e ≤ T) (lx : LxC b T e M) (q1 : wdT b T e 6 = true → ∀ M', CfM M M' → LxC b T (enT b T e) M' → Q (some (.int 1)) (HH M')) (q0 : wdT b T e 6 = false → Q (some (.int 0)) (HH M)) : CW G (d + 5) jX2_take [.ref 43, .ref 1106] (HH M) Q := by
  refine CW_wp fX2_take rfl rfl rfl ?_
  refine c_isAtHand6 tp e he lx (fun c => ?_) (fun c => ?_)
  · exact c_next tp (enT b T e) (en_b b T e he).2.1 lx.2.2.1 (fun M' hm hl => q1 c M' hm hl)
  · exact q0 c
theorem c_isAtHand7 (tp : TpC b T M) (e : Nat) (he : e ≤ T) (lx : LxC b T e M) (q1 : wdT b T e 7 = true → Q (some (.int 1)) (HH M)) (q0 : wdT b T e 7 = false → Q (some (.int 0)) (HH M)) : CW G (d + 4) jX2_isAtHand [.ref 43, .ref 1107] (HH M) Q := by
  obtain ⟨t1, t2, t3, t4⟩ := tp
  obtain ⟨l1, l2, l3, l4⟩ := lx
  have hb := en_b b T e he
  have htk := tk_le b T e
  have hl : xslen 7 < 16 := by decide
  refine CW_wp fX2_isAtHand rfl rfl rfl ?_
  refine xeq (tkT b T e) 1 l1 rfl (by omega) (by decide) (fun c => ?_) (fun c => q0 (by unfold wdT; rw [decide_eq_false c]; rfl))
  refine c_length 7 (by decide) ?_
  refine xeq (enT b T e - stT b T e) (xslen 7) (isb l3 l2 hb.1) rfl (by omega) (by omega) (fun c2 => ?_) (fun c2 => q0 (by unfold wdT; rw [decide_eq_false c2]; simp))
  have ew : wdT b T e 7 = !(anyN (fun j => decide (nI (b (stT b T e + j)) ≠ xsbyt 7 j)) (xslen 7)) := by
    unfold wdT
    rw [decide_eq_true c, decide_eq_true c2]
    rfl
  have key : anyN (fun j => decide (nI (b (stT b T e + j)) ≠ xsbyt 7 j)) 0 = false → Ev G (d + 4) jX2_isAtHand 28 [some (.ref 43), some (.ref 1107), some (.int (nI 0))] [] (HH M) 0 0 Q := by
    refine dn (E := fun j => anyN (fun j => decide (nI (b (stT b T e + j)) ≠ xsbyt 7 j)) j = false → Ev G (d + 4) jX2_isAtHand 28 [some (.ref 43), some (.ref 1107), some (.int (nI j))] [] (HH M) 0 0 Q) (Nat.zero_le (xslen 7)) (fun hn => ?_) (fun j _ hj ih hn => ?_)
    · refine Ev_wp fX2_isAtHand rfl ?_
      refine c_length 7 (by decide) ?_
      exact q1 (by rw [ew, hn]; rfl)
    · refine Ev_wp fX2_isAtHand rfl ?_
      refine c_length 7 (by decide) ?_
      refine xelse (nI_ge hj (by omega)) ?_
      refine xix (n := 120) (stT b T e + j) (ia l2 rfl) (by omega) (by decide) (fun e9 => ?_)
      rw [e9, t3 _ (by omega)]
      refine c_charAt 7 (by decide) j hj ?_
      rw [nI_succ j] at ih
      refine xite (fun c3 => ?_) (fun c3 => ?_)
      · refine ih ?_
        rw [anyN_s, hn, decide_eq_false (by simpa using c3)]
        rfl
      · refine q0 ?_
        rw [ew, (anyN_iff _ _).mpr ⟨j, hj, decide_eq_true c3⟩]
        rfl
  exact key rfl
theorem c_take7 (tp : TpC b T M) (e : Nat) (he : e ≤ T) (lx : LxC b T e M) (q1 : wdT b T e 7 = true → ∀ M', CfM M M' → LxC b T (enT b T e) M' → Q (some (.int 1)) (HH M')) (q0 : wdT b T e 7 = false → Q (some (.int 0)) (HH M)) : CW G (d + 5) jX2_take [.ref 43, .ref 1107] (HH M) Q := by
  refine CW_wp fX2_take rfl rfl rfl ?_
  refine c_isAtHand7 tp e he lx (fun c => ?_) (fun c => ?_)
  · exact c_next tp (enT b T e) (en_b b T e he).2.1 lx.2.2.1 (fun M' hm hl => q1 c M' hm hl)
  · exact q0 c
theorem c_isAtHand8 (tp : TpC b T M) (e : Nat) (he : e ≤ T) (lx : LxC b T e M) (q1 : wdT b T e 8 = true → Q (some (.int 1)) (HH M)) (q0 : wdT b T e 8 = false → Q (some (.int 0)) (HH M)) : CW G (d + 4) jX2_isAtHand [.ref 43, .ref 1108] (HH M) Q := by
  obtain ⟨t1, t2, t3, t4⟩ := tp
  obtain ⟨l1, l2, l3, l4⟩ := lx
  have hb := en_b b T e he
  have htk := tk_le b T e
  have hl : xslen 8 < 16 := by decide
  refine CW_wp fX2_isAtHand rfl rfl rfl ?_
  refine xeq (tkT b T e) 1 l1 rfl (by omega) (by decide) (fun c => ?_) (fun c => q0 (by unfold wdT; rw [decide_eq_false c]; rfl))
  refine c_length 8 (by decide) ?_
  refine xeq (enT b T e - stT b T e) (xslen 8) (isb l3 l2 hb.1) rfl (by omega) (by omega) (fun c2 => ?_) (fun c2 => q0 (by unfold wdT; rw [decide_eq_false c2]; simp))
  have ew : wdT b T e 8 = !(anyN (fun j => decide (nI (b (stT b T e + j)) ≠ xsbyt 8 j)) (xslen 8)) := by
    unfold wdT
    rw [decide_eq_true c, decide_eq_true c2]
    rfl
  have key : anyN (fun j => decide (nI (b (stT b T e + j)) ≠ xsbyt 8 j)) 0 = false → Ev G (d + 4) jX2_isAtHand 28 [some (.ref 43), some (.ref 1108), some (.int (nI 0))] [] (HH M) 0 0 Q := by
    refine dn (E := fun j => anyN (fun j => decide (nI (b (stT b T e + j)) ≠ xsbyt 8 j)) j = false → Ev G (d + 4) jX2_isAtHand 28 [some (.ref 43), some (.ref 1108), some (.int (nI j))] [] (HH M) 0 0 Q) (Nat.zero_le (xslen 8)) (fun hn => ?_) (fun j _ hj ih hn => ?_)
    · refine Ev_wp fX2_isAtHand rfl ?_
      refine c_length 8 (by decide) ?_
      exact q1 (by rw [ew, hn]; rfl)
    · refine Ev_wp fX2_isAtHand rfl ?_
      refine c_length 8 (by decide) ?_
      refine xelse (nI_ge hj (by omega)) ?_
      refine xix (n := 120) (stT b T e + j) (ia l2 rfl) (by omega) (by decide) (fun e9 => ?_)
      rw [e9, t3 _ (by omega)]
      refine c_charAt 8 (by decide) j hj ?_
      rw [nI_succ j] at ih
      refine xite (fun c3 => ?_) (fun c3 => ?_)
      · refine ih ?_
        rw [anyN_s, hn, decide_eq_false (by simpa using c3)]
        rfl
      · refine q0 ?_
        rw [ew, (anyN_iff _ _).mpr ⟨j, hj, decide_eq_true c3⟩]
        rfl
  exact key rfl
theorem c_take8 (tp : TpC b T M) (e : Nat) (he : e ≤ T) (lx : LxC b T e M) (q1 : wdT b T e 8 = true → ∀ M', CfM M M' → LxC b T (enT b T e) M' → Q (some (.int 1)) (HH M')) (q0 : wdT b T e 8 = false → Q (some (.int 0)) (HH M)) : CW G (d + 5) jX2_take [.ref 43, .ref 1108] (HH M) Q := by
  refine CW_wp fX2_take rfl rfl rfl ?_
  refine c_isAtHand8 tp e he lx (fun c => ?_) (fun c => ?_)
  · exact c_next tp (enT b T e) (en_b b T e he).2.1 lx.2.2.1 (fun M' hm hl => q1 c M' hm hl)
  · exact q0 c
theorem c_isAtHand9 (tp : TpC b T M) (e : Nat) (he : e ≤ T) (lx : LxC b T e M) (q1 : wdT b T e 9 = true → Q (some (.int 1)) (HH M)) (q0 : wdT b T e 9 = false → Q (some (.int 0)) (HH M)) : CW G (d + 4) jX2_isAtHand [.ref 43, .ref 1109] (HH M) Q := by
  obtain ⟨t1, t2, t3, t4⟩ := tp
  obtain ⟨l1, l2, l3, l4⟩ := lx
  have hb := en_b b T e he
  have htk := tk_le b T e
  have hl : xslen 9 < 16 := by decide
  refine CW_wp fX2_isAtHand rfl rfl rfl ?_
  refine xeq (tkT b T e) 1 l1 rfl (by omega) (by decide) (fun c => ?_) (fun c => q0 (by unfold wdT; rw [decide_eq_false c]; rfl))
  refine c_length 9 (by decide) ?_
  refine xeq (enT b T e - stT b T e) (xslen 9) (isb l3 l2 hb.1) rfl (by omega) (by omega) (fun c2 => ?_) (fun c2 => q0 (by unfold wdT; rw [decide_eq_false c2]; simp))
  have ew : wdT b T e 9 = !(anyN (fun j => decide (nI (b (stT b T e + j)) ≠ xsbyt 9 j)) (xslen 9)) := by
    unfold wdT
    rw [decide_eq_true c, decide_eq_true c2]
    rfl
  have key : anyN (fun j => decide (nI (b (stT b T e + j)) ≠ xsbyt 9 j)) 0 = false → Ev G (d + 4) jX2_isAtHand 28 [some (.ref 43), some (.ref 1109), some (.int (nI 0))] [] (HH M) 0 0 Q := by
    refine dn (E := fun j => anyN (fun j => decide (nI (b (stT b T e + j)) ≠ xsbyt 9 j)) j = false → Ev G (d + 4) jX2_isAtHand 28 [some (.ref 43), some (.ref 1109), some (.int (nI j))] [] (HH M) 0 0 Q) (Nat.zero_le (xslen 9)) (fun hn => ?_) (fun j _ hj ih hn => ?_)
    · refine Ev_wp fX2_isAtHand rfl ?_
      refine c_length 9 (by decide) ?_
      exact q1 (by rw [ew, hn]; rfl)
    · refine Ev_wp fX2_isAtHand rfl ?_
      refine c_length 9 (by decide) ?_
      refine xelse (nI_ge hj (by omega)) ?_
      refine xix (n := 120) (stT b T e + j) (ia l2 rfl) (by omega) (by decide) (fun e9 => ?_)
      rw [e9, t3 _ (by omega)]
      refine c_charAt 9 (by decide) j hj ?_
      rw [nI_succ j] at ih
      refine xite (fun c3 => ?_) (fun c3 => ?_)
      · refine ih ?_
        rw [anyN_s, hn, decide_eq_false (by simpa using c3)]
        rfl
      · refine q0 ?_
        rw [ew, (anyN_iff _ _).mpr ⟨j, hj, decide_eq_true c3⟩]
        rfl
  exact key rfl
theorem c_take9 (tp : TpC b T M) (e : Nat) (he : e ≤ T) (lx : LxC b T e M) (q1 : wdT b T e 9 = true → ∀ M', CfM M M' → LxC b T (enT b T e) M' → Q (some (.int 1)) (HH M')) (q0 : wdT b T e 9 = false → Q (some (.int 0)) (HH M)) : CW G (d + 5) jX2_take [.ref 43, .ref 1109] (HH M) Q := by
  refine CW_wp fX2_take rfl rfl rfl ?_
  refine c_isAtHand9 tp e he lx (fun c => ?_) (fun c => ?_)
  · exact c_next tp (enT b T e) (en_b b T e he).2.1 lx.2.2.1 (fun M' hm hl => q1 c M' hm hl)
  · exact q0 c
theorem c_isAtHand10 (tp : TpC b T M) (e : Nat) (he : e ≤ T) (lx : LxC b T e M) (q1 : wdT b T e 10 = true → Q (some (.int 1)) (HH M)) (q0 : wdT b T e 10 = false → Q (some (.int 0)) (HH M)) : CW G (d + 4) jX2_isAtHand [.ref 43, .ref 1110] (HH M) Q := by
  obtain ⟨t1, t2, t3, t4⟩ := tp
  obtain ⟨l1, l2, l3, l4⟩ := lx
  have hb := en_b b T e he
  have htk := tk_le b T e
  have hl : xslen 10 < 16 := by decide
  refine CW_wp fX2_isAtHand rfl rfl rfl ?_
  refine xeq (tkT b T e) 1 l1 rfl (by omega) (by decide) (fun c => ?_) (fun c => q0 (by unfold wdT; rw [decide_eq_false c]; rfl))
  refine c_length 10 (by decide) ?_
  refine xeq (enT b T e - stT b T e) (xslen 10) (isb l3 l2 hb.1) rfl (by omega) (by omega) (fun c2 => ?_) (fun c2 => q0 (by unfold wdT; rw [decide_eq_false c2]; simp))
  have ew : wdT b T e 10 = !(anyN (fun j => decide (nI (b (stT b T e + j)) ≠ xsbyt 10 j)) (xslen 10)) := by
    unfold wdT
    rw [decide_eq_true c, decide_eq_true c2]
    rfl
  have key : anyN (fun j => decide (nI (b (stT b T e + j)) ≠ xsbyt 10 j)) 0 = false → Ev G (d + 4) jX2_isAtHand 28 [some (.ref 43), some (.ref 1110), some (.int (nI 0))] [] (HH M) 0 0 Q := by
    refine dn (E := fun j => anyN (fun j => decide (nI (b (stT b T e + j)) ≠ xsbyt 10 j)) j = false → Ev G (d + 4) jX2_isAtHand 28 [some (.ref 43), some (.ref 1110), some (.int (nI j))] [] (HH M) 0 0 Q) (Nat.zero_le (xslen 10)) (fun hn => ?_) (fun j _ hj ih hn => ?_)
    · refine Ev_wp fX2_isAtHand rfl ?_
      refine c_length 10 (by decide) ?_
      exact q1 (by rw [ew, hn]; rfl)
    · refine Ev_wp fX2_isAtHand rfl ?_
      refine c_length 10 (by decide) ?_
      refine xelse (nI_ge hj (by omega)) ?_
      refine xix (n := 120) (stT b T e + j) (ia l2 rfl) (by omega) (by decide) (fun e9 => ?_)
      rw [e9, t3 _ (by omega)]
      refine c_charAt 10 (by decide) j hj ?_
      rw [nI_succ j] at ih
      refine xite (fun c3 => ?_) (fun c3 => ?_)
      · refine ih ?_
        rw [anyN_s, hn, decide_eq_false (by simpa using c3)]
        rfl
      · refine q0 ?_
        rw [ew, (anyN_iff _ _).mpr ⟨j, hj, decide_eq_true c3⟩]
        rfl
  exact key rfl
theorem c_take10 (tp : TpC b T M) (e : Nat) (he : e ≤ T) (lx : LxC b T e M) (q1 : wdT b T e 10 = true → ∀ M', CfM M M' → LxC b T (enT b T e) M' → Q (some (.int 1)) (HH M')) (q0 : wdT b T e 10 = false → Q (some (.int 0)) (HH M)) : CW G (d + 5) jX2_take [.ref 43, .ref 1110] (HH M) Q := by
  refine CW_wp fX2_take rfl rfl rfl ?_
  refine c_isAtHand10 tp e he lx (fun c => ?_) (fun c => ?_)
  · exact c_next tp (enT b T e) (en_b b T e he).2.1 lx.2.2.1 (fun M' hm hl => q1 c M' hm hl)
  · exact q0 c
theorem c_isAtHand11 (tp : TpC b T M) (e : Nat) (he : e ≤ T) (lx : LxC b T e M) (q1 : wdT b T e 11 = true → Q (some (.int 1)) (HH M)) (q0 : wdT b T e 11 = false → Q (some (.int 0)) (HH M)) : CW G (d + 4) jX2_isAtHand [.ref 43, .ref 1111] (HH M) Q := by
  obtain ⟨t1, t2, t3, t4⟩ := tp
  obtain ⟨l1, l2, l3, l4⟩ := lx
  have hb := en_b b T e he
  have htk := tk_le b T e
  have hl : xslen 11 < 16 := by decide
  refine CW_wp fX2_isAtHand rfl rfl rfl ?_
  refine xeq (tkT b T e) 1 l1 rfl (by omega) (by decide) (fun c => ?_) (fun c => q0 (by unfold wdT; rw [decide_eq_false c]; rfl))
  refine c_length 11 (by decide) ?_
  refine xeq (enT b T e - stT b T e) (xslen 11) (isb l3 l2 hb.1) rfl (by omega) (by omega) (fun c2 => ?_) (fun c2 => q0 (by unfold wdT; rw [decide_eq_false c2]; simp))
  have ew : wdT b T e 11 = !(anyN (fun j => decide (nI (b (stT b T e + j)) ≠ xsbyt 11 j)) (xslen 11)) := by
    unfold wdT
    rw [decide_eq_true c, decide_eq_true c2]
    rfl
  have key : anyN (fun j => decide (nI (b (stT b T e + j)) ≠ xsbyt 11 j)) 0 = false → Ev G (d + 4) jX2_isAtHand 28 [some (.ref 43), some (.ref 1111), some (.int (nI 0))] [] (HH M) 0 0 Q := by
    refine dn (E := fun j => anyN (fun j => decide (nI (b (stT b T e + j)) ≠ xsbyt 11 j)) j = false → Ev G (d + 4) jX2_isAtHand 28 [some (.ref 43), some (.ref 1111), some (.int (nI j))] [] (HH M) 0 0 Q) (Nat.zero_le (xslen 11)) (fun hn => ?_) (fun j _ hj ih hn => ?_)
    · refine Ev_wp fX2_isAtHand rfl ?_
      refine c_length 11 (by decide) ?_
      exact q1 (by rw [ew, hn]; rfl)
    · refine Ev_wp fX2_isAtHand rfl ?_
      refine c_length 11 (by decide) ?_
      refine xelse (nI_ge hj (by omega)) ?_
      refine xix (n := 120) (stT b T e + j) (ia l2 rfl) (by omega) (by decide) (fun e9 => ?_)
      rw [e9, t3 _ (by omega)]
      refine c_charAt 11 (by decide) j hj ?_
      rw [nI_succ j] at ih
      refine xite (fun c3 => ?_) (fun c3 => ?_)
      · refine ih ?_
        rw [anyN_s, hn, decide_eq_false (by simpa using c3)]
        rfl
      · refine q0 ?_
        rw [ew, (anyN_iff _ _).mpr ⟨j, hj, decide_eq_true c3⟩]
        rfl
  exact key rfl
theorem c_take11 (tp : TpC b T M) (e : Nat) (he : e ≤ T) (lx : LxC b T e M) (q1 : wdT b T e 11 = true → ∀ M', CfM M M' → LxC b T (enT b T e) M' → Q (some (.int 1)) (HH M')) (q0 : wdT b T e 11 = false → Q (some (.int 0)) (HH M)) : CW G (d + 5) jX2_take [.ref 43, .ref 1111] (HH M) Q := by
  refine CW_wp fX2_take rfl rfl rfl ?_
  refine c_isAtHand11 tp e he lx (fun c => ?_) (fun c => ?_)
  · exact c_next tp (enT b T e) (en_b b T e he).2.1 lx.2.2.1 (fun M' hm hl => q1 c M' hm hl)
  · exact q0 c
theorem c_isAtHand12 (tp : TpC b T M) (e : Nat) (he : e ≤ T) (lx : LxC b T e M) (q1 : wdT b T e 12 = true → Q (some (.int 1)) (HH M)) (q0 : wdT b T e 12 = false → Q (some (.int 0)) (HH M)) : CW G (d + 4) jX2_isAtHand [.ref 43, .ref 1112] (HH M) Q := by
  obtain ⟨t1, t2, t3, t4⟩ := tp
  obtain ⟨l1, l2, l3, l4⟩ := lx
  have hb := en_b b T e he
  have htk := tk_le b T e
  have hl : xslen 12 < 16 := by decide
  refine CW_wp fX2_isAtHand rfl rfl rfl ?_
  refine xeq (tkT b T e) 1 l1 rfl (by omega) (by decide) (fun c => ?_) (fun c => q0 (by unfold wdT; rw [decide_eq_false c]; rfl))
  refine c_length 12 (by decide) ?_
  refine xeq (enT b T e - stT b T e) (xslen 12) (isb l3 l2 hb.1) rfl (by omega) (by omega) (fun c2 => ?_) (fun c2 => q0 (by unfold wdT; rw [decide_eq_false c2]; simp))
  have ew : wdT b T e 12 = !(anyN (fun j => decide (nI (b (stT b T e + j)) ≠ xsbyt 12 j)) (xslen 12)) := by
    unfold wdT
    rw [decide_eq_true c, decide_eq_true c2]
    rfl
  have key : anyN (fun j => decide (nI (b (stT b T e + j)) ≠ xsbyt 12 j)) 0 = false → Ev G (d + 4) jX2_isAtHand 28 [some (.ref 43), some (.ref 1112), some (.int (nI 0))] [] (HH M) 0 0 Q := by
    refine dn (E := fun j => anyN (fun j => decide (nI (b (stT b T e + j)) ≠ xsbyt 12 j)) j = false → Ev G (d + 4) jX2_isAtHand 28 [some (.ref 43), some (.ref 1112), some (.int (nI j))] [] (HH M) 0 0 Q) (Nat.zero_le (xslen 12)) (fun hn => ?_) (fun j _ hj ih hn => ?_)
    · refine Ev_wp fX2_isAtHand rfl ?_
      refine c_length 12 (by decide) ?_
      exact q1 (by rw [ew, hn]; rfl)
    · refine Ev_wp fX2_isAtHand rfl ?_
      refine c_length 12 (by decide) ?_
      refine xelse (nI_ge hj (by omega)) ?_
      refine xix (n := 120) (stT b T e + j) (ia l2 rfl) (by omega) (by decide) (fun e9 => ?_)
      rw [e9, t3 _ (by omega)]
      refine c_charAt 12 (by decide) j hj ?_
      rw [nI_succ j] at ih
      refine xite (fun c3 => ?_) (fun c3 => ?_)
      · refine ih ?_
        rw [anyN_s, hn, decide_eq_false (by simpa using c3)]
        rfl
      · refine q0 ?_
        rw [ew, (anyN_iff _ _).mpr ⟨j, hj, decide_eq_true c3⟩]
        rfl
  exact key rfl
theorem c_take12 (tp : TpC b T M) (e : Nat) (he : e ≤ T) (lx : LxC b T e M) (q1 : wdT b T e 12 = true → ∀ M', CfM M M' → LxC b T (enT b T e) M' → Q (some (.int 1)) (HH M')) (q0 : wdT b T e 12 = false → Q (some (.int 0)) (HH M)) : CW G (d + 5) jX2_take [.ref 43, .ref 1112] (HH M) Q := by
  refine CW_wp fX2_take rfl rfl rfl ?_
  refine c_isAtHand12 tp e he lx (fun c => ?_) (fun c => ?_)
  · exact c_next tp (enT b T e) (en_b b T e he).2.1 lx.2.2.1 (fun M' hm hl => q1 c M' hm hl)
  · exact q0 c
theorem c_isAtHand13 (tp : TpC b T M) (e : Nat) (he : e ≤ T) (lx : LxC b T e M) (q1 : wdT b T e 13 = true → Q (some (.int 1)) (HH M)) (q0 : wdT b T e 13 = false → Q (some (.int 0)) (HH M)) : CW G (d + 4) jX2_isAtHand [.ref 43, .ref 1113] (HH M) Q := by
  obtain ⟨t1, t2, t3, t4⟩ := tp
  obtain ⟨l1, l2, l3, l4⟩ := lx
  have hb := en_b b T e he
  have htk := tk_le b T e
  have hl : xslen 13 < 16 := by decide
  refine CW_wp fX2_isAtHand rfl rfl rfl ?_
  refine xeq (tkT b T e) 1 l1 rfl (by omega) (by decide) (fun c => ?_) (fun c => q0 (by unfold wdT; rw [decide_eq_false c]; rfl))
  refine c_length 13 (by decide) ?_
  refine xeq (enT b T e - stT b T e) (xslen 13) (isb l3 l2 hb.1) rfl (by omega) (by omega) (fun c2 => ?_) (fun c2 => q0 (by unfold wdT; rw [decide_eq_false c2]; simp))
  have ew : wdT b T e 13 = !(anyN (fun j => decide (nI (b (stT b T e + j)) ≠ xsbyt 13 j)) (xslen 13)) := by
    unfold wdT
    rw [decide_eq_true c, decide_eq_true c2]
    rfl
  have key : anyN (fun j => decide (nI (b (stT b T e + j)) ≠ xsbyt 13 j)) 0 = false → Ev G (d + 4) jX2_isAtHand 28 [some (.ref 43), some (.ref 1113), some (.int (nI 0))] [] (HH M) 0 0 Q := by
    refine dn (E := fun j => anyN (fun j => decide (nI (b (stT b T e + j)) ≠ xsbyt 13 j)) j = false → Ev G (d + 4) jX2_isAtHand 28 [some (.ref 43), some (.ref 1113), some (.int (nI j))] [] (HH M) 0 0 Q) (Nat.zero_le (xslen 13)) (fun hn => ?_) (fun j _ hj ih hn => ?_)
    · refine Ev_wp fX2_isAtHand rfl ?_
      refine c_length 13 (by decide) ?_
      exact q1 (by rw [ew, hn]; rfl)
    · refine Ev_wp fX2_isAtHand rfl ?_
      refine c_length 13 (by decide) ?_
      refine xelse (nI_ge hj (by omega)) ?_
      refine xix (n := 120) (stT b T e + j) (ia l2 rfl) (by omega) (by decide) (fun e9 => ?_)
      rw [e9, t3 _ (by omega)]
      refine c_charAt 13 (by decide) j hj ?_
      rw [nI_succ j] at ih
      refine xite (fun c3 => ?_) (fun c3 => ?_)
      · refine ih ?_
        rw [anyN_s, hn, decide_eq_false (by simpa using c3)]
        rfl
      · refine q0 ?_
        rw [ew, (anyN_iff _ _).mpr ⟨j, hj, decide_eq_true c3⟩]
        rfl
  exact key rfl
theorem c_take13 (tp : TpC b T M) (e : Nat) (he : e ≤ T) (lx : LxC b T e M) (q1 : wdT b T e 13 = true → ∀ M', CfM M M' → LxC b T (enT b T e) M' → Q (some (.int 1)) (HH M')) (q0 : wdT b T e 13 = false → Q (some (.int 0)) (HH M)) : CW G (d + 5) jX2_take [.ref 43, .ref 1113] (HH M) Q := by
  refine CW_wp fX2_take rfl rfl rfl ?_
  refine c_isAtHand13 tp e he lx (fun c => ?_) (fun c => ?_)
  · exact c_next tp (enT b T e) (en_b b T e he).2.1 lx.2.2.1 (fun M' hm hl => q1 c M' hm hl)
  · exact q0 c
theorem c_isAtHand14 (tp : TpC b T M) (e : Nat) (he : e ≤ T) (lx : LxC b T e M) (q1 : wdT b T e 14 = true → Q (some (.int 1)) (HH M)) (q0 : wdT b T e 14 = false → Q (some (.int 0)) (HH M)) : CW G (d + 4) jX2_isAtHand [.ref 43, .ref 1114] (HH M) Q := by
  obtain ⟨t1, t2, t3, t4⟩ := tp
  obtain ⟨l1, l2, l3, l4⟩ := lx
  have hb := en_b b T e he
  have htk := tk_le b T e
  have hl : xslen 14 < 16 := by decide
  refine CW_wp fX2_isAtHand rfl rfl rfl ?_
  refine xeq (tkT b T e) 1 l1 rfl (by omega) (by decide) (fun c => ?_) (fun c => q0 (by unfold wdT; rw [decide_eq_false c]; rfl))
  refine c_length 14 (by decide) ?_
  refine xeq (enT b T e - stT b T e) (xslen 14) (isb l3 l2 hb.1) rfl (by omega) (by omega) (fun c2 => ?_) (fun c2 => q0 (by unfold wdT; rw [decide_eq_false c2]; simp))
  have ew : wdT b T e 14 = !(anyN (fun j => decide (nI (b (stT b T e + j)) ≠ xsbyt 14 j)) (xslen 14)) := by
    unfold wdT
    rw [decide_eq_true c, decide_eq_true c2]
    rfl
  have key : anyN (fun j => decide (nI (b (stT b T e + j)) ≠ xsbyt 14 j)) 0 = false → Ev G (d + 4) jX2_isAtHand 28 [some (.ref 43), some (.ref 1114), some (.int (nI 0))] [] (HH M) 0 0 Q := by
    refine dn (E := fun j => anyN (fun j => decide (nI (b (stT b T e + j)) ≠ xsbyt 14 j)) j = false → Ev G (d + 4) jX2_isAtHand 28 [some (.ref 43), some (.ref 1114), some (.int (nI j))] [] (HH M) 0 0 Q) (Nat.zero_le (xslen 14)) (fun hn => ?_) (fun j _ hj ih hn => ?_)
    · refine Ev_wp fX2_isAtHand rfl ?_
      refine c_length 14 (by decide) ?_
      exact q1 (by rw [ew, hn]; rfl)
    · refine Ev_wp fX2_isAtHand rfl ?_
      refine c_length 14 (by decide) ?_
      refine xelse (nI_ge hj (by omega)) ?_
      refine xix (n := 120) (stT b T e + j) (ia l2 rfl) (by omega) (by decide) (fun e9 => ?_)
      rw [e9, t3 _ (by omega)]
      refine c_charAt 14 (by decide) j hj ?_
      rw [nI_succ j] at ih
      refine xite (fun c3 => ?_) (fun c3 => ?_)
      · refine ih ?_
        rw [anyN_s, hn, decide_eq_false (by simpa using c3)]
        rfl
      · refine q0 ?_
        rw [ew, (anyN_iff _ _).mpr ⟨j, hj, decide_eq_true c3⟩]
        rfl
  exact key rfl
theorem c_take14 (tp : TpC b T M) (e : Nat) (he : e ≤ T) (lx : LxC b T e M) (q1 : wdT b T e 14 = true → ∀ M', CfM M M' → LxC b T (enT b T e) M' → Q (some (.int 1)) (HH M')) (q0 : wdT b T e 14 = false → Q (some (.int 0)) (HH M)) : CW G (d + 5) jX2_take [.ref 43, .ref 1114] (HH M) Q := by
  refine CW_wp fX2_take rfl rfl rfl ?_
  refine c_isAtHand14 tp e he lx (fun c => ?_) (fun c => ?_)
  · exact c_next tp (enT b T e) (en_b b T e he).2.1 lx.2.2.1 (fun M' hm hl => q1 c M' hm hl)
  · exact q0 c
theorem c_takeNumber (tp : TpC b T M) (e lo hi : Nat) (he : e ≤ T) (lx : LxC b T e M) {x y : Int32} (hx : x = nI lo) (hy : y = nI hi) (hlo : lo < 1000) (hhi : hi < 1000) (q1 : nuT b T e lo hi = true → ∀ M', CfM M M' → LxC b T (enT b T e) M' → Q (some (.int (nI (vT b T e)))) (HH M')) (q0 : nuT b T e lo hi = false → Q (some (.int (-1))) (HH M)) : CW G (d + 2) jX2_takeNumber [.ref 43, .int x, .int y] (HH M) Q := by
  have htk := tk_le b T e
  have hv := v_le b tp.2.2.2 T e
  obtain ⟨l1, l2, l3, l4⟩ := id lx
  refine CW_wp fX2_takeNumber rfl rfl rfl ?_
  refine xeq (tkT b T e) 2 l1 rfl (by omega) (by decide) (fun c => ?_) (fun c => q0 (by unfold nuT; rw [decide_eq_false c]; rfl))
  refine xlt (vT b T e) lo l4 hx (by omega) (by omega) (fun c2 => q0 (by unfold nuT; rw [decide_eq_false (show ¬ lo ≤ vT b T e by omega)]; simp)) (fun c2 => ?_)
  refine xle (vT b T e) hi l4 hy (by omega) (by omega) (fun c3 => ?_) (fun c3 => q0 (by unfold nuT; rw [decide_eq_false (show ¬ vT b T e ≤ hi by omega)]; simp))
  refine c_next tp (enT b T e) (en_b b T e he).2.1 l3 (fun M' hm hl => ?_)
  have h9 := q1 (nu_iff.mpr ⟨c, c2, c3⟩) M' hm hl
  rw [← l4] at h9
  exact h9
end LD
/-! An ITEM, purely: (whether it is one, the TOKEN behind it or at fault, its kind and numbers). -/
abbrev R7 : Type := Bool × Nat × Nat × Nat × Nat × Nat × Nat
def fR (e : Nat) : R7 := (false, e, 0, 0, 0, 0, 0)
section PI
variable (b : Nat → Nat) (T : Nat)
def piWay (e : Nat) : R7 := if nuT b T e 0 9 = true then (if nuT b T (enT b T e) 0 9 = true ∧ vT b T (enT b T e) ≠ vT b T e then (true, enT b T (enT b T e), 10, vT b T e, vT b T (enT b T e), 0, 0) else fR (enT b T e)) else fR e
def piKeep (e : Nat) : R7 := if nuT b T e 1 20 = true then (true, enT b T e, 12, vT b T e, 0, 0, 0) else fR e
def piRain (e : Nat) : R7 := if nuT b T e 0 99 = true then (true, enT b T e, 13, vT b T e, 0, 0, 0) else fR e
def piP3 (p a e : Nat) : R7 := if wdT b T e 3 = true then (if nuT b T (enT b T e) 0 23 = true then (if nuT b T (enT b T (enT b T e)) (vT b T (enT b T e)) 23 = true then (true, enT b T (enT b T (enT b T e)), 11, p, a, vT b T (enT b T e), vT b T (enT b T (enT b T e))) else fR (enT b T (enT b T e))) else fR (enT b T e)) else (true, e, 11, p, a, 0, 23)
def piP2 (p e : Nat) : R7 := if nuT b T e 0 9 = true then piP3 b T p (vT b T e) (enT b T e) else fR e
def piP1 (p e : Nat) : R7 := if wdT b T e 2 = true then piP2 b T p (enT b T e) else fR e
def piPers (e : Nat) : R7 := if nuT b T e 0 5 = true then piP1 b T (vT b T e) (enT b T e) else fR e
def piS5 (k w p h e : Nat) : R7 := if wdT b T e 14 = true then (if nuT b T (enT b T e) 1 9 = true then (true, enT b T (enT b T e), k, w, vT b T (enT b T e), p, h) else fR (enT b T e)) else (true, e, k, w, 1, p, h)
def piS4 (k w p e : Nat) : R7 := if nuT b T e 0 23 = true then piS5 b T k w p (vT b T e) (enT b T e) else fR e
def piS3 (k w p e : Nat) : R7 := if wdT b T e 13 = true then piS4 b T k w p (enT b T e) else fR e
def piS2 (k w e : Nat) : R7 := if nuT b T e 0 9 = true then piS3 b T k w (vT b T e) (enT b T e) else fR e
def piS1 (k w e : Nat) : R7 := if wdT b T e 2 = true then piS2 b T k w (enT b T e) else fR e
def piSay (k e : Nat) : R7 := if nuT b T e 0 15 = true then piS1 b T k (vT b T e) (enT b T e) else fR e
def kdT (e : Nat) : Option Nat := if wdT b T e 6 = true then some 0 else if wdT b T e 7 = true then some 1 else if wdT b T e 8 = true then some 2 else if wdT b T e 9 = true then some 3 else if wdT b T e 10 = true then some 4 else if wdT b T e 11 = true then some 5 else if wdT b T e 12 = true then some 6 else none
def piItem (m e : Nat) : R7 := if wdT b T e 0 = true then piWay b T (enT b T e) else if wdT b T e 1 = true then piPers b T (enT b T e) else if wdT b T e 4 = true then piKeep b T (enT b T e) else if wdT b T e 5 = true then piRain b T (enT b T e) else match kdT b T e with
  | none => fR e
  | some k => if m < 40 then piSay b T k (enT b T e) else fR e
end PI
/-- what an ITEM tells, done -/
def apI (N : Nat → Int32) (r : R7) : Nat → Int32 := match r with
  | (_, _, k, x, y, z, u) => if k = 10 then wyF N x y 1 else if k = 11 then ldF N (fun _ => nI y) (444 + (24 * x + z)) (u + 1 - z) else if k = 12 then upd N 2 (nI x) else if k = 13 then upd N (4 + x) 1 else syF N (sN N) (nI k) (nI x) (nI y) (nI z) (nI u) (nI (vN N 0)) (nI (sN N + 1))
