/-! The model's words, must and number. -/
theorem xup_id {M : xM} {a k : Nat} {v : Int32} (h : M a k = v) : xup M a k v = M := by
  have e2 : upd (M a) k v = M a := by
    funext j
    unfold upd
    by_cases z : j = k
    · rw [if_pos z, z, h]
    · rw [if_neg z]
  show xrow M a (upd (M a) k v) = M
  rw [e2, xrow_self]
theorem tm_1 {b : Nat → Nat} {T e : Nat} : tmT b T e = 1 ↔ tkT b T e = 1 := by unfold tmT; split <;> omega
theorem tm_2 {b : Nat → Nat} {T e : Nat} : tmT b T e = 2 ↔ tkT b T e = 2 := by unfold tmT; split <;> omega
theorem tm_0 {b : Nat → Nat} {T e : Nat} : tmT b T e = 0 ↔ tkT b T e = 0 := by unfold tmT; split <;> omega
theorem nu_vm {b : Nat → Nat} {T e lo hi : Nat} (hhi : hi < 1000) : nuT b T e lo hi = true ↔ tmT b T e = 2 ∧ lo ≤ vmT b T e ∧ vmT b T e ≤ hi ∧ vmT b T e = vT b T e := by
  rw [nu_iff, tm_2]
  unfold vmT vT
  constructor
  · intro h
    rw [if_pos h.1] at h ⊢
    rw [if_pos h.1]
    omega
  · intro h
    rw [if_pos h.1, if_pos h.1] at h
    rw [if_pos h.1]
    omega
theorem nu_vm2 {b : Nat → Nat} {T e lo hi : Nat} (hhi : hi < 1000) (h2 : tmT b T e = 2) (h3 : lo ≤ vmT b T e) (h4 : vmT b T e ≤ hi) : vmT b T e = vT b T e := by
  have h2 := tm_2.mp h2
  unfold vmT at h4 ⊢
  unfold vT
  rw [if_pos h2] at h4 ⊢
  rw [if_pos h2]
  omega
section LN
variable {G : xG} {d : Nat} {M : xM} {Q : Option Value → xH → Prop} {b : Nat → Nat} {T : Nat}
theorem m_isWord0 (tp : TpM b T M) (e : Nat) (he : e ≤ T) (lx : LxM b T e M) (q1 : wdT b T e 0 = true → Q (some (.int 1)) (HH M)) (q0 : wdT b T e 0 = false → Q (some (.int 0)) (HH M)) : CW G (d + 4) jX9_isWord [.ref 59, .ref 1100] (HH M) Q := by
  obtain ⟨t1, t2, t3, t4⟩ := tp
  obtain ⟨l1, l2, l3, l4⟩ := lx
  have hb := en_b b T e he
  have htk := tm_le b T e
  have hl : xslen 0 < 16 := by decide
  have zero : wdT b T e 0 = false → ∀ j, j ≤ 16 → Ev G (d + 4) jX9_isWord 32 [some (.ref 59), some (.ref 1100), some (.int 0), some (.int (nI j))] [] (HH M) 0 0 Q := fun hw j hj => by
    refine Ev_wp fX9_isWord rfl ?_
    refine c_length 0 (by decide) ?_
    exact xle (xslen 0) j rfl rfl (by omega) (by omega) (fun _ => q0 hw) (fun _ => q0 hw)
  refine CW_wp fX9_isWord rfl rfl rfl ?_
  refine xeq (tmT b T e) 1 l1 rfl (by omega) (by decide) (fun c => ?_) (fun c => zero (by unfold wdT; rw [decide_eq_false (fun z => c (tm_1.mpr z))]; rfl) 0 (by decide))
  have c := tm_1.mp c
  refine c_length 0 (by decide) ?_
  refine xeq (enT b T e - stT b T e) (xslen 0) (isb l3 l2 hb.1) rfl (by omega) (by omega) (fun c2 => ?_) (fun c2 => zero (by unfold wdT; rw [decide_eq_false c2]; simp) 0 (by decide))
  have ew : wdT b T e 0 = !(anyN (fun j => decide (nI (b (stT b T e + j)) ≠ xsbyt 0 j)) (xslen 0)) := by
    unfold wdT
    rw [decide_eq_true c, decide_eq_true c2]
    rfl
  have key : anyN (fun j => decide (nI (b (stT b T e + j)) ≠ xsbyt 0 j)) 0 = false → Ev G (d + 4) jX9_isWord 32 [some (.ref 59), some (.ref 1100), some (.int 1), some (.int (nI 0))] [] (HH M) 0 0 Q := by
    refine dn (E := fun j => anyN (fun j => decide (nI (b (stT b T e + j)) ≠ xsbyt 0 j)) j = false → Ev G (d + 4) jX9_isWord 32 [some (.ref 59), some (.ref 1100), some (.int 1), some (.int (nI j))] [] (HH M) 0 0 Q) (Nat.zero_le (xslen 0)) (fun hn => ?_) (fun j _ hj ih hn => ?_)
    · refine Ev_wp fX9_isWord rfl ?_
      refine c_length 0 (by decide) ?_
      exact q1 (by rw [ew, hn]; rfl)
    · refine Ev_wp fX9_isWord rfl ?_
      refine c_length 0 (by decide) ?_
      refine xelse (nI_ge hj (by omega)) ?_
      refine xix (n := 120) (stT b T e + j) (ia l2 rfl) (by omega) (by decide) (fun e9 => ?_)
      rw [e9, t3 _ (by omega)]
      refine c_charAt 0 (by decide) j hj ?_
      rw [nI_succ j] at ih
      refine xite (fun c3 => ?_) (fun c3 => ?_)
      · refine ih ?_
        rw [anyN_s, hn, decide_eq_false (by simpa using c3)]
        rfl
      · have h9 := zero (by rw [ew, (anyN_iff _ _).mpr ⟨j, hj, decide_eq_true c3⟩]; rfl) (j + 1) (by omega)
        rw [nI_succ j] at h9
        exact h9
  exact key rfl
theorem m_isWord1 (tp : TpM b T M) (e : Nat) (he : e ≤ T) (lx : LxM b T e M) (q1 : wdT b T e 1 = true → Q (some (.int 1)) (HH M)) (q0 : wdT b T e 1 = false → Q (some (.int 0)) (HH M)) : CW G (d + 4) jX9_isWord [.ref 59, .ref 1101] (HH M) Q := by
  obtain ⟨t1, t2, t3, t4⟩ := tp
  obtain ⟨l1, l2, l3, l4⟩ := lx
  have hb := en_b b T e he
  have htk := tm_le b T e
  have hl : xslen 1 < 16 := by decide
  have zero : wdT b T e 1 = false → ∀ j, j ≤ 16 → Ev G (d + 4) jX9_isWord 32 [some (.ref 59), some (.ref 1101), some (.int 0), some (.int (nI j))] [] (HH M) 0 0 Q := fun hw j hj => by
    refine Ev_wp fX9_isWord rfl ?_
    refine c_length 1 (by decide) ?_
    exact xle (xslen 1) j rfl rfl (by omega) (by omega) (fun _ => q0 hw) (fun _ => q0 hw)
  refine CW_wp fX9_isWord rfl rfl rfl ?_
  refine xeq (tmT b T e) 1 l1 rfl (by omega) (by decide) (fun c => ?_) (fun c => zero (by unfold wdT; rw [decide_eq_false (fun z => c (tm_1.mpr z))]; rfl) 0 (by decide))
  have c := tm_1.mp c
  refine c_length 1 (by decide) ?_
  refine xeq (enT b T e - stT b T e) (xslen 1) (isb l3 l2 hb.1) rfl (by omega) (by omega) (fun c2 => ?_) (fun c2 => zero (by unfold wdT; rw [decide_eq_false c2]; simp) 0 (by decide))
  have ew : wdT b T e 1 = !(anyN (fun j => decide (nI (b (stT b T e + j)) ≠ xsbyt 1 j)) (xslen 1)) := by
    unfold wdT
    rw [decide_eq_true c, decide_eq_true c2]
    rfl
  have key : anyN (fun j => decide (nI (b (stT b T e + j)) ≠ xsbyt 1 j)) 0 = false → Ev G (d + 4) jX9_isWord 32 [some (.ref 59), some (.ref 1101), some (.int 1), some (.int (nI 0))] [] (HH M) 0 0 Q := by
    refine dn (E := fun j => anyN (fun j => decide (nI (b (stT b T e + j)) ≠ xsbyt 1 j)) j = false → Ev G (d + 4) jX9_isWord 32 [some (.ref 59), some (.ref 1101), some (.int 1), some (.int (nI j))] [] (HH M) 0 0 Q) (Nat.zero_le (xslen 1)) (fun hn => ?_) (fun j _ hj ih hn => ?_)
    · refine Ev_wp fX9_isWord rfl ?_
      refine c_length 1 (by decide) ?_
      exact q1 (by rw [ew, hn]; rfl)
    · refine Ev_wp fX9_isWord rfl ?_
      refine c_length 1 (by decide) ?_
      refine xelse (nI_ge hj (by omega)) ?_
      refine xix (n := 120) (stT b T e + j) (ia l2 rfl) (by omega) (by decide) (fun e9 => ?_)
      rw [e9, t3 _ (by omega)]
      refine c_charAt 1 (by decide) j hj ?_
      rw [nI_succ j] at ih
      refine xite (fun c3 => ?_) (fun c3 => ?_)
      · refine ih ?_
        rw [anyN_s, hn, decide_eq_false (by simpa using c3)]
        rfl
      · have h9 := zero (by rw [ew, (anyN_iff _ _).mpr ⟨j, hj, decide_eq_true c3⟩]; rfl) (j + 1) (by omega)
        rw [nI_succ j] at h9
        exact h9
  exact key rfl
theorem m_isWord2 (tp : TpM b T M) (e : Nat) (he : e ≤ T) (lx : LxM b T e M) (q1 : wdT b T e 2 = true → Q (some (.int 1)) (HH M)) (q0 : wdT b T e 2 = false → Q (some (.int 0)) (HH M)) : CW G (d + 4) jX9_isWord [.ref 59, .ref 1102] (HH M) Q := by
  obtain ⟨t1, t2, t3, t4⟩ := tp
  obtain ⟨l1, l2, l3, l4⟩ := lx
  have hb := en_b b T e he
  have htk := tm_le b T e
  have hl : xslen 2 < 16 := by decide
  have zero : wdT b T e 2 = false → ∀ j, j ≤ 16 → Ev G (d + 4) jX9_isWord 32 [some (.ref 59), some (.ref 1102), some (.int 0), some (.int (nI j))] [] (HH M) 0 0 Q := fun hw j hj => by
    refine Ev_wp fX9_isWord rfl ?_
    refine c_length 2 (by decide) ?_
    exact xle (xslen 2) j rfl rfl (by omega) (by omega) (fun _ => q0 hw) (fun _ => q0 hw)
  refine CW_wp fX9_isWord rfl rfl rfl ?_
  refine xeq (tmT b T e) 1 l1 rfl (by omega) (by decide) (fun c => ?_) (fun c => zero (by unfold wdT; rw [decide_eq_false (fun z => c (tm_1.mpr z))]; rfl) 0 (by decide))
  have c := tm_1.mp c
  refine c_length 2 (by decide) ?_
  refine xeq (enT b T e - stT b T e) (xslen 2) (isb l3 l2 hb.1) rfl (by omega) (by omega) (fun c2 => ?_) (fun c2 => zero (by unfold wdT; rw [decide_eq_false c2]; simp) 0 (by decide))
  have ew : wdT b T e 2 = !(anyN (fun j => decide (nI (b (stT b T e + j)) ≠ xsbyt 2 j)) (xslen 2)) := by
    unfold wdT
    rw [decide_eq_true c, decide_eq_true c2]
    rfl
  have key : anyN (fun j => decide (nI (b (stT b T e + j)) ≠ xsbyt 2 j)) 0 = false → Ev G (d + 4) jX9_isWord 32 [some (.ref 59), some (.ref 1102), some (.int 1), some (.int (nI 0))] [] (HH M) 0 0 Q := by
    refine dn (E := fun j => anyN (fun j => decide (nI (b (stT b T e + j)) ≠ xsbyt 2 j)) j = false → Ev G (d + 4) jX9_isWord 32 [some (.ref 59), some (.ref 1102), some (.int 1), some (.int (nI j))] [] (HH M) 0 0 Q) (Nat.zero_le (xslen 2)) (fun hn => ?_) (fun j _ hj ih hn => ?_)
    · refine Ev_wp fX9_isWord rfl ?_
      refine c_length 2 (by decide) ?_
      exact q1 (by rw [ew, hn]; rfl)
    · refine Ev_wp fX9_isWord rfl ?_
      refine c_length 2 (by decide) ?_
      refine xelse (nI_ge hj (by omega)) ?_
      refine xix (n := 120) (stT b T e + j) (ia l2 rfl) (by omega) (by decide) (fun e9 => ?_)
      rw [e9, t3 _ (by omega)]
      refine c_charAt 2 (by decide) j hj ?_
      rw [nI_succ j] at ih
      refine xite (fun c3 => ?_) (fun c3 => ?_)
      · refine ih ?_
        rw [anyN_s, hn, decide_eq_false (by simpa using c3)]
        rfl
      · have h9 := zero (by rw [ew, (anyN_iff _ _).mpr ⟨j, hj, decide_eq_true c3⟩]; rfl) (j + 1) (by omega)
        rw [nI_succ j] at h9
        exact h9
  exact key rfl
theorem m_isWord3 (tp : TpM b T M) (e : Nat) (he : e ≤ T) (lx : LxM b T e M) (q1 : wdT b T e 3 = true → Q (some (.int 1)) (HH M)) (q0 : wdT b T e 3 = false → Q (some (.int 0)) (HH M)) : CW G (d + 4) jX9_isWord [.ref 59, .ref 1103] (HH M) Q := by
  obtain ⟨t1, t2, t3, t4⟩ := tp
  obtain ⟨l1, l2, l3, l4⟩ := lx
  have hb := en_b b T e he
  have htk := tm_le b T e
  have hl : xslen 3 < 16 := by decide
  have zero : wdT b T e 3 = false → ∀ j, j ≤ 16 → Ev G (d + 4) jX9_isWord 32 [some (.ref 59), some (.ref 1103), some (.int 0), some (.int (nI j))] [] (HH M) 0 0 Q := fun hw j hj => by
    refine Ev_wp fX9_isWord rfl ?_
    refine c_length 3 (by decide) ?_
    exact xle (xslen 3) j rfl rfl (by omega) (by omega) (fun _ => q0 hw) (fun _ => q0 hw)
  refine CW_wp fX9_isWord rfl rfl rfl ?_
  refine xeq (tmT b T e) 1 l1 rfl (by omega) (by decide) (fun c => ?_) (fun c => zero (by unfold wdT; rw [decide_eq_false (fun z => c (tm_1.mpr z))]; rfl) 0 (by decide))
  have c := tm_1.mp c
  refine c_length 3 (by decide) ?_
  refine xeq (enT b T e - stT b T e) (xslen 3) (isb l3 l2 hb.1) rfl (by omega) (by omega) (fun c2 => ?_) (fun c2 => zero (by unfold wdT; rw [decide_eq_false c2]; simp) 0 (by decide))
  have ew : wdT b T e 3 = !(anyN (fun j => decide (nI (b (stT b T e + j)) ≠ xsbyt 3 j)) (xslen 3)) := by
    unfold wdT
    rw [decide_eq_true c, decide_eq_true c2]
    rfl
  have key : anyN (fun j => decide (nI (b (stT b T e + j)) ≠ xsbyt 3 j)) 0 = false → Ev G (d + 4) jX9_isWord 32 [some (.ref 59), some (.ref 1103), some (.int 1), some (.int (nI 0))] [] (HH M) 0 0 Q := by
    refine dn (E := fun j => anyN (fun j => decide (nI (b (stT b T e + j)) ≠ xsbyt 3 j)) j = false → Ev G (d + 4) jX9_isWord 32 [some (.ref 59), some (.ref 1103), some (.int 1), some (.int (nI j))] [] (HH M) 0 0 Q) (Nat.zero_le (xslen 3)) (fun hn => ?_) (fun j _ hj ih hn => ?_)
    · refine Ev_wp fX9_isWord rfl ?_
      refine c_length 3 (by decide) ?_
      exact q1 (by rw [ew, hn]; rfl)
    · refine Ev_wp fX9_isWord rfl ?_
      refine c_length 3 (by decide) ?_
      refine xelse (nI_ge hj (by omega)) ?_
      refine xix (n := 120) (stT b T e + j) (ia l2 rfl) (by omega) (by decide) (fun e9 => ?_)
      rw [e9, t3 _ (by omega)]
      refine c_charAt 3 (by decide) j hj ?_
      rw [nI_succ j] at ih
      refine xite (fun c3 => ?_) (fun c3 => ?_)
      · refine ih ?_
        rw [anyN_s, hn, decide_eq_false (by simpa using c3)]
        rfl
      · have h9 := zero (by rw [ew, (anyN_iff _ _).mpr ⟨j, hj, decide_eq_true c3⟩]; rfl) (j + 1) (by omega)
        rw [nI_succ j] at h9
        exact h9
  exact key rfl
theorem m_isWord4 (tp : TpM b T M) (e : Nat) (he : e ≤ T) (lx : LxM b T e M) (q1 : wdT b T e 4 = true → Q (some (.int 1)) (HH M)) (q0 : wdT b T e 4 = false → Q (some (.int 0)) (HH M)) : CW G (d + 4) jX9_isWord [.ref 59, .ref 1104] (HH M) Q := by
  obtain ⟨t1, t2, t3, t4⟩ := tp
  obtain ⟨l1, l2, l3, l4⟩ := lx
  have hb := en_b b T e he
  have htk := tm_le b T e
  have hl : xslen 4 < 16 := by decide
  have zero : wdT b T e 4 = false → ∀ j, j ≤ 16 → Ev G (d + 4) jX9_isWord 32 [some (.ref 59), some (.ref 1104), some (.int 0), some (.int (nI j))] [] (HH M) 0 0 Q := fun hw j hj => by
    refine Ev_wp fX9_isWord rfl ?_
    refine c_length 4 (by decide) ?_
    exact xle (xslen 4) j rfl rfl (by omega) (by omega) (fun _ => q0 hw) (fun _ => q0 hw)
  refine CW_wp fX9_isWord rfl rfl rfl ?_
  refine xeq (tmT b T e) 1 l1 rfl (by omega) (by decide) (fun c => ?_) (fun c => zero (by unfold wdT; rw [decide_eq_false (fun z => c (tm_1.mpr z))]; rfl) 0 (by decide))
  have c := tm_1.mp c
  refine c_length 4 (by decide) ?_
  refine xeq (enT b T e - stT b T e) (xslen 4) (isb l3 l2 hb.1) rfl (by omega) (by omega) (fun c2 => ?_) (fun c2 => zero (by unfold wdT; rw [decide_eq_false c2]; simp) 0 (by decide))
  have ew : wdT b T e 4 = !(anyN (fun j => decide (nI (b (stT b T e + j)) ≠ xsbyt 4 j)) (xslen 4)) := by
    unfold wdT
    rw [decide_eq_true c, decide_eq_true c2]
    rfl
  have key : anyN (fun j => decide (nI (b (stT b T e + j)) ≠ xsbyt 4 j)) 0 = false → Ev G (d + 4) jX9_isWord 32 [some (.ref 59), some (.ref 1104), some (.int 1), some (.int (nI 0))] [] (HH M) 0 0 Q := by
    refine dn (E := fun j => anyN (fun j => decide (nI (b (stT b T e + j)) ≠ xsbyt 4 j)) j = false → Ev G (d + 4) jX9_isWord 32 [some (.ref 59), some (.ref 1104), some (.int 1), some (.int (nI j))] [] (HH M) 0 0 Q) (Nat.zero_le (xslen 4)) (fun hn => ?_) (fun j _ hj ih hn => ?_)
    · refine Ev_wp fX9_isWord rfl ?_
      refine c_length 4 (by decide) ?_
      exact q1 (by rw [ew, hn]; rfl)
    · refine Ev_wp fX9_isWord rfl ?_
      refine c_length 4 (by decide) ?_
      refine xelse (nI_ge hj (by omega)) ?_
      refine xix (n := 120) (stT b T e + j) (ia l2 rfl) (by omega) (by decide) (fun e9 => ?_)
      rw [e9, t3 _ (by omega)]
      refine c_charAt 4 (by decide) j hj ?_
      rw [nI_succ j] at ih
      refine xite (fun c3 => ?_) (fun c3 => ?_)
      · refine ih ?_
        rw [anyN_s, hn, decide_eq_false (by simpa using c3)]
        rfl
      · have h9 := zero (by rw [ew, (anyN_iff _ _).mpr ⟨j, hj, decide_eq_true c3⟩]; rfl) (j + 1) (by omega)
        rw [nI_succ j] at h9
        exact h9
  exact key rfl
theorem m_isWord5 (tp : TpM b T M) (e : Nat) (he : e ≤ T) (lx : LxM b T e M) (q1 : wdT b T e 5 = true → Q (some (.int 1)) (HH M)) (q0 : wdT b T e 5 = false → Q (some (.int 0)) (HH M)) : CW G (d + 4) jX9_isWord [.ref 59, .ref 1105] (HH M) Q := by
  obtain ⟨t1, t2, t3, t4⟩ := tp
  obtain ⟨l1, l2, l3, l4⟩ := lx
  have hb := en_b b T e he
  have htk := tm_le b T e
  have hl : xslen 5 < 16 := by decide
  have zero : wdT b T e 5 = false → ∀ j, j ≤ 16 → Ev G (d + 4) jX9_isWord 32 [some (.ref 59), some (.ref 1105), some (.int 0), some (.int (nI j))] [] (HH M) 0 0 Q := fun hw j hj => by
    refine Ev_wp fX9_isWord rfl ?_
    refine c_length 5 (by decide) ?_
    exact xle (xslen 5) j rfl rfl (by omega) (by omega) (fun _ => q0 hw) (fun _ => q0 hw)
  refine CW_wp fX9_isWord rfl rfl rfl ?_
  refine xeq (tmT b T e) 1 l1 rfl (by omega) (by decide) (fun c => ?_) (fun c => zero (by unfold wdT; rw [decide_eq_false (fun z => c (tm_1.mpr z))]; rfl) 0 (by decide))
  have c := tm_1.mp c
  refine c_length 5 (by decide) ?_
  refine xeq (enT b T e - stT b T e) (xslen 5) (isb l3 l2 hb.1) rfl (by omega) (by omega) (fun c2 => ?_) (fun c2 => zero (by unfold wdT; rw [decide_eq_false c2]; simp) 0 (by decide))
  have ew : wdT b T e 5 = !(anyN (fun j => decide (nI (b (stT b T e + j)) ≠ xsbyt 5 j)) (xslen 5)) := by
    unfold wdT
    rw [decide_eq_true c, decide_eq_true c2]
    rfl
  have key : anyN (fun j => decide (nI (b (stT b T e + j)) ≠ xsbyt 5 j)) 0 = false → Ev G (d + 4) jX9_isWord 32 [some (.ref 59), some (.ref 1105), some (.int 1), some (.int (nI 0))] [] (HH M) 0 0 Q := by
    refine dn (E := fun j => anyN (fun j => decide (nI (b (stT b T e + j)) ≠ xsbyt 5 j)) j = false → Ev G (d + 4) jX9_isWord 32 [some (.ref 59), some (.ref 1105), some (.int 1), some (.int (nI j))] [] (HH M) 0 0 Q) (Nat.zero_le (xslen 5)) (fun hn => ?_) (fun j _ hj ih hn => ?_)
    · refine Ev_wp fX9_isWord rfl ?_
      refine c_length 5 (by decide) ?_
      exact q1 (by rw [ew, hn]; rfl)
    · refine Ev_wp fX9_isWord rfl ?_
      refine c_length 5 (by decide) ?_
      refine xelse (nI_ge hj (by omega)) ?_
      refine xix (n := 120) (stT b T e + j) (ia l2 rfl) (by omega) (by decide) (fun e9 => ?_)
      rw [e9, t3 _ (by omega)]
      refine c_charAt 5 (by decide) j hj ?_
      rw [nI_succ j] at ih
      refine xite (fun c3 => ?_) (fun c3 => ?_)
      · refine ih ?_
        rw [anyN_s, hn, decide_eq_false (by simpa using c3)]
        rfl
      · have h9 := zero (by rw [ew, (anyN_iff _ _).mpr ⟨j, hj, decide_eq_true c3⟩]; rfl) (j + 1) (by omega)
        rw [nI_succ j] at h9
        exact h9
  exact key rfl
theorem m_isWord6 (tp : TpM b T M) (e : Nat) (he : e ≤ T) (lx : LxM b T e M) (q1 : wdT b T e 6 = true → Q (some (.int 1)) (HH M)) (q0 : wdT b T e 6 = false → Q (some (.int 0)) (HH M)) : CW G (d + 4) jX9_isWord [.ref 59, .ref 1106] (HH M) Q := by
  obtain ⟨t1, t2, t3, t4⟩ := tp
  obtain ⟨l1, l2, l3, l4⟩ := lx
  have hb := en_b b T e he
  have htk := tm_le b T e
  have hl : xslen 6 < 16 := by decide
  have zero : wdT b T e 6 = false → ∀ j, j ≤ 16 → Ev G (d + 4) jX9_isWord 32 [some (.ref 59), some (.ref 1106), some (.int 0), some (.int (nI j))] [] (HH M) 0 0 Q := fun hw j hj => by
    refine Ev_wp fX9_isWord rfl ?_
    refine c_length 6 (by decide) ?_
    exact xle (xslen 6) j rfl rfl (by omega) (by omega) (fun _ => q0 hw) (fun _ => q0 hw)
  refine CW_wp fX9_isWord rfl rfl rfl ?_
  refine xeq (tmT b T e) 1 l1 rfl (by omega) (by decide) (fun c => ?_) (fun c => zero (by unfold wdT; rw [decide_eq_false (fun z => c (tm_1.mpr z))]; rfl) 0 (by decide))
  have c := tm_1.mp c
  refine c_length 6 (by decide) ?_
  refine xeq (enT b T e - stT b T e) (xslen 6) (isb l3 l2 hb.1) rfl (by omega) (by omega) (fun c2 => ?_) (fun c2 => zero (by unfold wdT; rw [decide_eq_false c2]; simp) 0 (by decide))
  have ew : wdT b T e 6 = !(anyN (fun j => decide (nI (b (stT b T e + j)) ≠ xsbyt 6 j)) (xslen 6)) := by
    unfold wdT
    rw [decide_eq_true c, decide_eq_true c2]
    rfl
  have key : anyN (fun j => decide (nI (b (stT b T e + j)) ≠ xsbyt 6 j)) 0 = false → Ev G (d + 4) jX9_isWord 32 [some (.ref 59), some (.ref 1106), some (.int 1), some (.int (nI 0))] [] (HH M) 0 0 Q := by
    refine dn (E := fun j => anyN (fun j => decide (nI (b (stT b T e + j)) ≠ xsbyt 6 j)) j = false → Ev G (d + 4) jX9_isWord 32 [some (.ref 59), some (.ref 1106), some (.int 1), some (.int (nI j))] [] (HH M) 0 0 Q) (Nat.zero_le (xslen 6)) (fun hn => ?_) (fun j _ hj ih hn => ?_)
    · refine Ev_wp fX9_isWord rfl ?_
      refine c_length 6 (by decide) ?_
      exact q1 (by rw [ew, hn]; rfl)
    · refine Ev_wp fX9_isWord rfl ?_
      refine c_length 6 (by decide) ?_
      refine xelse (nI_ge hj (by omega)) ?_
      refine xix (n := 120) (stT b T e + j) (ia l2 rfl) (by omega) (by decide) (fun e9 => ?_)
      rw [e9, t3 _ (by omega)]
      refine c_charAt 6 (by decide) j hj ?_
      rw [nI_succ j] at ih
      refine xite (fun c3 => ?_) (fun c3 => ?_)
      · refine ih ?_
        rw [anyN_s, hn, decide_eq_false (by simpa using c3)]
        rfl
      · have h9 := zero (by rw [ew, (anyN_iff _ _).mpr ⟨j, hj, decide_eq_true c3⟩]; rfl) (j + 1) (by omega)
        rw [nI_succ j] at h9
        exact h9
  exact key rfl
theorem m_isWord7 (tp : TpM b T M) (e : Nat) (he : e ≤ T) (lx : LxM b T e M) (q1 : wdT b T e 7 = true → Q (some (.int 1)) (HH M)) (q0 : wdT b T e 7 = false → Q (some (.int 0)) (HH M)) : CW G (d + 4) jX9_isWord [.ref 59, .ref 1107] (HH M) Q := by
  obtain ⟨t1, t2, t3, t4⟩ := tp
  obtain ⟨l1, l2, l3, l4⟩ := lx
  have hb := en_b b T e he
  have htk := tm_le b T e
  have hl : xslen 7 < 16 := by decide
  have zero : wdT b T e 7 = false → ∀ j, j ≤ 16 → Ev G (d + 4) jX9_isWord 32 [some (.ref 59), some (.ref 1107), some (.int 0), some (.int (nI j))] [] (HH M) 0 0 Q := fun hw j hj => by
    refine Ev_wp fX9_isWord rfl ?_
    refine c_length 7 (by decide) ?_
    exact xle (xslen 7) j rfl rfl (by omega) (by omega) (fun _ => q0 hw) (fun _ => q0 hw)
  refine CW_wp fX9_isWord rfl rfl rfl ?_
  refine xeq (tmT b T e) 1 l1 rfl (by omega) (by decide) (fun c => ?_) (fun c => zero (by unfold wdT; rw [decide_eq_false (fun z => c (tm_1.mpr z))]; rfl) 0 (by decide))
  have c := tm_1.mp c
  refine c_length 7 (by decide) ?_
  refine xeq (enT b T e - stT b T e) (xslen 7) (isb l3 l2 hb.1) rfl (by omega) (by omega) (fun c2 => ?_) (fun c2 => zero (by unfold wdT; rw [decide_eq_false c2]; simp) 0 (by decide))
  have ew : wdT b T e 7 = !(anyN (fun j => decide (nI (b (stT b T e + j)) ≠ xsbyt 7 j)) (xslen 7)) := by
    unfold wdT
    rw [decide_eq_true c, decide_eq_true c2]
    rfl
  have key : anyN (fun j => decide (nI (b (stT b T e + j)) ≠ xsbyt 7 j)) 0 = false → Ev G (d + 4) jX9_isWord 32 [some (.ref 59), some (.ref 1107), some (.int 1), some (.int (nI 0))] [] (HH M) 0 0 Q := by
    refine dn (E := fun j => anyN (fun j => decide (nI (b (stT b T e + j)) ≠ xsbyt 7 j)) j = false → Ev G (d + 4) jX9_isWord 32 [some (.ref 59), some (.ref 1107), some (.int 1), some (.int (nI j))] [] (HH M) 0 0 Q) (Nat.zero_le (xslen 7)) (fun hn => ?_) (fun j _ hj ih hn => ?_)
    · refine Ev_wp fX9_isWord rfl ?_
      refine c_length 7 (by decide) ?_
      exact q1 (by rw [ew, hn]; rfl)
    · refine Ev_wp fX9_isWord rfl ?_
      refine c_length 7 (by decide) ?_
      refine xelse (nI_ge hj (by omega)) ?_
      refine xix (n := 120) (stT b T e + j) (ia l2 rfl) (by omega) (by decide) (fun e9 => ?_)
      rw [e9, t3 _ (by omega)]
      refine c_charAt 7 (by decide) j hj ?_
      rw [nI_succ j] at ih
      refine xite (fun c3 => ?_) (fun c3 => ?_)
      · refine ih ?_
        rw [anyN_s, hn, decide_eq_false (by simpa using c3)]
        rfl
      · have h9 := zero (by rw [ew, (anyN_iff _ _).mpr ⟨j, hj, decide_eq_true c3⟩]; rfl) (j + 1) (by omega)
        rw [nI_succ j] at h9
        exact h9
  exact key rfl
theorem m_isWord8 (tp : TpM b T M) (e : Nat) (he : e ≤ T) (lx : LxM b T e M) (q1 : wdT b T e 8 = true → Q (some (.int 1)) (HH M)) (q0 : wdT b T e 8 = false → Q (some (.int 0)) (HH M)) : CW G (d + 4) jX9_isWord [.ref 59, .ref 1108] (HH M) Q := by
  obtain ⟨t1, t2, t3, t4⟩ := tp
  obtain ⟨l1, l2, l3, l4⟩ := lx
  have hb := en_b b T e he
  have htk := tm_le b T e
  have hl : xslen 8 < 16 := by decide
  have zero : wdT b T e 8 = false → ∀ j, j ≤ 16 → Ev G (d + 4) jX9_isWord 32 [some (.ref 59), some (.ref 1108), some (.int 0), some (.int (nI j))] [] (HH M) 0 0 Q := fun hw j hj => by
    refine Ev_wp fX9_isWord rfl ?_
    refine c_length 8 (by decide) ?_
    exact xle (xslen 8) j rfl rfl (by omega) (by omega) (fun _ => q0 hw) (fun _ => q0 hw)
  refine CW_wp fX9_isWord rfl rfl rfl ?_
  refine xeq (tmT b T e) 1 l1 rfl (by omega) (by decide) (fun c => ?_) (fun c => zero (by unfold wdT; rw [decide_eq_false (fun z => c (tm_1.mpr z))]; rfl) 0 (by decide))
  have c := tm_1.mp c
  refine c_length 8 (by decide) ?_
  refine xeq (enT b T e - stT b T e) (xslen 8) (isb l3 l2 hb.1) rfl (by omega) (by omega) (fun c2 => ?_) (fun c2 => zero (by unfold wdT; rw [decide_eq_false c2]; simp) 0 (by decide))
  have ew : wdT b T e 8 = !(anyN (fun j => decide (nI (b (stT b T e + j)) ≠ xsbyt 8 j)) (xslen 8)) := by
    unfold wdT
    rw [decide_eq_true c, decide_eq_true c2]
    rfl
  have key : anyN (fun j => decide (nI (b (stT b T e + j)) ≠ xsbyt 8 j)) 0 = false → Ev G (d + 4) jX9_isWord 32 [some (.ref 59), some (.ref 1108), some (.int 1), some (.int (nI 0))] [] (HH M) 0 0 Q := by
    refine dn (E := fun j => anyN (fun j => decide (nI (b (stT b T e + j)) ≠ xsbyt 8 j)) j = false → Ev G (d + 4) jX9_isWord 32 [some (.ref 59), some (.ref 1108), some (.int 1), some (.int (nI j))] [] (HH M) 0 0 Q) (Nat.zero_le (xslen 8)) (fun hn => ?_) (fun j _ hj ih hn => ?_)
    · refine Ev_wp fX9_isWord rfl ?_
      refine c_length 8 (by decide) ?_
      exact q1 (by rw [ew, hn]; rfl)
    · refine Ev_wp fX9_isWord rfl ?_
      refine c_length 8 (by decide) ?_
      refine xelse (nI_ge hj (by omega)) ?_
      refine xix (n := 120) (stT b T e + j) (ia l2 rfl) (by omega) (by decide) (fun e9 => ?_)
      rw [e9, t3 _ (by omega)]
      refine c_charAt 8 (by decide) j hj ?_
      rw [nI_succ j] at ih
      refine xite (fun c3 => ?_) (fun c3 => ?_)
      · refine ih ?_
        rw [anyN_s, hn, decide_eq_false (by simpa using c3)]
        rfl
      · have h9 := zero (by rw [ew, (anyN_iff _ _).mpr ⟨j, hj, decide_eq_true c3⟩]; rfl) (j + 1) (by omega)
        rw [nI_succ j] at h9
        exact h9
  exact key rfl
theorem m_isWord9 (tp : TpM b T M) (e : Nat) (he : e ≤ T) (lx : LxM b T e M) (q1 : wdT b T e 9 = true → Q (some (.int 1)) (HH M)) (q0 : wdT b T e 9 = false → Q (some (.int 0)) (HH M)) : CW G (d + 4) jX9_isWord [.ref 59, .ref 1109] (HH M) Q := by
  obtain ⟨t1, t2, t3, t4⟩ := tp
  obtain ⟨l1, l2, l3, l4⟩ := lx
  have hb := en_b b T e he
  have htk := tm_le b T e
  have hl : xslen 9 < 16 := by decide
  have zero : wdT b T e 9 = false → ∀ j, j ≤ 16 → Ev G (d + 4) jX9_isWord 32 [some (.ref 59), some (.ref 1109), some (.int 0), some (.int (nI j))] [] (HH M) 0 0 Q := fun hw j hj => by
    refine Ev_wp fX9_isWord rfl ?_
    refine c_length 9 (by decide) ?_
    exact xle (xslen 9) j rfl rfl (by omega) (by omega) (fun _ => q0 hw) (fun _ => q0 hw)
  refine CW_wp fX9_isWord rfl rfl rfl ?_
  refine xeq (tmT b T e) 1 l1 rfl (by omega) (by decide) (fun c => ?_) (fun c => zero (by unfold wdT; rw [decide_eq_false (fun z => c (tm_1.mpr z))]; rfl) 0 (by decide))
  have c := tm_1.mp c
  refine c_length 9 (by decide) ?_
  refine xeq (enT b T e - stT b T e) (xslen 9) (isb l3 l2 hb.1) rfl (by omega) (by omega) (fun c2 => ?_) (fun c2 => zero (by unfold wdT; rw [decide_eq_false c2]; simp) 0 (by decide))
  have ew : wdT b T e 9 = !(anyN (fun j => decide (nI (b (stT b T e + j)) ≠ xsbyt 9 j)) (xslen 9)) := by
    unfold wdT
    rw [decide_eq_true c, decide_eq_true c2]
    rfl
  have key : anyN (fun j => decide (nI (b (stT b T e + j)) ≠ xsbyt 9 j)) 0 = false → Ev G (d + 4) jX9_isWord 32 [some (.ref 59), some (.ref 1109), some (.int 1), some (.int (nI 0))] [] (HH M) 0 0 Q := by
    refine dn (E := fun j => anyN (fun j => decide (nI (b (stT b T e + j)) ≠ xsbyt 9 j)) j = false → Ev G (d + 4) jX9_isWord 32 [some (.ref 59), some (.ref 1109), some (.int 1), some (.int (nI j))] [] (HH M) 0 0 Q) (Nat.zero_le (xslen 9)) (fun hn => ?_) (fun j _ hj ih hn => ?_)
    · refine Ev_wp fX9_isWord rfl ?_
      refine c_length 9 (by decide) ?_
      exact q1 (by rw [ew, hn]; rfl)
    · refine Ev_wp fX9_isWord rfl ?_
      refine c_length 9 (by decide) ?_
      refine xelse (nI_ge hj (by omega)) ?_
      refine xix (n := 120) (stT b T e + j) (ia l2 rfl) (by omega) (by decide) (fun e9 => ?_)
      rw [e9, t3 _ (by omega)]
      refine c_charAt 9 (by decide) j hj ?_
      rw [nI_succ j] at ih
      refine xite (fun c3 => ?_) (fun c3 => ?_)
      · refine ih ?_
        rw [anyN_s, hn, decide_eq_false (by simpa using c3)]
        rfl
      · have h9 := zero (by rw [ew, (anyN_iff _ _).mpr ⟨j, hj, decide_eq_true c3⟩]; rfl) (j + 1) (by omega)
        rw [nI_succ j] at h9
        exact h9
  exact key rfl
theorem m_isWord10 (tp : TpM b T M) (e : Nat) (he : e ≤ T) (lx : LxM b T e M) (q1 : wdT b T e 10 = true → Q (some (.int 1)) (HH M)) (q0 : wdT b T e 10 = false → Q (some (.int 0)) (HH M)) : CW G (d + 4) jX9_isWord [.ref 59, .ref 1110] (HH M) Q := by
  obtain ⟨t1, t2, t3, t4⟩ := tp
  obtain ⟨l1, l2, l3, l4⟩ := lx
  have hb := en_b b T e he
  have htk := tm_le b T e
  have hl : xslen 10 < 16 := by decide
  have zero : wdT b T e 10 = false → ∀ j, j ≤ 16 → Ev G (d + 4) jX9_isWord 32 [some (.ref 59), some (.ref 1110), some (.int 0), some (.int (nI j))] [] (HH M) 0 0 Q := fun hw j hj => by
    refine Ev_wp fX9_isWord rfl ?_
    refine c_length 10 (by decide) ?_
    exact xle (xslen 10) j rfl rfl (by omega) (by omega) (fun _ => q0 hw) (fun _ => q0 hw)
  refine CW_wp fX9_isWord rfl rfl rfl ?_
  refine xeq (tmT b T e) 1 l1 rfl (by omega) (by decide) (fun c => ?_) (fun c => zero (by unfold wdT; rw [decide_eq_false (fun z => c (tm_1.mpr z))]; rfl) 0 (by decide))
  have c := tm_1.mp c
  refine c_length 10 (by decide) ?_
  refine xeq (enT b T e - stT b T e) (xslen 10) (isb l3 l2 hb.1) rfl (by omega) (by omega) (fun c2 => ?_) (fun c2 => zero (by unfold wdT; rw [decide_eq_false c2]; simp) 0 (by decide))
  have ew : wdT b T e 10 = !(anyN (fun j => decide (nI (b (stT b T e + j)) ≠ xsbyt 10 j)) (xslen 10)) := by
    unfold wdT
    rw [decide_eq_true c, decide_eq_true c2]
    rfl
  have key : anyN (fun j => decide (nI (b (stT b T e + j)) ≠ xsbyt 10 j)) 0 = false → Ev G (d + 4) jX9_isWord 32 [some (.ref 59), some (.ref 1110), some (.int 1), some (.int (nI 0))] [] (HH M) 0 0 Q := by
    refine dn (E := fun j => anyN (fun j => decide (nI (b (stT b T e + j)) ≠ xsbyt 10 j)) j = false → Ev G (d + 4) jX9_isWord 32 [some (.ref 59), some (.ref 1110), some (.int 1), some (.int (nI j))] [] (HH M) 0 0 Q) (Nat.zero_le (xslen 10)) (fun hn => ?_) (fun j _ hj ih hn => ?_)
    · refine Ev_wp fX9_isWord rfl ?_
      refine c_length 10 (by decide) ?_
      exact q1 (by rw [ew, hn]; rfl)
    · refine Ev_wp fX9_isWord rfl ?_
      refine c_length 10 (by decide) ?_
      refine xelse (nI_ge hj (by omega)) ?_
      refine xix (n := 120) (stT b T e + j) (ia l2 rfl) (by omega) (by decide) (fun e9 => ?_)
      rw [e9, t3 _ (by omega)]
      refine c_charAt 10 (by decide) j hj ?_
      rw [nI_succ j] at ih
      refine xite (fun c3 => ?_) (fun c3 => ?_)
      · refine ih ?_
        rw [anyN_s, hn, decide_eq_false (by simpa using c3)]
        rfl
      · have h9 := zero (by rw [ew, (anyN_iff _ _).mpr ⟨j, hj, decide_eq_true c3⟩]; rfl) (j + 1) (by omega)
        rw [nI_succ j] at h9
        exact h9
  exact key rfl
theorem m_isWord11 (tp : TpM b T M) (e : Nat) (he : e ≤ T) (lx : LxM b T e M) (q1 : wdT b T e 11 = true → Q (some (.int 1)) (HH M)) (q0 : wdT b T e 11 = false → Q (some (.int 0)) (HH M)) : CW G (d + 4) jX9_isWord [.ref 59, .ref 1111] (HH M) Q := by
  obtain ⟨t1, t2, t3, t4⟩ := tp
  obtain ⟨l1, l2, l3, l4⟩ := lx
  have hb := en_b b T e he
  have htk := tm_le b T e
  have hl : xslen 11 < 16 := by decide
  have zero : wdT b T e 11 = false → ∀ j, j ≤ 16 → Ev G (d + 4) jX9_isWord 32 [some (.ref 59), some (.ref 1111), some (.int 0), some (.int (nI j))] [] (HH M) 0 0 Q := fun hw j hj => by
    refine Ev_wp fX9_isWord rfl ?_
    refine c_length 11 (by decide) ?_
    exact xle (xslen 11) j rfl rfl (by omega) (by omega) (fun _ => q0 hw) (fun _ => q0 hw)
  refine CW_wp fX9_isWord rfl rfl rfl ?_
  refine xeq (tmT b T e) 1 l1 rfl (by omega) (by decide) (fun c => ?_) (fun c => zero (by unfold wdT; rw [decide_eq_false (fun z => c (tm_1.mpr z))]; rfl) 0 (by decide))
  have c := tm_1.mp c
  refine c_length 11 (by decide) ?_
  refine xeq (enT b T e - stT b T e) (xslen 11) (isb l3 l2 hb.1) rfl (by omega) (by omega) (fun c2 => ?_) (fun c2 => zero (by unfold wdT; rw [decide_eq_false c2]; simp) 0 (by decide))
  have ew : wdT b T e 11 = !(anyN (fun j => decide (nI (b (stT b T e + j)) ≠ xsbyt 11 j)) (xslen 11)) := by
    unfold wdT
    rw [decide_eq_true c, decide_eq_true c2]
    rfl
  have key : anyN (fun j => decide (nI (b (stT b T e + j)) ≠ xsbyt 11 j)) 0 = false → Ev G (d + 4) jX9_isWord 32 [some (.ref 59), some (.ref 1111), some (.int 1), some (.int (nI 0))] [] (HH M) 0 0 Q := by
    refine dn (E := fun j => anyN (fun j => decide (nI (b (stT b T e + j)) ≠ xsbyt 11 j)) j = false → Ev G (d + 4) jX9_isWord 32 [some (.ref 59), some (.ref 1111), some (.int 1), some (.int (nI j))] [] (HH M) 0 0 Q) (Nat.zero_le (xslen 11)) (fun hn => ?_) (fun j _ hj ih hn => ?_)
    · refine Ev_wp fX9_isWord rfl ?_
      refine c_length 11 (by decide) ?_
      exact q1 (by rw [ew, hn]; rfl)
    · refine Ev_wp fX9_isWord rfl ?_
      refine c_length 11 (by decide) ?_
      refine xelse (nI_ge hj (by omega)) ?_
      refine xix (n := 120) (stT b T e + j) (ia l2 rfl) (by omega) (by decide) (fun e9 => ?_)
      rw [e9, t3 _ (by omega)]
      refine c_charAt 11 (by decide) j hj ?_
      rw [nI_succ j] at ih
      refine xite (fun c3 => ?_) (fun c3 => ?_)
      · refine ih ?_
        rw [anyN_s, hn, decide_eq_false (by simpa using c3)]
        rfl
      · have h9 := zero (by rw [ew, (anyN_iff _ _).mpr ⟨j, hj, decide_eq_true c3⟩]; rfl) (j + 1) (by omega)
        rw [nI_succ j] at h9
        exact h9
  exact key rfl
theorem m_isWord12 (tp : TpM b T M) (e : Nat) (he : e ≤ T) (lx : LxM b T e M) (q1 : wdT b T e 12 = true → Q (some (.int 1)) (HH M)) (q0 : wdT b T e 12 = false → Q (some (.int 0)) (HH M)) : CW G (d + 4) jX9_isWord [.ref 59, .ref 1112] (HH M) Q := by
  obtain ⟨t1, t2, t3, t4⟩ := tp
  obtain ⟨l1, l2, l3, l4⟩ := lx
  have hb := en_b b T e he
  have htk := tm_le b T e
  have hl : xslen 12 < 16 := by decide
  have zero : wdT b T e 12 = false → ∀ j, j ≤ 16 → Ev G (d + 4) jX9_isWord 32 [some (.ref 59), some (.ref 1112), some (.int 0), some (.int (nI j))] [] (HH M) 0 0 Q := fun hw j hj => by
    refine Ev_wp fX9_isWord rfl ?_
    refine c_length 12 (by decide) ?_
    exact xle (xslen 12) j rfl rfl (by omega) (by omega) (fun _ => q0 hw) (fun _ => q0 hw)
  refine CW_wp fX9_isWord rfl rfl rfl ?_
  refine xeq (tmT b T e) 1 l1 rfl (by omega) (by decide) (fun c => ?_) (fun c => zero (by unfold wdT; rw [decide_eq_false (fun z => c (tm_1.mpr z))]; rfl) 0 (by decide))
  have c := tm_1.mp c
  refine c_length 12 (by decide) ?_
  refine xeq (enT b T e - stT b T e) (xslen 12) (isb l3 l2 hb.1) rfl (by omega) (by omega) (fun c2 => ?_) (fun c2 => zero (by unfold wdT; rw [decide_eq_false c2]; simp) 0 (by decide))
  have ew : wdT b T e 12 = !(anyN (fun j => decide (nI (b (stT b T e + j)) ≠ xsbyt 12 j)) (xslen 12)) := by
    unfold wdT
    rw [decide_eq_true c, decide_eq_true c2]
    rfl
  have key : anyN (fun j => decide (nI (b (stT b T e + j)) ≠ xsbyt 12 j)) 0 = false → Ev G (d + 4) jX9_isWord 32 [some (.ref 59), some (.ref 1112), some (.int 1), some (.int (nI 0))] [] (HH M) 0 0 Q := by
    refine dn (E := fun j => anyN (fun j => decide (nI (b (stT b T e + j)) ≠ xsbyt 12 j)) j = false → Ev G (d + 4) jX9_isWord 32 [some (.ref 59), some (.ref 1112), some (.int 1), some (.int (nI j))] [] (HH M) 0 0 Q) (Nat.zero_le (xslen 12)) (fun hn => ?_) (fun j _ hj ih hn => ?_)
    · refine Ev_wp fX9_isWord rfl ?_
      refine c_length 12 (by decide) ?_
      exact q1 (by rw [ew, hn]; rfl)
    · refine Ev_wp fX9_isWord rfl ?_
      refine c_length 12 (by decide) ?_
      refine xelse (nI_ge hj (by omega)) ?_
      refine xix (n := 120) (stT b T e + j) (ia l2 rfl) (by omega) (by decide) (fun e9 => ?_)
      rw [e9, t3 _ (by omega)]
      refine c_charAt 12 (by decide) j hj ?_
      rw [nI_succ j] at ih
      refine xite (fun c3 => ?_) (fun c3 => ?_)
      · refine ih ?_
        rw [anyN_s, hn, decide_eq_false (by simpa using c3)]
        rfl
      · have h9 := zero (by rw [ew, (anyN_iff _ _).mpr ⟨j, hj, decide_eq_true c3⟩]; rfl) (j + 1) (by omega)
        rw [nI_succ j] at h9
        exact h9
  exact key rfl
theorem m_isWord13 (tp : TpM b T M) (e : Nat) (he : e ≤ T) (lx : LxM b T e M) (q1 : wdT b T e 13 = true → Q (some (.int 1)) (HH M)) (q0 : wdT b T e 13 = false → Q (some (.int 0)) (HH M)) : CW G (d + 4) jX9_isWord [.ref 59, .ref 1113] (HH M) Q := by
  obtain ⟨t1, t2, t3, t4⟩ := tp
  obtain ⟨l1, l2, l3, l4⟩ := lx
  have hb := en_b b T e he
  have htk := tm_le b T e
  have hl : xslen 13 < 16 := by decide
  have zero : wdT b T e 13 = false → ∀ j, j ≤ 16 → Ev G (d + 4) jX9_isWord 32 [some (.ref 59), some (.ref 1113), some (.int 0), some (.int (nI j))] [] (HH M) 0 0 Q := fun hw j hj => by
    refine Ev_wp fX9_isWord rfl ?_
    refine c_length 13 (by decide) ?_
    exact xle (xslen 13) j rfl rfl (by omega) (by omega) (fun _ => q0 hw) (fun _ => q0 hw)
  refine CW_wp fX9_isWord rfl rfl rfl ?_
  refine xeq (tmT b T e) 1 l1 rfl (by omega) (by decide) (fun c => ?_) (fun c => zero (by unfold wdT; rw [decide_eq_false (fun z => c (tm_1.mpr z))]; rfl) 0 (by decide))
  have c := tm_1.mp c
  refine c_length 13 (by decide) ?_
  refine xeq (enT b T e - stT b T e) (xslen 13) (isb l3 l2 hb.1) rfl (by omega) (by omega) (fun c2 => ?_) (fun c2 => zero (by unfold wdT; rw [decide_eq_false c2]; simp) 0 (by decide))
  have ew : wdT b T e 13 = !(anyN (fun j => decide (nI (b (stT b T e + j)) ≠ xsbyt 13 j)) (xslen 13)) := by
    unfold wdT
    rw [decide_eq_true c, decide_eq_true c2]
    rfl
  have key : anyN (fun j => decide (nI (b (stT b T e + j)) ≠ xsbyt 13 j)) 0 = false → Ev G (d + 4) jX9_isWord 32 [some (.ref 59), some (.ref 1113), some (.int 1), some (.int (nI 0))] [] (HH M) 0 0 Q := by
    refine dn (E := fun j => anyN (fun j => decide (nI (b (stT b T e + j)) ≠ xsbyt 13 j)) j = false → Ev G (d + 4) jX9_isWord 32 [some (.ref 59), some (.ref 1113), some (.int 1), some (.int (nI j))] [] (HH M) 0 0 Q) (Nat.zero_le (xslen 13)) (fun hn => ?_) (fun j _ hj ih hn => ?_)
    · refine Ev_wp fX9_isWord rfl ?_
      refine c_length 13 (by decide) ?_
      exact q1 (by rw [ew, hn]; rfl)
    · refine Ev_wp fX9_isWord rfl ?_
      refine c_length 13 (by decide) ?_
      refine xelse (nI_ge hj (by omega)) ?_
      refine xix (n := 120) (stT b T e + j) (ia l2 rfl) (by omega) (by decide) (fun e9 => ?_)
      rw [e9, t3 _ (by omega)]
      refine c_charAt 13 (by decide) j hj ?_
      rw [nI_succ j] at ih
      refine xite (fun c3 => ?_) (fun c3 => ?_)
      · refine ih ?_
        rw [anyN_s, hn, decide_eq_false (by simpa using c3)]
        rfl
      · have h9 := zero (by rw [ew, (anyN_iff _ _).mpr ⟨j, hj, decide_eq_true c3⟩]; rfl) (j + 1) (by omega)
        rw [nI_succ j] at h9
        exact h9
  exact key rfl
theorem m_isWord14 (tp : TpM b T M) (e : Nat) (he : e ≤ T) (lx : LxM b T e M) (q1 : wdT b T e 14 = true → Q (some (.int 1)) (HH M)) (q0 : wdT b T e 14 = false → Q (some (.int 0)) (HH M)) : CW G (d + 4) jX9_isWord [.ref 59, .ref 1114] (HH M) Q := by
  obtain ⟨t1, t2, t3, t4⟩ := tp
  obtain ⟨l1, l2, l3, l4⟩ := lx
  have hb := en_b b T e he
  have htk := tm_le b T e
  have hl : xslen 14 < 16 := by decide
  have zero : wdT b T e 14 = false → ∀ j, j ≤ 16 → Ev G (d + 4) jX9_isWord 32 [some (.ref 59), some (.ref 1114), some (.int 0), some (.int (nI j))] [] (HH M) 0 0 Q := fun hw j hj => by
    refine Ev_wp fX9_isWord rfl ?_
    refine c_length 14 (by decide) ?_
    exact xle (xslen 14) j rfl rfl (by omega) (by omega) (fun _ => q0 hw) (fun _ => q0 hw)
  refine CW_wp fX9_isWord rfl rfl rfl ?_
  refine xeq (tmT b T e) 1 l1 rfl (by omega) (by decide) (fun c => ?_) (fun c => zero (by unfold wdT; rw [decide_eq_false (fun z => c (tm_1.mpr z))]; rfl) 0 (by decide))
  have c := tm_1.mp c
  refine c_length 14 (by decide) ?_
  refine xeq (enT b T e - stT b T e) (xslen 14) (isb l3 l2 hb.1) rfl (by omega) (by omega) (fun c2 => ?_) (fun c2 => zero (by unfold wdT; rw [decide_eq_false c2]; simp) 0 (by decide))
  have ew : wdT b T e 14 = !(anyN (fun j => decide (nI (b (stT b T e + j)) ≠ xsbyt 14 j)) (xslen 14)) := by
    unfold wdT
    rw [decide_eq_true c, decide_eq_true c2]
    rfl
  have key : anyN (fun j => decide (nI (b (stT b T e + j)) ≠ xsbyt 14 j)) 0 = false → Ev G (d + 4) jX9_isWord 32 [some (.ref 59), some (.ref 1114), some (.int 1), some (.int (nI 0))] [] (HH M) 0 0 Q := by
    refine dn (E := fun j => anyN (fun j => decide (nI (b (stT b T e + j)) ≠ xsbyt 14 j)) j = false → Ev G (d + 4) jX9_isWord 32 [some (.ref 59), some (.ref 1114), some (.int 1), some (.int (nI j))] [] (HH M) 0 0 Q) (Nat.zero_le (xslen 14)) (fun hn => ?_) (fun j _ hj ih hn => ?_)
    · refine Ev_wp fX9_isWord rfl ?_
      refine c_length 14 (by decide) ?_
      exact q1 (by rw [ew, hn]; rfl)
    · refine Ev_wp fX9_isWord rfl ?_
      refine c_length 14 (by decide) ?_
      refine xelse (nI_ge hj (by omega)) ?_
      refine xix (n := 120) (stT b T e + j) (ia l2 rfl) (by omega) (by decide) (fun e9 => ?_)
      rw [e9, t3 _ (by omega)]
      refine c_charAt 14 (by decide) j hj ?_
      rw [nI_succ j] at ih
      refine xite (fun c3 => ?_) (fun c3 => ?_)
      · refine ih ?_
        rw [anyN_s, hn, decide_eq_false (by simpa using c3)]
        rfl
      · have h9 := zero (by rw [ew, (anyN_iff _ _).mpr ⟨j, hj, decide_eq_true c3⟩]; rfl) (j + 1) (by omega)
        rw [nI_succ j] at h9
        exact h9
  exact key rfl
theorem m_must1 (tp : TpM b T M) (e : Nat) (he : e ≤ T) (lx : LxM b T e M) (hr : M 59 15 = 0) (q : ∀ M', MfM M M' → LxM b T (enT b T e) M' → Q none (HH M')) : CW G (d + 2) jX9_must [.ref 59, .int 1] (HH M) Q := by
  refine CW_wp fX9_must rfl rfl rfl ?_
  refine xif hr ?_
  have hid := xup_id hr
  exact m_next (M := xup M 59 15 0) (by rw [hid]; exact tp) (enT b T e) (en_b b T e he).2.1 lx.2.2.1 (fun M' hm hl => q M' (by rw [hid] at hm; exact hm) hl)
theorem m_must0 (hr : M 59 15 = 0) (q : Q none (HH (xup M 59 15 1))) : CW G (d + 2) jX9_must [.ref 59, .int 0] (HH M) Q := by
  refine CW_wp fX9_must rfl rfl rfl ?_
  refine xif hr ?_
  exact q
theorem m_mustW (hr : M 59 15 = 1) (x : Int32) (q : Q none (HH M)) : CW G (d + 2) jX9_must [.ref 59, .int x] (HH M) Q := by
  refine CW_wp fX9_must rfl rfl rfl ?_
  refine xelse (by rw [hr]; decide) ?_
  have h9 : Q none (HH (xup M 59 15 1)) := by
    rw [xup_id hr]
    exact q
  exact h9
theorem m_number (tp : TpM b T M) (e : Nat) (he : e ≤ T) (lx : LxM b T e M) (hr : M 59 15 = 0) (lo hi : Nat) {x y z : Int32} (hx : x = nI lo) (hy : y = nI hi) (hlo : lo < 1000) (hhi : hi < 1000) (q1 : nuT b T e lo hi = true → z ≠ nI (vT b T e) → ∀ M', MfM M M' → LxM b T (enT b T e) M' → Q (some (.int (nI (vT b T e)))) (HH M')) (q0 : ¬ (nuT b T e lo hi = true ∧ z ≠ nI (vT b T e)) → ∀ v, Q (some (.int v)) (HH (xup M 59 15 1))) : CW G (d + 3) jX9_number [.ref 59, .int x, .int y, .int z] (HH M) Q := by
  have htk := tm_le b T e
  have hvm := vm_le b T e
  have l4 := lx.2.2.2
  refine CW_wp fX9_number rfl rfl rfl ?_
  refine xeq (tmT b T e) 2 lx.1 rfl (by omega) (by decide) (fun c => ?_) (fun c => ?_)
  · by_cases c2 : lo ≤ vmT b T e ∧ vmT b T e ≤ hi
    · refine m_within_t (vmT b T e) lo hi l4 hx hy c2.1 c2.2 (by omega) ?_
      have ev := nu_vm2 hhi c c2.1 c2.2
      have ez : M 59 14 = nI (vT b T e) := by rw [l4, ev]
      refine xite (fun c3 => ?_) (fun c3 => ?_)
      · exact m_must0 hr (q0 (fun h => h.2 (by rw [← c3]; exact ez)) _)
      · refine m_must1 tp e he lx hr (fun M' hm hl => ?_)
        have h9 := q1 ((nu_vm hhi).mpr ⟨c, c2.1, c2.2, ev⟩) (fun h => c3 (by rw [h]; exact ez)) M' hm hl
        rw [← ez] at h9
        exact h9
    · refine m_within_f lo hi hx hy (by omega) (by omega) (fun k h1 h2 h3 => ?_) (m_must0 hr (q0 (fun h => ?_) _))
      · rw [l4] at h3
        have : vmT b T e = k := (nI_eq (by omega) (by omega)).mp h3
        omega
      · have := (nu_vm hhi).mp h.1
        omega
  · exact m_must0 hr (q0 (fun h => c ((nu_vm hhi).mp h.1).1) _)
theorem m_numberW (hr : M 59 15 = 1) (x y z : Int32) (q : ∀ v, Q (some (.int v)) (HH M)) : CW G (d + 3) jX9_number [.ref 59, .int x, .int y, .int z] (HH M) Q := by
  refine CW_wp fX9_number rfl rfl rfl ?_
  refine xite (fun _ => ?_) (fun _ => ?_)
  · refine m_within _ _ _ (fun _ _ => ?_) (fun _ => ?_)
    · refine xite (fun _ => ?_) (fun _ => ?_)
      · exact m_mustW hr _ (q _)
      · exact m_mustW hr _ (q _)
    · exact m_mustW hr _ (q _)
  · exact m_mustW hr _ (q _)
end LN
