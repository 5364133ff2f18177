/-! THE INVARIANT between the class and the model. -/
def SK (M : xM) : Prop := (M 0 3 = 0 ∧ M 59 2 = 0) ∨ (M 0 3 = 1 ∧ M 59 2 = 1 ∧ Wf (M 61) ∧ PV 15 (M 61) M)
/-- findings counted: k = 0: alike; k = j + 1: the class has counted j, the model not yet -/
def SF (k : Nat) (M : xM) : Prop := (∀ i, i < 7 → M 50 i = M 62 (i + 1) + (if k = i + 1 then 1 else 0)) ∧ M 62 0 = M 62 1 + M 62 2 + M 62 3 + M 62 4 + M 62 5 + M 62 6 + M 62 7
def SW (M : xM) : Prop := ∃ L, L ≤ 24 ∧ M 46 0 = nI L ∧ M 59 8 = nI L ∧ ∀ i, i < L → M 47 i = M 65 i
def ST (M : xM) : Prop := ∃ T, T ≤ 120 ∧ M 43 0 = nI T ∧ M 59 10 = nI T ∧ ∀ i, i < T → M 44 i = M 66 i ∧ ∃ b, b < 256 ∧ M 66 i = nI b
def SS1 (a b s : Nat) (M : xM) : Prop := ∃ w n, (w = 0 ∨ w = 8 ∨ w = 16 ∨ w = 32) ∧ n ≤ 40 ∧ M a 0 = nI w ∧ M 69 s = nI w ∧ M a 1 = nI n ∧ M 70 s = nI n ∧ ∀ k, k < 40 → M b k = M 71 (40 * s + k)
def SS (M : xM) : Prop := SS1 51 52 0 M ∧ SS1 53 54 1 M ∧ SS1 55 56 2 M ∧ SS1 57 58 3 M
def Iv (k : Nat) (M : xM) : Prop := Wf (M 60) ∧ PV 1 (M 60) M ∧ SK M ∧ SF k M ∧ SR (M 60) M ∧ SW M ∧ ST M ∧ SS M
theorem PV.congr {b : Nat} {N : Nat → Int32} {M M' : xM} (h : ∀ r, b ≤ r → r ≤ b + 13 → M' r = M r) (p : PV b N M) : PV b N M' := by
  obtain ⟨p1, p2, p3, p4, p5, p6, p7, p8, p9⟩ := p
  refine ⟨?_, ?_, ?_, ?_, fun j hj => ?_, fun j hj => ?_, fun s hs f hf => ?_, fun j hj => ?_, fun j hj => ?_⟩
  · rw [h b (by omega) (by omega)]; exact p1
  · rw [h (b + 3) (by omega) (by omega)]; exact p2
  · rw [h b (by omega) (by omega)]; exact p3
  · rw [h b (by omega) (by omega)]; exact p4
  · rw [h (b + 12) (by omega) (by omega)]; exact p5 j hj
  · rw [h (b + 2) (by omega) (by omega)]; exact p6 j hj
  · rw [h (b + 4 + f) (by omega) (by omega)]; exact p7 s hs f hf
  · rw [h (b + 11) (by omega) (by omega)]; exact p8 j hj
  · rw [h (b + 13) (by omega) (by omega)]; exact p9 j hj
theorem PV.row {b a : Nat} {N : Nat → Int32} {M : xM} {f : Nat → Int32} (p : PV b N M) (h : a < b ∨ b + 13 < a) : PV b N (xrow M a f) := p.congr (fun r h1 h2 => xrow_ne (by omega))
theorem PV.up {b a k : Nat} {N : Nat → Int32} {M : xM} {v : Int32} (p : PV b N M) (h : a < b ∨ b + 13 < a) : PV b N (xup M a k v) := p.row h
theorem SK.row {a : Nat} {M : xM} {f : Nat → Int32} (h : SK M) (h0 : a ≠ 0 ∧ a ≠ 59 ∧ a ≠ 61 ∧ (a < 15 ∨ 28 < a)) : SK (xrow M a f) := by
  unfold SK at h ⊢
  rw [xrow_ne (Ne.symm h0.1), xrow_ne (Ne.symm h0.2.1), xrow_ne (Ne.symm h0.2.2.1)]
  rcases h with h | ⟨h1, h2, h3, h4⟩
  · exact Or.inl h
  · exact Or.inr ⟨h1, h2, h3, h4.row (by omega)⟩
theorem SK.up {a k : Nat} {M : xM} {v : Int32} (h : SK M) (h0 : a ≠ 0 ∧ a ≠ 59 ∧ a ≠ 61 ∧ (a < 15 ∨ 28 < a)) : SK (xup M a k v) := h.row h0
/-- the invariant where only STEPS have been measured anew -/
theorem Iv.rm {k : Nat} {M M' : xM} (I : Iv k M) (h : Rm (M 60) M M') : Iv k M' := by
  obtain ⟨i1, i2, i3, i4, i5, i6, i7, i8⟩ := I
  obtain ⟨h1, h2, h3⟩ := h
  have e : ∀ r, r ≠ 59 → r ≠ 63 → M' r = M r := h1
  have e60 : M' 60 = M 60 := e 60 (by decide) (by decide)
  refine ⟨by rw [e60]; exact i1, by rw [e60]; exact i2.congr (fun r _ hr => e r (by omega) (by omega)), ?_, ?_, by rw [e60]; exact h3, ?_, ?_, ?_⟩
  · unfold SK at i3 ⊢
    rw [e 0 (by decide) (by decide), h2 2 (by decide), e 61 (by decide) (by decide)]
    rcases i3 with i3 | ⟨a, b, c, d⟩
    · exact Or.inl i3
    · exact Or.inr ⟨a, b, c, d.congr (fun r _ hr => e r (by omega) (by omega))⟩
  · unfold SF at i4 ⊢
    rw [e 50 (by decide) (by decide), e 62 (by decide) (by decide)]
    exact i4
  · unfold SW at i6 ⊢
    rw [e 46 (by decide) (by decide), h2 8 (by decide), e 47 (by decide) (by decide), e 65 (by decide) (by decide)]
    exact i6
  · unfold ST at i7 ⊢
    rw [e 43 (by decide) (by decide), h2 10 (by decide), e 44 (by decide) (by decide), e 66 (by decide) (by decide)]
    exact i7
  · unfold SS SS1 at i8 ⊢
    rw [e 51 (by decide) (by decide), e 52 (by decide) (by decide), e 53 (by decide) (by decide), e 54 (by decide) (by decide), e 55 (by decide) (by decide), e 56 (by decide) (by decide), e 57 (by decide) (by decide), e 58 (by decide) (by decide), e 69 (by decide) (by decide), e 70 (by decide) (by decide), e 71 (by decide) (by decide)]
    exact i8
def fc (k : Nat) (M : xM) : xM := xup M 50 k (M 50 k + 1)
def fm (k : Nat) (M : xM) : xM := xup (xup M 62 (k + 1) (M 62 (k + 1) + 1)) 62 0 (M 62 0 + 1)
theorem iv_fc {k : Nat} {M : xM} (I : Iv 0 M) : Iv (k + 1) (fc k M) := by
  obtain ⟨i1, i2, i3, i4, i5, i6, i7, i8⟩ := I
  refine ⟨i1, i2.up (by decide), i3.up (by decide), ⟨fun i hi => ?_, i4.2⟩, i5, i6, i7, i8⟩
  have h := i4.1 i hi
  rw [if_neg (by omega)] at h
  show (if i = k then M 50 k + 1 else M 50 i) = M 62 (i + 1) + (if k + 1 = i + 1 then 1 else 0)
  by_cases c : i = k
  · subst c
    rw [if_pos rfl, if_pos rfl, h]
    rw [Int32.add_zero]
  · rw [if_neg c, if_neg (by omega), h]
theorem iv_fm {k : Nat} {M : xM} (hk : k < 7) (I : Iv (k + 1) M) : Iv 0 (fm k M) := by
  obtain ⟨i1, i2, i3, i4, i5, i6, i7, i8⟩ := I
  refine ⟨i1, (i2.up (by decide)).up (by decide), (i3.up (by decide)).up (by decide), ⟨fun i hi => ?_, ?_⟩, i5, i6, i7, i8⟩
  · have h := i4.1 i hi
    show M 50 i = (if i + 1 = 0 then M 62 0 + 1 else if i + 1 = k + 1 then M 62 (k + 1) + 1 else M 62 (i + 1)) + (if 0 = i + 1 then 1 else 0)
    rw [if_neg (by omega), if_neg (show ¬ 0 = i + 1 by omega)]
    by_cases c : i = k
    · subst c
      rw [if_pos rfl] at h ⊢
      rw [h, Int32.add_zero]
    · rw [if_neg (by omega)] at h ⊢
      exact h
  · have h := i4.2
    match k, hk with
    | 0, _ => show M 62 0 + 1 = (M 62 1 + 1) + M 62 2 + M 62 3 + M 62 4 + M 62 5 + M 62 6 + M 62 7; rw [h]; ac_rfl
    | 1, _ => show M 62 0 + 1 = M 62 1 + (M 62 2 + 1) + M 62 3 + M 62 4 + M 62 5 + M 62 6 + M 62 7; rw [h]; ac_rfl
    | 2, _ => show M 62 0 + 1 = M 62 1 + M 62 2 + (M 62 3 + 1) + M 62 4 + M 62 5 + M 62 6 + M 62 7; rw [h]; ac_rfl
    | 3, _ => show M 62 0 + 1 = M 62 1 + M 62 2 + M 62 3 + (M 62 4 + 1) + M 62 5 + M 62 6 + M 62 7; rw [h]; ac_rfl
    | 4, _ => show M 62 0 + 1 = M 62 1 + M 62 2 + M 62 3 + M 62 4 + (M 62 5 + 1) + M 62 6 + M 62 7; rw [h]; ac_rfl
    | 5, _ => show M 62 0 + 1 = M 62 1 + M 62 2 + M 62 3 + M 62 4 + M 62 5 + (M 62 6 + 1) + M 62 7; rw [h]; ac_rfl
    | 6, _ => show M 62 0 + 1 = M 62 1 + M 62 2 + M 62 3 + M 62 4 + M 62 5 + M 62 6 + (M 62 7 + 1); rw [h]; ac_rfl
    | k + 7, hk => exact absurd hk (by omega)
def nF : Nat → Int32
  | 0 => -1000001
  | 1 => -1000002
  | 2 => -1000003
  | 3 => -1000004
  | 4 => -1000005
  | 5 => -1000006
  | _ => -1000007
/-- the model's answer to a call that the class has answered r, and the state behind both -/
def Aft (G : xG) (j : Nat) (as : List Value) (r : Int32) (M1 : xM) : Prop := ∀ Q' : Option Value → xH → Prop, (∀ M2, Iv 0 M2 → Q' (some (.int r)) (HH M2)) → CW G 11 j as (HH M1) Q'
section FI
variable {G : xG} {d : Nat} {M : xM} {Q : Option Value → xH → Prop}
theorem c_fin0 (q : Q (some (.int (nF 0))) (HH (fc 0 M))) : CW G d jX8_finding [.ref 0, .int (-1000001)] (HH M) Q := by
  refine CW_wp fX8_finding rfl rfl rfl ?_
  exact q
theorem m_fin0 (I : Iv 1 M) (q : ∀ M2, Iv 0 M2 → Q (some (.int (nF 0))) (HH M2)) : CW G d jX9_finding [.ref 59, .int (-1000001)] (HH M) Q := by
  refine CW_wp fX9_finding rfl rfl rfl ?_
  exact q (fm 0 M) (iv_fm (by decide) I)
theorem c_fin1 (q : Q (some (.int (nF 1))) (HH (fc 1 M))) : CW G d jX8_finding [.ref 0, .int (-1000002)] (HH M) Q := by
  refine CW_wp fX8_finding rfl rfl rfl ?_
  exact q
theorem m_fin1 (I : Iv 2 M) (q : ∀ M2, Iv 0 M2 → Q (some (.int (nF 1))) (HH M2)) : CW G d jX9_finding [.ref 59, .int (-1000002)] (HH M) Q := by
  refine CW_wp fX9_finding rfl rfl rfl ?_
  exact q (fm 1 M) (iv_fm (by decide) I)
theorem c_fin2 (q : Q (some (.int (nF 2))) (HH (fc 2 M))) : CW G d jX8_finding [.ref 0, .int (-1000003)] (HH M) Q := by
  refine CW_wp fX8_finding rfl rfl rfl ?_
  exact q
theorem m_fin2 (I : Iv 3 M) (q : ∀ M2, Iv 0 M2 → Q (some (.int (nF 2))) (HH M2)) : CW G d jX9_finding [.ref 59, .int (-1000003)] (HH M) Q := by
  refine CW_wp fX9_finding rfl rfl rfl ?_
  exact q (fm 2 M) (iv_fm (by decide) I)
theorem c_fin3 (q : Q (some (.int (nF 3))) (HH (fc 3 M))) : CW G d jX8_finding [.ref 0, .int (-1000004)] (HH M) Q := by
  refine CW_wp fX8_finding rfl rfl rfl ?_
  exact q
theorem m_fin3 (I : Iv 4 M) (q : ∀ M2, Iv 0 M2 → Q (some (.int (nF 3))) (HH M2)) : CW G d jX9_finding [.ref 59, .int (-1000004)] (HH M) Q := by
  refine CW_wp fX9_finding rfl rfl rfl ?_
  exact q (fm 3 M) (iv_fm (by decide) I)
theorem c_fin4 (q : Q (some (.int (nF 4))) (HH (fc 4 M))) : CW G d jX8_finding [.ref 0, .int (-1000005)] (HH M) Q := by
  refine CW_wp fX8_finding rfl rfl rfl ?_
  exact q
theorem m_fin4 (I : Iv 5 M) (q : ∀ M2, Iv 0 M2 → Q (some (.int (nF 4))) (HH M2)) : CW G d jX9_finding [.ref 59, .int (-1000005)] (HH M) Q := by
  refine CW_wp fX9_finding rfl rfl rfl ?_
  exact q (fm 4 M) (iv_fm (by decide) I)
theorem c_fin5 (q : Q (some (.int (nF 5))) (HH (fc 5 M))) : CW G d jX8_finding [.ref 0, .int (-1000006)] (HH M) Q := by
  refine CW_wp fX8_finding rfl rfl rfl ?_
  exact q
theorem m_fin5 (I : Iv 6 M) (q : ∀ M2, Iv 0 M2 → Q (some (.int (nF 5))) (HH M2)) : CW G d jX9_finding [.ref 59, .int (-1000006)] (HH M) Q := by
  refine CW_wp fX9_finding rfl rfl rfl ?_
  exact q (fm 5 M) (iv_fm (by decide) I)
theorem c_fin6 (q : Q (some (.int (nF 6))) (HH (fc 6 M))) : CW G d jX8_finding [.ref 0, .int (-1000007)] (HH M) Q := by
  refine CW_wp fX8_finding rfl rfl rfl ?_
  exact q
theorem m_fin6 (I : Iv 7 M) (q : ∀ M2, Iv 0 M2 → Q (some (.int (nF 6))) (HH M2)) : CW G d jX9_finding [.ref 59, .int (-1000007)] (HH M) Q := by
  refine CW_wp fX9_finding rfl rfl rfl ?_
  exact q (fm 6 M) (iv_fm (by decide) I)
theorem c_isSaying {N : Nat → Int32} (hp : PV 1 N M) (hw : Wf N) (x : Int32) (q1 : ∀ s : Nat, s < sN N → x = nI s → Q (some (.int 1)) (HH M)) (q0 : (∀ s : Nat, s < sN N → x ≠ nI s) → Q (some (.int 0)) (HH M)) : CW G d jX8_isSaying [.ref 0, .int x] (HH M) Q := by
  have e1 : M 4 0 = nI (sN N) := hp.2.1.trans hw.2.1.1
  have h40 := hw.2.1.2
  refine CW_wp fX8_isSaying rfl rfl rfl ?_
  rcases n_ix x (sN N) (by omega) with ⟨p, hp, rfl⟩ | ⟨hx, hn⟩
  · refine xelse (nI_pos (by omega)) ?_
    refine xelse (by rw [e1]; exact nI_ge hp (by omega)) ?_
    exact q1 p hp rfl
  · refine xite (fun c => q0 hn) (fun c => ?_)
    exact xif (by rw [e1]; exact hx.resolve_left c) (by exact q0 hn)
end FI
