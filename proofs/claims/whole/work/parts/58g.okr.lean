/-! An ITEM's numbers keep their bounds; an ITEM done by the model. -/
def okR (r : R7) : Prop := (r.2.2.1 = 10 ∧ r.2.2.2.1 < 10 ∧ r.2.2.2.2.1 < 10 ∧ r.2.2.2.1 ≠ r.2.2.2.2.1) ∨ (r.2.2.1 = 11 ∧ r.2.2.2.1 < 6 ∧ r.2.2.2.2.1 < 10 ∧ r.2.2.2.2.2.1 ≤ r.2.2.2.2.2.2 ∧ r.2.2.2.2.2.2 < 24) ∨ (r.2.2.1 = 12 ∧ 1 ≤ r.2.2.2.1 ∧ r.2.2.2.1 ≤ 20) ∨ (r.2.2.1 = 13 ∧ r.2.2.2.1 < 100) ∨ (r.2.2.1 < 7 ∧ r.2.2.2.1 < 16 ∧ 1 ≤ r.2.2.2.2.1 ∧ r.2.2.2.2.1 ≤ 9 ∧ r.2.2.2.2.2.1 < 10 ∧ r.2.2.2.2.2.2 < 24)
theorem ok_way {b : Nat → Nat} {T e : Nat} (h : (piWay b T e).1 = true) : okR (piWay b T e) := by
  unfold piWay at h ⊢
  (repeat' (split at h)) <;> first | cases h | skip
  rename_i c1 c2
  rw [if_pos c1, if_pos c2]
  have g1 := nu_iff.mp c1
  have g2 := nu_iff.mp c2.1
  exact Or.inl ⟨rfl, Nat.lt_succ_of_le g1.2.2, Nat.lt_succ_of_le g2.2.2, Ne.symm c2.2⟩
theorem ok_keep {b : Nat → Nat} {T e : Nat} (h : (piKeep b T e).1 = true) : okR (piKeep b T e) := by
  unfold piKeep at h ⊢
  split at h
  · rename_i c
    rw [if_pos c]
    exact Or.inr (Or.inr (Or.inl ⟨rfl, (nu_iff.mp c).2.1, (nu_iff.mp c).2.2⟩))
  · cases h
theorem ok_rain {b : Nat → Nat} {T e : Nat} (h : (piRain b T e).1 = true) : okR (piRain b T e) := by
  unfold piRain at h ⊢
  split at h
  · rename_i c
    rw [if_pos c]
    exact Or.inr (Or.inr (Or.inr (Or.inl ⟨rfl, Nat.lt_succ_of_le (nu_iff.mp c).2.2⟩)))
  · cases h
theorem ok_P3 {b : Nat → Nat} {T e p a : Nat} (hp : p < 6) (ha : a < 10) (h : (piP3 b T p a e).1 = true) : okR (piP3 b T p a e) := by
  unfold piP3 at h ⊢
  by_cases c : wdT b T e 3 = true
  · rw [if_pos c] at h ⊢
    by_cases c2 : nuT b T (enT b T e) 0 23 = true
    · rw [if_pos c2] at h ⊢
      by_cases c3 : nuT b T (enT b T (enT b T e)) (vT b T (enT b T e)) 23 = true
      · rw [if_pos c3] at h ⊢
        exact Or.inr (Or.inl ⟨rfl, hp, ha, (nu_iff.mp c3).2.1, Nat.lt_succ_of_le (nu_iff.mp c3).2.2⟩)
      · rw [if_neg c3] at h
        cases h
    · rw [if_neg c2] at h
      cases h
  · rw [if_neg c]
    exact Or.inr (Or.inl ⟨rfl, hp, ha, Nat.zero_le _, (by decide : 23 < 24)⟩)
theorem ok_S5 {b : Nat → Nat} {T e k w p g : Nat} (hk : k < 7) (hw : w < 16) (hp : p < 10) (hg : g < 24) (h : (piS5 b T k w p g e).1 = true) : okR (piS5 b T k w p g e) := by
  unfold piS5 at h ⊢
  by_cases c : wdT b T e 14 = true
  · rw [if_pos c] at h ⊢
    by_cases c2 : nuT b T (enT b T e) 1 9 = true
    · rw [if_pos c2] at h ⊢
      exact Or.inr (Or.inr (Or.inr (Or.inr ⟨hk, hw, (nu_iff.mp c2).2.1, (nu_iff.mp c2).2.2, hp, hg⟩)))
    · rw [if_neg c2] at h
      cases h
  · rw [if_neg c]
    exact Or.inr (Or.inr (Or.inr (Or.inr ⟨hk, hw, (by decide : 1 ≤ 1), (by decide : 1 ≤ 9), hp, hg⟩)))
theorem ok_P2 {b : Nat → Nat} {T e : Nat} {p : Nat} (hp : p < 6) (h : (piP2 b T p e).1 = true) : okR (piP2 b T p e) := by
  unfold piP2 at h ⊢
  by_cases c : nuT b T e 0 9 = true
  · rw [if_pos c] at h ⊢
    exact ok_P3 hp (Nat.lt_succ_of_le (nu_iff.mp c).2.2) h
  · rw [if_neg c] at h
    cases h
theorem ok_P1 {b : Nat → Nat} {T e : Nat} {p : Nat} (hp : p < 6) (h : (piP1 b T p e).1 = true) : okR (piP1 b T p e) := by
  unfold piP1 at h ⊢
  by_cases c : wdT b T e 2 = true
  · rw [if_pos c] at h ⊢
    exact ok_P2 hp h
  · rw [if_neg c] at h
    cases h
theorem ok_Pers {b : Nat → Nat} {T e : Nat}   (h : (piPers b T e).1 = true) : okR (piPers b T e) := by
  unfold piPers at h ⊢
  by_cases c : nuT b T e 0 5 = true
  · rw [if_pos c] at h ⊢
    exact ok_P1 (Nat.lt_succ_of_le (nu_iff.mp c).2.2) h
  · rw [if_neg c] at h
    cases h
theorem ok_S4 {b : Nat → Nat} {T e : Nat} {k w p : Nat} (hk : k < 7) (hw : w < 16) (hp : p < 10) (h : (piS4 b T k w p e).1 = true) : okR (piS4 b T k w p e) := by
  unfold piS4 at h ⊢
  by_cases c : nuT b T e 0 23 = true
  · rw [if_pos c] at h ⊢
    exact ok_S5 hk hw hp (Nat.lt_succ_of_le (nu_iff.mp c).2.2) h
  · rw [if_neg c] at h
    cases h
theorem ok_S3 {b : Nat → Nat} {T e : Nat} {k w p : Nat} (hk : k < 7) (hw : w < 16) (hp : p < 10) (h : (piS3 b T k w p e).1 = true) : okR (piS3 b T k w p e) := by
  unfold piS3 at h ⊢
  by_cases c : wdT b T e 13 = true
  · rw [if_pos c] at h ⊢
    exact ok_S4 hk hw hp h
  · rw [if_neg c] at h
    cases h
theorem ok_S2 {b : Nat → Nat} {T e : Nat} {k w : Nat} (hk : k < 7) (hw : w < 16) (h : (piS2 b T k w e).1 = true) : okR (piS2 b T k w e) := by
  unfold piS2 at h ⊢
  by_cases c : nuT b T e 0 9 = true
  · rw [if_pos c] at h ⊢
    exact ok_S3 hk hw (Nat.lt_succ_of_le (nu_iff.mp c).2.2) h
  · rw [if_neg c] at h
    cases h
theorem ok_S1 {b : Nat → Nat} {T e : Nat} {k w : Nat} (hk : k < 7) (hw : w < 16) (h : (piS1 b T k w e).1 = true) : okR (piS1 b T k w e) := by
  unfold piS1 at h ⊢
  by_cases c : wdT b T e 2 = true
  · rw [if_pos c] at h ⊢
    exact ok_S2 hk hw h
  · rw [if_neg c] at h
    cases h
theorem ok_Say {b : Nat → Nat} {T e : Nat} {k : Nat} (hk : k < 7) (h : (piSay b T k e).1 = true) : okR (piSay b T k e) := by
  unfold piSay at h ⊢
  by_cases c : nuT b T e 0 15 = true
  · rw [if_pos c] at h ⊢
    exact ok_S1 hk (Nat.lt_succ_of_le (nu_iff.mp c).2.2) h
  · rw [if_neg c] at h
    cases h
theorem kd_lt {b : Nat → Nat} {T e k : Nat} (h : kdT b T e = some k) : k < 7 := by
  unfold kdT at h
  repeat' (split at h)
  all_goals first | (cases h; decide) | cases h
theorem ok_Item {b : Nat → Nat} {T m e : Nat} (h : (piItem b T m e).1 = true) : okR (piItem b T m e) := by
  unfold piItem at h ⊢
  by_cases c0 : wdT b T e 0 = true
  · rw [if_pos c0] at h ⊢
    exact ok_way h
  rw [if_neg c0] at h ⊢
  by_cases c1 : wdT b T e 1 = true
  · rw [if_pos c1] at h ⊢
    exact ok_Pers h
  rw [if_neg c1] at h ⊢
  by_cases c4 : wdT b T e 4 = true
  · rw [if_pos c4] at h ⊢
    exact ok_keep h
  rw [if_neg c4] at h ⊢
  by_cases c5 : wdT b T e 5 = true
  · rw [if_pos c5] at h ⊢
    exact ok_rain h
  rw [if_neg c5] at h ⊢
  cases hk : kdT b T e with
  | none =>
    rw [hk] at h
    cases h
  | some k =>
    rw [hk] at h
    have h' : (if m < 40 then piSay b T k (enT b T e) else fR e).1 = true := h
    show okR (if m < 40 then piSay b T k (enT b T e) else fR e)
    by_cases c6 : m < 40
    · rw [if_pos c6] at h' ⊢
      exact ok_Say (kd_lt hk) h'
    · rw [if_neg c6] at h'
      cases h'
