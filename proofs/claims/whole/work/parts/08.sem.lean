/-! What the small machine's data mean on the machine: addresses, cells, the tables' words. -/
abbrev xG : Type := Launch × Nat × Heap × va_G × (ClassId × ClassId × ClassId) × (Nat → Nat) × Value × Nat × (Nat → Int32)
def gL (G : xG) : Launch := G.1
def gB (G : xG) : Nat := G.2.1
def gH (G : xG) : Heap := G.2.2.1
def gD (G : xG) : va_G := G.2.2.2.1
def gI (G : xG) : ClassId := G.2.2.2.2.1.1
def gS (G : xG) : ClassId := G.2.2.2.2.1.2.1
def gT (G : xG) : ClassId := G.2.2.2.2.1.2.2
def gE (G : xG) : Nat → Nat := G.2.2.2.2.2.1
def gO (G : xG) : Value := G.2.2.2.2.2.2.1
def gN (G : xG) : Nat := G.2.2.2.2.2.2.2.1
def gX (G : xG) : Nat → Int32 := G.2.2.2.2.2.2.2.2
def xA (G : xG) : Nat → Prop := fun q => gB G ≤ q
def xad (G : xG) (r : Nat) : Nat := if r < 1000 then gB G + r else gE G r
def xcv (G : xG) : Value → Value
  | .ref r => if r = 1300 then gO G else .ref (xad G r)
  | v => v
def xce (G : xG) (R : Nat → Nat → Option Nat) (M : xM) (k : Nat) (q : Nat × Nat) : va_E := match q.1 with
  | 0 => .inl (gI G, q.2, .inl (M k))
  | 1 => .inl (gS G, q.2, .inr (.inr (.inr (.inr (fun j => (R k j).map (xad G))))))
  | 2 => .inl (gT G, q.2, .inr (.inr (.inr (.inr (fun j => (R k j).map (xad G))))))
  | ci + 3 => .inr (ci, (List.range q.2).map (fun j => if xisI ci j then .int (M k j) else va_rf ((R k j).map (xad G))))
def xRep (G : xG) (h : xH) (H : Heap) : Prop := (h.1.length ≤ 1000 ∧ ∀ (k j q : Nat), h.2.1 k j = some q → q ≠ 1300) ∧ H.size = gB G + h.1.length ∧ (∀ (k : Nat) (q : Nat × Nat), h.1[k]? = some q → va_at (gD G) vwCl (gB G + k, xce G h.2.1 h.2.2 k q) H) ∧
  (∀ (k : Nat) (q : Nat × Nat) (ci : Nat), h.1[k]? = some q → q.1 = ci + 3 → ∃ (C : String) (T : u_T), vwCl[ci]? = some (C, T, q.2)) ∧ ∀ q : Nat, q < gB G → H[q]? = (gH G)[q]?
def xprs (G : xG) (ls : xL) : List (Nat × Value) := (List.range ls.length).filterMap (fun i => (xget ls i).map (fun v => (i, xcv G v)))
theorem xget_lt : ∀ {ls : xL} {i : Nat} {v : Value}, xget ls i = some v → i < ls.length
  | [], _, _, h => by simp [xget] at h
  | _ :: _, 0, _, _ => by simp
  | _ :: l, i + 1, v, h => by
    have := xget_lt (ls := l) (i := i) (v := v) h
    simp; omega
theorem xget_set : ∀ (ls : xL) (a i : Nat) (v : Option Value), xget (xset ls a v) i = if i = a then (if a < ls.length then v else none) else xget ls i
  | [], a, i, v => by simp [xset, xget]
  | w :: l, 0, 0, v => by simp [xset, xget]
  | w :: l, 0, i + 1, v => by simp [xset, xget]
  | w :: l, a + 1, 0, v => by simp [xset, xget]
  | w :: l, a + 1, i + 1, v => by
    simp only [xset, xget, List.length_cons]
    rw [xget_set l a i v]
    simp
theorem xset_len : ∀ (ls : xL) (a : Nat) (v : Option Value), (xset ls a v).length = ls.length
  | [], _, _ => rfl
  | _ :: l, 0, _ => rfl
  | _ :: l, a + 1, v => by simp [xset, xset_len l a v]
theorem xnol_not : ∀ {ls : xL} {i : Nat} {v : Value}, xnol ls (i + 1) = true → xget ls i = some v → v.category = 1
  | [], _, _, _, h => by simp [xget] at h
  | w :: l, 0, v, hn, h => by
    simp only [xget] at h
    subst h
    cases v <;> first | rfl | (simp [xnol] at hn)
  | w :: l, i + 1, v, hn, h => by
    simp only [xget] at h
    refine xnol_not (ls := l) (i := i) ?_ h
    have e : xnol (w :: l) (i + 1 + 1) = xnol l (i + 1) := by
      cases w with
      | none => rfl
      | some w => cases w <;> rfl
    rw [← e]; exact hn
theorem mem_xprs {G : xG} {ls : xL} {q : Nat × Value} : q ∈ xprs G ls ↔ ∃ v, xget ls q.1 = some v ∧ q.2 = xcv G v := by
  unfold xprs
  rw [List.mem_filterMap]
  constructor
  · rintro ⟨i, -, h⟩
    cases hv : xget ls i with
    | none => rw [hv] at h; cases h
    | some v =>
      rw [hv] at h
      cases h
      exact ⟨v, hv, rfl⟩
  · rintro ⟨v, h1, h2⟩
    refine ⟨q.1, List.mem_range.mpr (xget_lt h1), ?_⟩
    rw [h1]
    simp [← h2]
theorem x_at {G : xG} {LS : Array Slot} {nL : Nat} {ls : xL} (h : lv_has LS nL (xprs G ls)) {i : Nat} {v : Value} (hv : xget ls i = some v) : LS[i]? = some (.val (xcv G v)) := h.2.2 (i, xcv G v) (mem_xprs.mpr ⟨v, hv, rfl⟩)
def xOk1 (v : Value) : Prop := v = .null ∨ ∃ a, v = .ref a
theorem xcv_cat {G : xG} (hO : xOk1 (gO G)) (v : Value) : (xcv G v).category = v.category := by
  cases v with
  | ref r =>
    simp only [xcv]
    by_cases h : r = 1300
    · rw [if_pos h]
      rcases hO with h1 | ⟨a, h1⟩ <;> rw [h1] <;> rfl
    · rw [if_neg h]; rfl
  | _ => rfl
theorem x_store1 {G : xG} (hO : xOk1 (gO G)) {LS : Array Slot} {nL : Nat} {ls : xL} {a : Nat} {v : Value} (hn : xnol ls a = true)
    (h : lv_has LS nL ((a, xcv G v) :: (xprs G ls).filter (fun q => !(q.1 == a) && !(q.1 + 1 == a && q.2.category == 2)))) : lv_has LS nL (xprs G (xset ls a (some v))) := by
  refine ⟨h.1, h.2.1, fun q hq => h.2.2 q ?_⟩
  obtain ⟨w, h1, h2⟩ := mem_xprs.mp hq
  rw [xget_set] at h1
  by_cases e : q.1 = a
  · rw [if_pos e] at h1
    split at h1
    · cases h1
      refine List.mem_cons.mpr (Or.inl ?_)
      cases q; simp at e h2 ⊢; exact ⟨e, h2⟩
    · cases h1
  · rw [if_neg e] at h1
    refine List.mem_cons_of_mem _ (List.mem_filter.mpr ⟨mem_xprs.mpr ⟨w, h1, h2⟩, ?_⟩)
    simp only [Bool.and_eq_true, Bool.not_eq_true', beq_eq_false_iff_ne, ne_eq, Bool.and_eq_false_iff]
    refine ⟨e, ?_⟩
    by_cases e2 : q.1 + 1 = a
    · right
      rw [h2, xcv_cat hO, xnol_not (by rw [e2]; exact hn) h1]
      decide
    · exact Or.inl e2
theorem x_store2 {G : xG} (hO : xOk1 (gO G)) {LS : Array Slot} {nL : Nat} {ls : xL} {a : Nat} {v : Value} (hn : xnol ls a = true)
    (h : lv_has LS nL ((a, xcv G v) :: (xprs G ls).filter (fun q => !(q.1 == a) && (!(q.1 == a + 1) && !(q.1 + 1 == a && q.2.category == 2))))) : lv_has LS nL (xprs G (xset (xset ls (a + 1) none) a (some v))) := by
  refine ⟨h.1, h.2.1, fun q hq => h.2.2 q ?_⟩
  obtain ⟨w, h1, h2⟩ := mem_xprs.mp hq
  rw [xget_set] at h1
  by_cases e : q.1 = a
  · rw [if_pos e] at h1
    split at h1
    · cases h1
      refine List.mem_cons.mpr (Or.inl ?_)
      cases q; simp at e h2 ⊢; exact ⟨e, h2⟩
    · cases h1
  · rw [if_neg e, xget_set] at h1
    by_cases e1 : q.1 = a + 1
    · rw [if_pos e1] at h1
      split at h1 <;> cases h1
    · rw [if_neg e1] at h1
      refine List.mem_cons_of_mem _ (List.mem_filter.mpr ⟨mem_xprs.mpr ⟨w, h1, h2⟩, ?_⟩)
      simp only [Bool.and_eq_true, Bool.not_eq_true', beq_eq_false_iff_ne, ne_eq, Bool.and_eq_false_iff]
      refine ⟨e, e1, ?_⟩
      by_cases e2 : q.1 + 1 = a
      · right
        rw [h2, xcv_cat hO, xnol_not (by rw [e2]; exact hn) h1]
        decide
      · exact Or.inl e2
theorem xget_mask : ∀ {mk : List Bool} {ls : xL} {i : Nat} {v : Value}, xget (xmask mk ls) i = some v → xget ls i = some v
  | true :: m, w :: l, 0, v, h => h
  | true :: m, w :: l, i + 1, v, h => xget_mask (mk := m) (ls := l) (i := i) h
  | false :: m, w :: l, 0, v, h => by simp [xmask, xget] at h
  | false :: m, w :: l, i + 1, v, h => xget_mask (mk := m) (ls := l) (i := i) h
  | [], [], i, v, h => by simp [xmask, xget] at h
  | [], _ :: _, i, v, h => by simp [xmask, xget] at h
  | true :: _, [], i, v, h => by simp [xmask, xget] at h
  | false :: _, [], i, v, h => by simp [xmask, xget] at h
theorem x_mask {G : xG} {LS : Array Slot} {nL : Nat} {ls : xL} {mk : List Bool} (h : lv_has LS nL (xprs G ls)) : lv_has LS nL (xprs G (xmask mk ls)) :=
  ⟨h.1, h.2.1, fun q hq => by
    obtain ⟨v, h1, h2⟩ := mem_xprs.mp hq
    exact h.2.2 q (mem_xprs.mpr ⟨v, xget_mask h1, h2⟩)⟩
