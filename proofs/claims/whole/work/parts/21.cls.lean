/-! The class's own small questions of numbers. -/
theorem xnin {x : Int32} {n : Nat} (h : vp_in x n) : ¬ (x < 0 ∨ n ≤ x.toNatClampNeg) := h
theorem nin {k n : Nat} (h : k < n) (hn : n < 2 ^ 31) : ¬ (nI k < 0 ∨ n ≤ (nI k).toNatClampNeg) := nI_in h hn
/-- a number is one from 0 to n - 1, or not -/
theorem n_ix (x : Int32) (n : Nat) (hn : n < 2 ^ 31) : (∃ p : Nat, p < n ∧ x = nI p) ∨ ((x < 0 ∨ nI n ≤ x) ∧ ∀ p : Nat, p < n → x ≠ nI p) := by
  rcases pk_ix x hn with h | h | ⟨j, h1, h2⟩
  · exact Or.inr ⟨Or.inl h, fun p hp e => by subst e; exact nI_pos (by omega) h⟩
  · exact Or.inr ⟨Or.inr h, fun p hp e => by subst e; exact nI_ge hp hn h⟩
  · exact Or.inl ⟨j, h1, h2⟩
section CL
variable {G : xG} {d : Nat} {h : xH} {Q : Option Value → xH → Prop}
theorem c_isPlace (x : Int32) (q1 : ∀ p : Nat, p < 10 → x = nI p → Q (some (.int 1)) h) (q0 : (∀ p : Nat, p < 10 → x ≠ nI p) → Q (some (.int 0)) h) : CW G d jX8_isPlace [.int x] h Q := by
  refine CW_wp fX8_isPlace rfl rfl rfl ?_
  rcases n_ix x 10 (by decide) with ⟨p, hp, rfl⟩ | ⟨hx, hn⟩
  · refine xelse (nI_pos (by omega)) ?_
    refine xelse (nI_ge hp (by decide)) ?_
    exact q1 p hp rfl
  · refine xite (fun c => q0 hn) (fun c => ?_)
    exact xif (hx.resolve_left c) (q0 hn)
end CL
