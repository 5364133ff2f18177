/-! The JDK's own small methods. -/
section JD
variable {G : xG} {d : Nat} {Q : Option Value → xH → Prop}
def ffill (f : Nat → Int32) (v : Int32) (i : Nat) : Nat → Int32 := fun k => if k < i then v else f k
theorem ffill_succ (f : Nat → Int32) (v : Int32) (i : Nat) : upd (ffill f v i) i v = ffill f v (i + 1) := by
  funext k
  unfold upd ffill
  by_cases h : k = i
  · subst h
    rw [if_pos rfl, if_pos (Nat.lt_succ_self k)]
  · rw [if_neg h]
    by_cases h2 : k < i
    · rw [if_pos h2, if_pos (by omega)]
    · rw [if_neg h2, if_neg (by omega)]
theorem xrow_xrow (M : xM) (a : Nat) (f g : Nat → Int32) : xrow (xrow M a f) a g = xrow M a g := by
  funext i
  unfold xrow
  by_cases h : i = a
  · rw [if_pos h, if_pos h]
  · rw [if_neg h, if_neg h, if_neg h]
theorem xup_row (M : xM) (a : Nat) (f : Nat → Int32) (k : Nat) (v : Int32) : xup (xrow M a f) a k v = xrow M a (upd f k v) := by
  unfold xup
  rw [xrow_eq, xrow_xrow]
theorem xrow_self (M : xM) (a : Nat) : xrow M a (M a) = M := by
  funext i
  unfold xrow
  by_cases h : i = a
  · rw [if_pos h, h]
  · rw [if_neg h]
set_option maxRecDepth 4000 in
theorem l_fill (sh : List (Nat × Nat)) (R : Nat → Nat → Option Nat) (M : xM) (a n : Nat) (hn : n < 2 ^ 31) (hsh : sh[a]? = some (0, n)) (v : Int32) (q : Q none (sh, R, xrow M a (ffill (M a) v n))) :
    ∀ (k i : Nat), i + k = n → Ev G d jJ7_fill_53178 5 [some (.ref a), some (.int v), some (.int (nI i)), some (.int (nI n))] [] (sh, R, xrow M a (ffill (M a) v i)) 0 0 Q := by
  intro k
  induction k with
  | zero =>
    intro i hi
    refine Ev_wp fJ7_fill_53178 rfl ?_
    refine xif (by rw [show i = n by omega]; exact Int32.le_refl _) ?_
    rw [show i = n by omega]
    exact q
  | succ k ih =>
    intro i hi
    refine Ev_wp fJ7_fill_53178 rfl ?_
    refine xelse (nI_ge (by omega) hn) ?_
    have h1 := ih (i + 1) (by omega)
    rw [← ffill_succ, ← xup_row] at h1
    show (match sh[a]? with
        | some (kd, n) => match kd with
          | 0 => if nI i < 0 ∨ n ≤ (nI i).toNatClampNeg then False else _
          | _ => False
        | none => False)
    rw [hsh]
    refine xelse (nin (by omega) hn) ?_
    have h2 : nI (i + 1) = nI i + 1 := nI_succ i
    have h3 : (nI i).toNatClampNeg = i := nI_clamp (by omega)
    rw [h2] at h1
    rw [h3]
    exact h1
theorem c_fill (sh : List (Nat × Nat)) (R : Nat → Nat → Option Nat) (M : xM) (a n : Nat) (hn : n < 2 ^ 31) (hsh : sh[a]? = some (0, n)) (v : Int32) (q : Q none (sh, R, xrow M a (ffill (M a) v n))) : CW G d jJ7_fill_53178 [.ref a, .int v] (sh, R, M) Q := by
  refine CW_wp fJ7_fill_53178 rfl rfl rfl ?_
  have h1 := l_fill (G := G) (d := d) sh R M a n hn hsh v q n 0 (by omega)
  have h0 : xrow M a (ffill (M a) v 0) = M := by
    have e : ffill (M a) v 0 = M a := by funext k; unfold ffill; rw [if_neg (by omega)]
    rw [e, xrow_self]
  rw [h0] at h1
  show (match sh[a]? with
        | some (kd, n) => match Nat.blt kd 3 with
          | true => _
          | false => False
        | none => _)
  rw [hsh]
  exact h1
end JD
