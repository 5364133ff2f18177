/-! An ITEM done by the model, kind by kind. -/
section LS
variable {G : xG} {d : Nat} {M : xM} {Q : Option Value → xH → Prop}
theorem m_isSoK {N : Nat → Int32} (hN : M 60 = N) (j : Nat) (hj : j < 120) {x : Int32} (hx : x = nI (6 * j)) (v : Nat) (h0 : M 68 (6 * j) = nI 12) (h1 : M 68 (6 * j + 1) = nI v) (q : Q none (HH (xrow M 60 (upd N 2 (nI v))))) : CW G (d + 2) jX9_isSo [.ref 59, .int x] (HH M) Q := by
  refine CW_wp fX9_isSo rfl rfl rfl ?_
  refine xix (n := 720) (6 * j + 1) (ia hx rfl) (by omega) (by decide) (fun e1 => ?_)
  refine xix (n := 720) (6 * j + 2) (ia hx rfl) (by omega) (by decide) (fun e2 => ?_)
  refine xix (n := 720) (6 * j + 3) (ia hx rfl) (by omega) (by decide) (fun e3 => ?_)
  refine xix (n := 720) (6 * j + 4) (ia hx rfl) (by omega) (by decide) (fun e4 => ?_)
  refine xix (n := 720) (6 * j) hx (by omega) (by decide) (fun e0 => ?_)
  have t0 : (M 68 x.toNatClampNeg).toInt = 12 := by rw [e0, h0]; decide
  refine xelse (by rw [t0]; decide) ?_
  refine xelse (by rw [t0]; decide) ?_
  refine xelse (by rw [t0]; decide) ?_
  refine xif (by rw [t0] <;> decide) ?_
  have h9 : Q none (HH (xup M 60 2 (M 68 (x + 1).toNatClampNeg))) := by
    rw [e1, h1]
    unfold xup
    rw [hN]
    exact q
  exact h9
theorem m_isSoR {N : Nat → Int32} (hN : M 60 = N) (j : Nat) (hj : j < 120) {x : Int32} (hx : x = nI (6 * j)) (v : Nat) (hv : v < 100) (h0 : M 68 (6 * j) = nI 13) (h1 : M 68 (6 * j + 1) = nI v) (q : Q none (HH (xrow M 60 (upd N (4 + v) 1)))) : CW G (d + 2) jX9_isSo [.ref 59, .int x] (HH M) Q := by
  refine CW_wp fX9_isSo rfl rfl rfl ?_
  refine xix (n := 720) (6 * j + 1) (ia hx rfl) (by omega) (by decide) (fun e1 => ?_)
  refine xix (n := 720) (6 * j + 2) (ia hx rfl) (by omega) (by decide) (fun e2 => ?_)
  refine xix (n := 720) (6 * j + 3) (ia hx rfl) (by omega) (by decide) (fun e3 => ?_)
  refine xix (n := 720) (6 * j + 4) (ia hx rfl) (by omega) (by decide) (fun e4 => ?_)
  refine xix (n := 720) (6 * j) hx (by omega) (by decide) (fun e0 => ?_)
  have t0 : (M 68 x.toNatClampNeg).toInt = 13 := by rw [e0, h0]; decide
  refine xelse (by rw [t0]; decide) ?_
  refine xelse (by rw [t0]; decide) ?_
  refine xelse (by rw [t0]; decide) ?_
  refine xelse (by rw [t0]; decide) ?_
  refine xif (by rw [t0] <;> decide) ?_
  refine xix (n := 598) (4 + v) (ia rfl (show M 68 (x + 1).toNatClampNeg = _ by rw [e1]; exact h1)) (by omega) (by decide) (fun e9 => ?_)
  rw [e9]
  unfold xup
  rw [hN]
  exact q
theorem m_isSoW {N : Nat → Int32} (hN : M 60 = N) (j : Nat) (hj : j < 120) {x : Int32} (hx : x = nI (6 * j)) (a b : Nat) (ha : a < 10) (hb : b < 10) (h0 : M 68 (6 * j) = nI 10) (h1 : M 68 (6 * j + 1) = nI a) (h2 : M 68 (6 * j + 2) = nI b) (q : Q none (HH (xup (xrow M 60 (wyF N a b 1)) 59 5 0))) : CW G (d + 2) jX9_isSo [.ref 59, .int x] (HH M) Q := by
  refine CW_wp fX9_isSo rfl rfl rfl ?_
  refine xix (n := 720) (6 * j + 1) (ia hx rfl) (by omega) (by decide) (fun e1 => ?_)
  refine xix (n := 720) (6 * j + 2) (ia hx rfl) (by omega) (by decide) (fun e2 => ?_)
  refine xix (n := 720) (6 * j + 3) (ia hx rfl) (by omega) (by decide) (fun e3 => ?_)
  refine xix (n := 720) (6 * j + 4) (ia hx rfl) (by omega) (by decide) (fun e4 => ?_)
  refine xix (n := 720) (6 * j) hx (by omega) (by decide) (fun e0 => ?_)
  have t0 : (M 68 x.toNatClampNeg).toInt = 10 := by rw [e0, h0]; decide
  refine xelse (by rw [t0]; decide) ?_
  refine xif (by rw [t0] <;> decide) ?_
  refine m_ways a b ha hb (show M 68 (x + 1).toNatClampNeg = _ by rw [e1]; exact h1) (show M 68 (x + 2).toNatClampNeg = _ by rw [e2]; exact h2) ?_
  rw [hN]
  exact q
theorem m_isSoP {N : Nat → Int32} (hN : M 60 = N) (j : Nat) (hj : j < 120) {x : Int32} (hx : x = nI (6 * j)) (p v a e : Nat) (hp : p < 6) (ha : a ≤ e) (he : e < 24) (h0 : M 68 (6 * j) = nI 11) (h1 : M 68 (6 * j + 1) = nI p) (h2 : M 68 (6 * j + 2) = nI v) (h3 : M 68 (6 * j + 3) = nI a) (h4 : M 68 (6 * j + 4) = nI e) (q : Q none (HH (xrow M 60 (ldF N (fun _ => nI v) (444 + (24 * p + a)) (e + 1 - a))))) : CW G (d + 2) jX9_isSo [.ref 59, .int x] (HH M) Q := by
  refine CW_wp fX9_isSo rfl rfl rfl ?_
  refine xix (n := 720) (6 * j + 1) (ia hx rfl) (by omega) (by decide) (fun e1 => ?_)
  refine xix (n := 720) (6 * j + 2) (ia hx rfl) (by omega) (by decide) (fun e2 => ?_)
  refine xix (n := 720) (6 * j + 3) (ia hx rfl) (by omega) (by decide) (fun e3 => ?_)
  refine xix (n := 720) (6 * j + 4) (ia hx rfl) (by omega) (by decide) (fun e4 => ?_)
  refine xix (n := 720) (6 * j) hx (by omega) (by decide) (fun e0 => ?_)
  have t0 : (M 68 x.toNatClampNeg).toInt = 11 := by rw [e0, h0]; decide
  refine xelse (by rw [t0]; decide) ?_
  refine xelse (by rw [t0]; decide) ?_
  refine xif (by rw [t0] <;> decide) ?_
  refine m_isAt p a e hp ha he (show M 68 (x + 1).toNatClampNeg = _ by rw [e1]; exact h1) (show M 68 (x + 3).toNatClampNeg = _ by rw [e3]; exact h3) (show M 68 (x + 4).toNatClampNeg = _ by rw [e4]; exact h4) ?_
  rw [hN, e2, h2]
  exact q
theorem m_isSoS {N : Nat → Int32} (hN : M 60 = N) (j : Nat) (hj : j < 120) {x : Int32} (hx : x = nI (6 * j)) (w : Wf N) (hs40 : sN N < 40) (k o l p h : Nat) (hk : k < 7) (h0 : M 68 (6 * j) = nI k) (h1 : M 68 (6 * j + 1) = nI o) (h2 : M 68 (6 * j + 2) = nI l) (h3 : M 68 (6 * j + 3) = nI p) (h4 : M 68 (6 * j + 4) = nI h) (q : Q none (HH (xrow M 60 (syF N (sN N) (nI k) (nI o) (nI l) (nI p) (nI h) (nI (vN N 0)) (nI (sN N + 1)))))) : CW G (d + 2) jX9_isSo [.ref 59, .int x] (HH M) Q := by
  refine CW_wp fX9_isSo rfl rfl rfl ?_
  refine xix (n := 720) (6 * j + 1) (ia hx rfl) (by omega) (by decide) (fun e1 => ?_)
  refine xix (n := 720) (6 * j + 2) (ia hx rfl) (by omega) (by decide) (fun e2 => ?_)
  refine xix (n := 720) (6 * j + 3) (ia hx rfl) (by omega) (by decide) (fun e3 => ?_)
  refine xix (n := 720) (6 * j + 4) (ia hx rfl) (by omega) (by decide) (fun e4 => ?_)
  refine xix (n := 720) (6 * j) hx (by omega) (by decide) (fun e0 => ?_)
  refine xif (by rw [e0, h0, nI_toInt (by omega)]; exact Or.inl (by omega)) ?_
  refine xix (n := 720) (6 * j) hx (by omega) (by decide) (fun e9 => ?_)
  refine m_says hN w hs40 k o l p h (show M 68 x.toNatClampNeg = _ by rw [e0]; exact h0) (show M 68 (x + 1).toNatClampNeg = _ by rw [e1]; exact h1) (show M 68 (x + 2).toNatClampNeg = _ by rw [e2]; exact h2) (show M 68 (x + 3).toNatClampNeg = _ by rw [e3]; exact h3) (show M 68 (x + 4).toNatClampNeg = _ by rw [e4]; exact h4) ?_
  exact q
end LS
