/-! ITEMS read, the model's side: what moves; an ITEM put down; PERSON. -/
def MrM (M M' : xM) : Prop := (∀ r, r ≠ 59 → r ≠ 68 → M' r = M r) ∧ ∀ j, j < 11 ∨ 19 < j ∨ j = 16 ∨ j = 17 → M' 59 j = M 59 j
theorem MrM.refl (M : xM) : MrM M M := ⟨fun _ _ _ => rfl, fun _ _ => rfl⟩
theorem MrM.cf {M M' : xM} (h : MfM M M') : MrM M M' := ⟨fun r a _ => h.1 r a, fun j a => h.2 j (by omega)⟩
theorem MrM.trans {M M' M'' : xM} (h : MrM M M') (h2 : MrM M' M'') : MrM M M'' := ⟨fun r a c => (h2.1 r a c).trans (h.1 r a c), fun j a => (h2.2 j a).trans (h.2 j a)⟩
theorem MrM.up {M M' : xM} (h : MrM M M') (k : Nat) (v : Int32) (hk : 11 ≤ k ∧ k ≤ 19 ∧ k ≠ 16 ∧ k ≠ 17) : MrM M (xup M' 59 k v) := ⟨fun r a c => (xrow_ne a).trans (h.1 r a c), fun j a => (show upd (M' 59) k v j = M 59 j from (pk_un (by omega)).trans (h.2 j a))⟩
theorem MrM.it {M M' : xM} (h : MrM M M') (k : Nat) (v : Int32) : MrM M (xup M' 68 k v) := ⟨fun r a c => (xrow_ne c).trans (h.1 r a c), fun j a => (congrFun (xrow_ne (by decide)) j).trans (h.2 j a)⟩
theorem TpM.wr {b : Nat → Nat} {T : Nat} {M : xM} (t : TpM b T M) : TpM b T (xup M 59 15 1) := t
theorem LxM.wr {b : Nat → Nat} {T e : Nat} {M : xM} (t : LxM b T e M) : LxM b T e (xup M 59 15 1) := t
theorem TpM.mr {b : Nat → Nat} {T : Nat} {M M' : xM} (t : TpM b T M) (h : MrM M M') : TpM b T M' := ⟨(h.2 10 (by decide)).trans t.1, t.2.1, fun i hi => by rw [h.1 66 (by decide) (by decide)]; exact t.2.2.1 i hi, t.2.2.2⟩
def itM (M : xM) (n : Nat) (k x y z u : Int32) : xM := xup (xup (xup (xup (xup M 68 (6 * n) k) 68 (6 * n + 1) x) 68 (6 * n + 2) y) 68 (6 * n + 3) z) 68 (6 * n + 4) u
theorem MrM.its {M M' : xM} (h : MrM M M') (n : Nat) (k x y z u : Int32) : MrM M (itM M' n k x y z u) := ((((h.it _ _).it _ _).it _ _).it _ _).it _ _
section LO
variable {G : xG} {d : Nat} {M : xM} {Q : Option Value → xH → Prop} {b : Nat → Nat} {T : Nat}
theorem m_item (n : Nat) (hn : n < 120) (h18 : M 59 18 = nI n) (k x y z u : Int32) (q : Q none (HH (xup (itM M n k x y z u) 59 18 (nI (n + 1))))) : CW G d jX9_item [.ref 59, .int k, .int x, .int y, .int z, .int u] (HH M) Q := by
  refine CW_wp fX9_item rfl rfl rfl ?_
  have e6 : 6 * M 59 18 = nI (6 * n) := im rfl h18
  refine xix (n := 720) (6 * n) e6 (by omega) (by decide) (fun e0 => ?_)
  refine xix (n := 720) (6 * n + 1) (ia e6 rfl) (by omega) (by decide) (fun e1 => ?_)
  refine xix (n := 720) (6 * n + 2) (ia e6 rfl) (by omega) (by decide) (fun e2 => ?_)
  refine xix (n := 720) (6 * n + 3) (ia e6 rfl) (by omega) (by decide) (fun e3 => ?_)
  refine xix (n := 720) (6 * n + 4) (ia e6 rfl) (by omega) (by decide) (fun e4 => ?_)
  rw [e0, e1, e2, e3, e4]
  rw [nI_succ, ← h18] at q
  exact q
theorem m_isWA2 (tp : TpM b T M) (e : Nat) (he : e ≤ T) (lx : LxM b T e M) (q : ∀ v, Q (some (.int v)) (HH M)) : CW G (d + 4) jX9_isWord [.ref 59, .ref 1102] (HH M) Q := m_isWord2 tp e he lx (fun _ => q 1) (fun _ => q 0)
theorem m_isWA13 (tp : TpM b T M) (e : Nat) (he : e ≤ T) (lx : LxM b T e M) (q : ∀ v, Q (some (.int v)) (HH M)) : CW G (d + 4) jX9_isWord [.ref 59, .ref 1113] (HH M) Q := m_isWord13 tp e he lx (fun _ => q 1) (fun _ => q 0)
theorem m_isWA5 (tp : TpM b T M) (e : Nat) (he : e ≤ T) (lx : LxM b T e M) (q : ∀ v, Q (some (.int v)) (HH M)) : CW G (d + 4) jX9_isWord [.ref 59, .ref 1105] (HH M) Q := m_isWord5 tp e he lx (fun _ => q 1) (fun _ => q 0)
end LO
