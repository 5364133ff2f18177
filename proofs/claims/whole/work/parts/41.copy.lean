/-! copy: the class beside the model. -/
theorem wb_i2l {n : Nat} {x : Int32} (hx : x = nI n) (h : n < 2 ^ 31) : x.toInt64 = lN n := by rw [hx]; exact nI_l h
theorem lc_gt {x y : Int64} {a b : Nat} {A B : Prop} (hx : x = lN a) (hy : y = lN b) (ha : a < 2 ^ 63) (hb : b < 2 ^ 63) (h1 : b < a → A) (h2 : a ≤ b → B) : if 0 < lg_cmp x y then A else B := by
  have e : (0 < lg_cmp x y) ↔ b < a := by rw [lg_cmp_gt, hx, hy, pk_lLT hb ha]
  exact xite (fun c => h1 (e.mp c)) (fun c => h2 (Nat.not_lt.mp (fun z => c (e.mpr z))))
theorem lc_le {x y : Int64} {a b : Nat} {A B : Prop} (hx : x = lN a) (hy : y = lN b) (ha : a < 2 ^ 63) (hb : b < 2 ^ 63) (h1 : a ≤ b → A) (h2 : b < a → B) : if lg_cmp x y ≤ 0 then A else B := by
  have e : (lg_cmp x y ≤ 0) ↔ a ≤ b := by rw [lg_cmp_le, hx, hy, pk_lLE ha hb]
  exact xite (fun c => h1 (e.mp c)) (fun c => h2 (Nat.not_le.mp (fun z => c (e.mpr z))))
def rgS (n : Nat) (x v : Int32) : Prop := ∃ f c, x = nI f ∧ v = nI c ∧ f + c ≤ n
section Q9
variable {G : xG} {M : xM} {Q : Option Value → xH → Prop}
theorem c_hasRange0 {d : Nat} {x v : Int32} {n : Nat} (h1 : M 51 1 = nI n) (hn : n ≤ 40) (q1 : rgS n x v → Q (some (.int 1)) (HH M)) (q0 : ¬ rgS n x v → Q (some (.int 0)) (HH M)) : CW G d jX4_hasRange [.ref 51, .int x, .int v] (HH M) Q := by
  refine CW_wp fX4_hasRange rfl rfl rfl ?_
  refine xite (fun c => q0 (fun ⟨f, b, e1, e2, e3⟩ => by subst e1; exact nI_pos (by omega) c)) (fun c => ?_)
  obtain ⟨f, hf, rfl⟩ := nI_of c
  refine xite (fun c2 => q0 (fun ⟨f', b, e1, e2, e3⟩ => by subst e2; exact nI_pos (by omega) c2)) (fun c2 => ?_)
  obtain ⟨b, hb, rfl⟩ := nI_of c2
  have no : n < f + b → ¬ rgS n (nI f) (nI b) := fun hlt ⟨f', b', e1, e2, e3⟩ => by
    rw [nI_eq (by omega) (by omega)] at e1 e2
    omega
  refine xlt n b h1 rfl (by omega) (by omega) (fun c3 => q0 (no (by omega))) (fun c3 => ?_)
  refine xlt (n - b) f (isb h1 rfl (by omega)) rfl (by omega) (by omega) (fun c4 => q0 (no (by omega))) (fun c4 => ?_)
  exact q1 ⟨f, b, rfl, rfl, by omega⟩
theorem c_hasRange1 {d : Nat} {x v : Int32} {n : Nat} (h1 : M 53 1 = nI n) (hn : n ≤ 40) (q1 : rgS n x v → Q (some (.int 1)) (HH M)) (q0 : ¬ rgS n x v → Q (some (.int 0)) (HH M)) : CW G d jX4_hasRange [.ref 53, .int x, .int v] (HH M) Q := by
  refine CW_wp fX4_hasRange rfl rfl rfl ?_
  refine xite (fun c => q0 (fun ⟨f, b, e1, e2, e3⟩ => by subst e1; exact nI_pos (by omega) c)) (fun c => ?_)
  obtain ⟨f, hf, rfl⟩ := nI_of c
  refine xite (fun c2 => q0 (fun ⟨f', b, e1, e2, e3⟩ => by subst e2; exact nI_pos (by omega) c2)) (fun c2 => ?_)
  obtain ⟨b, hb, rfl⟩ := nI_of c2
  have no : n < f + b → ¬ rgS n (nI f) (nI b) := fun hlt ⟨f', b', e1, e2, e3⟩ => by
    rw [nI_eq (by omega) (by omega)] at e1 e2
    omega
  refine xlt n b h1 rfl (by omega) (by omega) (fun c3 => q0 (no (by omega))) (fun c3 => ?_)
  refine xlt (n - b) f (isb h1 rfl (by omega)) rfl (by omega) (by omega) (fun c4 => q0 (no (by omega))) (fun c4 => ?_)
  exact q1 ⟨f, b, rfl, rfl, by omega⟩
theorem c_hasRange2 {d : Nat} {x v : Int32} {n : Nat} (h1 : M 55 1 = nI n) (hn : n ≤ 40) (q1 : rgS n x v → Q (some (.int 1)) (HH M)) (q0 : ¬ rgS n x v → Q (some (.int 0)) (HH M)) : CW G d jX4_hasRange [.ref 55, .int x, .int v] (HH M) Q := by
  refine CW_wp fX4_hasRange rfl rfl rfl ?_
  refine xite (fun c => q0 (fun ⟨f, b, e1, e2, e3⟩ => by subst e1; exact nI_pos (by omega) c)) (fun c => ?_)
  obtain ⟨f, hf, rfl⟩ := nI_of c
  refine xite (fun c2 => q0 (fun ⟨f', b, e1, e2, e3⟩ => by subst e2; exact nI_pos (by omega) c2)) (fun c2 => ?_)
  obtain ⟨b, hb, rfl⟩ := nI_of c2
  have no : n < f + b → ¬ rgS n (nI f) (nI b) := fun hlt ⟨f', b', e1, e2, e3⟩ => by
    rw [nI_eq (by omega) (by omega)] at e1 e2
    omega
  refine xlt n b h1 rfl (by omega) (by omega) (fun c3 => q0 (no (by omega))) (fun c3 => ?_)
  refine xlt (n - b) f (isb h1 rfl (by omega)) rfl (by omega) (by omega) (fun c4 => q0 (no (by omega))) (fun c4 => ?_)
  exact q1 ⟨f, b, rfl, rfl, by omega⟩
theorem c_hasRange3 {d : Nat} {x v : Int32} {n : Nat} (h1 : M 57 1 = nI n) (hn : n ≤ 40) (q1 : rgS n x v → Q (some (.int 1)) (HH M)) (q0 : ¬ rgS n x v → Q (some (.int 0)) (HH M)) : CW G d jX4_hasRange [.ref 57, .int x, .int v] (HH M) Q := by
  refine CW_wp fX4_hasRange rfl rfl rfl ?_
  refine xite (fun c => q0 (fun ⟨f, b, e1, e2, e3⟩ => by subst e1; exact nI_pos (by omega) c)) (fun c => ?_)
  obtain ⟨f, hf, rfl⟩ := nI_of c
  refine xite (fun c2 => q0 (fun ⟨f', b, e1, e2, e3⟩ => by subst e2; exact nI_pos (by omega) c2)) (fun c2 => ?_)
  obtain ⟨b, hb, rfl⟩ := nI_of c2
  have no : n < f + b → ¬ rgS n (nI f) (nI b) := fun hlt ⟨f', b', e1, e2, e3⟩ => by
    rw [nI_eq (by omega) (by omega)] at e1 e2
    omega
  refine xlt n b h1 rfl (by omega) (by omega) (fun c3 => q0 (no (by omega))) (fun c3 => ?_)
  refine xlt (n - b) f (isb h1 rfl (by omega)) rfl (by omega) (by omega) (fun c4 => q0 (no (by omega))) (fun c4 => ?_)
  exact q1 ⟨f, b, rfl, rfl, by omega⟩
/-- the model's copy, from where both sheets are there and of as many bits -/
theorem m_copyG {x y z u v : Int32} (s t n m w : Nat) (hs : s < 4) (ht : t < 4) (hx : x = nI s) (hz : z = nI t) (hw : 0 < w ∧ w ≤ 32) (e1 : M 69 s = nI w) (e2 : M 69 t = nI w) (e3 : M 70 s = nI n) (e4 : M 70 t = nI m) (hn : n ≤ 40) (hm : m ≤ 40) (q0 : ¬ (rgS n y v ∧ rgS m u v) → Iv 1 M ∧ ∀ M2, Iv 0 M2 → Q (some (.int (nF 0))) (HH M2))
    (q1 : ∀ f g c, y = nI f → u = nI g → v = nI c → f + c ≤ n → g + c ≤ m → ∀ f72 f71, (∀ k, k < c → f71 (40 * t + g + k) = M 71 (40 * s + f + k)) → (∀ j, j < 40 * t + g ∨ 40 * t + g + c ≤ j → f71 j = M 71 j) → Q (some (.int v)) (HH (xrow (xrow M 72 f72) 71 f71))) : CW G 11 jX9_copy [.ref 59, .int x, .int y, .int z, .int u, .int v] (HH M) Q := by
  have bad : ¬ (rgS n y v ∧ rgS m u v) → CW G 10 jX9_finding [.ref 59, .int (-1000001)] (HH M) (fun w h => ∃ M2, Iv 0 M2 ∧ w = some (.int (nF 0)) ∧ h = HH M2) := fun hb => m_fin0 (q0 hb).1 (fun M2 h2 => ⟨M2, h2, rfl, rfl⟩)
  refine CW_wp fX9_copy rfl rfl rfl ?_
  refine m_isSheet_t s hs hx ?_
  refine m_isSheet_t t ht hz ?_
  refine xix (n := 4) s hx hs (by decide) (fun e => ?_)
  rw [e, e1]
  refine xelse (nI_ne0 hw.1 (by omega)) ?_
  refine xix (n := 4) t hz ht (by decide) (fun e => ?_)
  rw [e, e2]
  refine xelse (nI_ne0 hw.1 (by omega)) ?_
  refine xix (n := 4) s hx hs (by decide) (fun e => ?_)
  rw [e, e1]
  refine xix (n := 4) t hz ht (by decide) (fun e => ?_)
  rw [e, e2]
  refine xif rfl ?_
  refine xite (fun c => ?_) (fun c => ?_)
  · have h3 := q0 (fun ⟨⟨f, b, e1, e2, e3⟩, _⟩ => by subst e1; exact nI_pos (by omega) c)
    exact m_fin0 h3.1 h3.2
  obtain ⟨f, hf, ef⟩ := nI_of c
  refine xite (fun c2 => ?_) (fun c2 => ?_)
  · have h3 := q0 (fun ⟨_, ⟨f, b, e1, e2, e3⟩⟩ => by subst e1; exact nI_pos (by omega) c2)
    exact m_fin0 h3.1 h3.2
  obtain ⟨g, hg, eg⟩ := nI_of c2
  refine xite (fun c3 => ?_) (fun c3 => ?_)
  · have h3 := q0 (fun ⟨⟨f, b, e1, e2, e3⟩, _⟩ => by subst e2; exact nI_pos (by omega) c3)
    exact m_fin0 h3.1 h3.2
  obtain ⟨b, hb, eb⟩ := nI_of c3
  refine xix (n := 4) s hx hs (by decide) (fun e => ?_)
  rw [e, e3]
  refine lc_gt (a := f + b) (b := n) (by rw [wb_i2l ef hf, wb_i2l eb hb, lN_add]) (nI_l (by omega)) (by omega) (by omega) (fun c4 => ?_) (fun c4 => ?_)
  · have h3 := q0 (fun ⟨⟨f', b', e1, e2, e3⟩, _⟩ => by
      rw [ef, nI_eq hf (by omega)] at e1
      rw [eb, nI_eq hb (by omega)] at e2
      omega)
    exact m_fin0 h3.1 h3.2
  refine xix (n := 4) t hz ht (by decide) (fun e => ?_)
  rw [e, e4]
  refine lc_le (a := g + b) (b := m) (by rw [wb_i2l eg hg, wb_i2l eb hb, lN_add]) (nI_l (by omega)) (by omega) (by omega) (fun c5 => ?_) (fun c5 => ?_)
  · have l2 : ∀ f72, (∀ k, k < b → f72 k = M 71 (40 * s + f + k)) → ∀ f71, (∀ k, k < 0 → f71 (40 * t + g + k) = M 71 (40 * s + f + k)) → (∀ j, j < 40 * t + g ∨ 40 * t + g + b ≤ j → f71 j = M 71 j) → Ev G 11 jX9_copy 166 [some (.ref 59), none, none, some (.int z), some (.int u), some (.int v), some (.int (nI 0))] [] (HH (xrow (xrow M 72 f72) 71 f71)) 0 0 Q := fun f72 h72 => by
      refine dn (E := fun i => ∀ f71, (∀ k, k < i → f71 (40 * t + g + k) = M 71 (40 * s + f + k)) → (∀ j, j < 40 * t + g ∨ 40 * t + g + b ≤ j → f71 j = M 71 j) → Ev G 11 jX9_copy 166 [some (.ref 59), none, none, some (.int z), some (.int u), some (.int v), some (.int (nI i))] [] (HH (xrow (xrow M 72 f72) 71 f71)) 0 0 Q) (Nat.zero_le b) (fun f71 h1 h2 => ?_) (fun i _ h2 ih f71 h3 h4 => ?_)
      · refine Ev_wp fX9_copy rfl ?_
        refine xif (by rw [eb]; exact Int32.le_refl _) ?_
        exact q1 f g b ef eg eb c4 c5 f72 f71 h1 h2
      · refine Ev_wp fX9_copy rfl ?_
        refine xelse (by rw [eb]; exact nI_ge h2 hb) ?_
        refine xix (n := 40) i rfl (by omega) (by decide) (fun e => ?_)
        refine xix (n := 160) (40 * t + g + i) (ia (ia (im rfl hz) eg) rfl) (by omega) (by decide) (fun e9 => ?_)
        rw [e, e9, show xrow (xrow M 72 f72) 71 f71 72 i = f72 i from rfl, h72 i h2, xup_row]
        have h5 := ih (upd f71 (40 * t + g + i) (M 71 (40 * s + f + i))) (fun k hk => by
          unfold upd
          by_cases z : k = i
          · subst z; rw [if_pos rfl]
          · rw [if_neg (by omega)]; exact h3 k (by omega)) (fun j hj => by
          unfold upd
          rw [if_neg (by omega)]; exact h4 j hj)
        rw [nI_succ] at h5
        exact h5
    have l1 : ∀ f72, (∀ k, k < 0 → f72 k = M 71 (40 * s + f + k)) → Ev G 11 jX9_copy 129 [some (.ref 59), some (.int x), some (.int y), some (.int z), some (.int u), some (.int v), some (.int (nI 0))] [] (HH (xrow M 72 f72)) 0 0 Q := by
      refine dn (E := fun i => ∀ f72, (∀ k, k < i → f72 k = M 71 (40 * s + f + k)) → Ev G 11 jX9_copy 129 [some (.ref 59), some (.int x), some (.int y), some (.int z), some (.int u), some (.int v), some (.int (nI i))] [] (HH (xrow M 72 f72)) 0 0 Q) (Nat.zero_le b) (fun f72 h1 => ?_) (fun i _ h2 ih f72 h3 => ?_)
      · refine Ev_wp fX9_copy rfl ?_
        refine xif (by rw [eb]; exact Int32.le_refl _) ?_
        have h6 := l2 f72 h1 (M 71) (fun k hk => absurd hk (Nat.not_lt_zero _)) (fun _ _ => rfl)
        rw [show xrow (xrow M 72 f72) 71 (M 71) = xrow M 72 f72 from xrow_self (xrow M 72 f72) 71] at h6
        exact h6
      · refine Ev_wp fX9_copy rfl ?_
        refine xelse (by rw [eb]; exact nI_ge h2 hb) ?_
        refine xix (n := 160) (40 * s + f + i) (ia (ia (im rfl hx) ef) rfl) (by omega) (by decide) (fun e => ?_)
        refine xix (n := 40) i rfl (by omega) (by decide) (fun e9 => ?_)
        rw [e, e9, show xrow M 72 f72 71 (40 * s + f + i) = M 71 (40 * s + f + i) from rfl, xup_row]
        have h5 := ih (upd f72 i (M 71 (40 * s + f + i))) (fun k hk => by
          unfold upd
          by_cases z : k = i
          · subst z; rw [if_pos rfl]
          · rw [if_neg z]; exact h3 k (by omega))
        rw [nI_succ] at h5
        exact h5
    have h0 := l1 (M 72) (fun k hk => absurd hk (Nat.not_lt_zero _))
    rw [xrow_self] at h0
    exact h0
  · have h3 := q0 (fun ⟨_, ⟨f', b', e1, e2, e3⟩⟩ => by
      rw [eg, nI_eq hg (by omega)] at e1
      rw [eb, nI_eq hb (by omega)] at e2
      omega)
    exact m_fin0 h3.1 h3.2
theorem m_copyM {x y z u v : Int32} (s t a b : Nat) (hs : s < 4) (ht : t < 4) (hx : x = nI s) (hz : z = nI t) (ha : a ≤ 32) (hb : b ≤ 32) (e1 : M 69 s = nI a) (e2 : M 69 t = nI b) (h : a = 0 ∨ b = 0) (I : Iv 6 M) (q : ∀ M2, Iv 0 M2 → Q (some (.int (nF 5))) (HH M2)) : CW G 11 jX9_copy [.ref 59, .int x, .int y, .int z, .int u, .int v] (HH M) Q := by
  refine CW_wp fX9_copy rfl rfl rfl ?_
  refine m_isSheet_t s hs hx ?_
  refine m_isSheet_t t ht hz ?_
  refine xix (n := 4) s hx hs (by decide) (fun e => ?_)
  rw [e]
  refine xeq a 0 e1 rfl (by omega) (by decide) (fun c => ?_) (fun c => ?_)
  · exact m_fin5 I q
  refine xix (n := 4) t hz ht (by decide) (fun e => ?_)
  rw [e]
  refine xeq b 0 e2 rfl (by omega) (by decide) (fun c2 => ?_) (fun c2 => by omega)
  exact m_fin5 I q
theorem m_copyK {x y z u v : Int32} (s t a b : Nat) (hs : s < 4) (ht : t < 4) (hx : x = nI s) (hz : z = nI t) (ha : 0 < a ∧ a ≤ 32) (hb : 0 < b ∧ b ≤ 32) (e1 : M 69 s = nI a) (e2 : M 69 t = nI b) (h : a ≠ b) (I : Iv 3 M) (q : ∀ M2, Iv 0 M2 → Q (some (.int (nF 2))) (HH M2)) : CW G 11 jX9_copy [.ref 59, .int x, .int y, .int z, .int u, .int v] (HH M) Q := by
  refine CW_wp fX9_copy rfl rfl rfl ?_
  refine m_isSheet_t s hs hx ?_
  refine m_isSheet_t t ht hz ?_
  refine xix (n := 4) s hx hs (by decide) (fun e => ?_)
  rw [e, e1]
  refine xelse (nI_ne0 ha.1 (by omega)) ?_
  refine xix (n := 4) t hz ht (by decide) (fun e => ?_)
  rw [e, e2]
  refine xelse (nI_ne0 hb.1 (by omega)) ?_
  refine xix (n := 4) s hx hs (by decide) (fun e => ?_)
  rw [e, e1]
  refine xix (n := 4) t hz ht (by decide) (fun e => ?_)
  rw [e, e2]
  refine xelse (by rw [nI_eq (by omega) (by omega)]; exact h) ?_
  exact m_fin2 I q
end Q9
