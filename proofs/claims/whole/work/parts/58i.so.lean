/-! The model does the ITEMS of its row, one by one. -/
def okS (N : Nat → Int32) (r : R7) : Prop := okR r ∧ (r.2.2.1 < 7 → sN N < 40)
def itR (f : Nat → Int32) (j : Nat) (r : R7) : Prop := f (6 * j) = nI r.2.2.1 ∧ f (6 * j + 1) = nI r.2.2.2.1 ∧ f (6 * j + 2) = nI r.2.2.2.2.1 ∧ f (6 * j + 3) = nI r.2.2.2.2.2.1 ∧ f (6 * j + 4) = nI r.2.2.2.2.2.2
/-- n ITEMS from the j-th on lead from N to N' -/
def chB (f : Nat → Int32) : Nat → Nat → (Nat → Int32) → (Nat → Int32) → Prop
  | 0, _, N, N' => N' = N
  | n + 1, j, N, N' => ∃ r : R7, okS N r ∧ itR f j r ∧ chB f n (j + 1) (apI N r) N'
theorem chB.snoc {f : Nat → Int32} {r : R7} : ∀ (n j : Nat) (N N1 : Nat → Int32), chB f n j N N1 → okS N1 r → itR f (j + n) r → chB f (n + 1) j N (apI N1 r)
  | 0, j, N, N1, h, ok, it => by
    have h' : N1 = N := h
    subst h'
    exact ⟨r, ok, it, rfl⟩
  | n + 1, j, N, N1, h, ok, it => by
    obtain ⟨r', ok', it', h'⟩ := h
    exact ⟨r', ok', it', chB.snoc n (j + 1) (apI N r') N1 h' ok (by rw [show j + 1 + n = j + (n + 1) by omega]; exact it)⟩
theorem chB.fr {f f' : Nat → Int32} : ∀ (n j : Nat) (N N1 : Nat → Int32), chB f n j N N1 → (∀ i, i < 6 * (j + n) → f' i = f i) → chB f' n j N N1
  | 0, j, N, N1, h, e => h
  | n + 1, j, N, N1, h, e => by
    obtain ⟨r, ok, it, h'⟩ := h
    refine ⟨r, ok, ⟨?_, ?_, ?_, ?_, ?_⟩, chB.fr n (j + 1) _ _ h' (fun i hi => e i (by omega))⟩
    · rw [e _ (by omega)]; exact it.1
    · rw [e _ (by omega)]; exact it.2.1
    · rw [e _ (by omega)]; exact it.2.2.1
    · rw [e _ (by omega)]; exact it.2.2.2.1
    · rw [e _ (by omega)]; exact it.2.2.2.2
theorem itM_r (M : xM) (n : Nat) (k x y z u : Int32) : itM M n k x y z u 68 = upd (upd (upd (upd (upd (M 68) (6 * n) k) (6 * n + 1) x) (6 * n + 2) y) (6 * n + 3) z) (6 * n + 4) u := rfl
theorem itR_its (M : xM) (c : Nat) (r : R7) : itR (itM M c (nI r.2.2.1) (nI r.2.2.2.1) (nI r.2.2.2.2.1) (nI r.2.2.2.2.2.1) (nI r.2.2.2.2.2.2) 68) c r := by
  rw [itM_r]
  refine ⟨?_, ?_, ?_, ?_, ?_⟩
  · rw [pk_un (by omega), pk_un (by omega), pk_un (by omega), pk_un (by omega), pk_us]
  · rw [pk_un (by omega), pk_un (by omega), pk_un (by omega), pk_us]
  · rw [pk_un (by omega), pk_un (by omega), pk_us]
  · rw [pk_un (by omega), pk_us]
  · rw [pk_us]
theorem its_fr (M : xM) (c : Nat) (k x y z u : Int32) (i : Nat) (hi : i < 6 * c) : itM M c k x y z u 68 i = M 68 i := by
  rw [itM_r, pk_un (by omega), pk_un (by omega), pk_un (by omega), pk_un (by omega), pk_un (by omega)]
theorem wf_apI {N : Nat → Int32} (w : Wf N) {r : R7} (ok : okS N r) : Wf (apI N r) := by
  obtain ⟨okr, h40⟩ := ok
  obtain ⟨bo, e, k, a, b, c, u⟩ := r
  rcases okr with ⟨h1, h2, h3, h4⟩ | ⟨h1, h2, h3, h4, h5⟩ | ⟨h1, h2, h3⟩ | ⟨h1, h2⟩ | ⟨h1, h2, h3, h4, h5, h6⟩
  · have h1 : k = 10 := h1
    subst h1
    exact wf_way w a b 1 h2 h3 h4 (by decide) 1 rfl
  · have h1 : k = 11 := h1
    subst h1
    have h2 : a < 6 := h2
    have h4 : c ≤ u := h4
    have h5 : u < 24 := h5
    exact wf_ppl w (fun _ => nI b) (24 * a + c) (u + 1 - c) (by omega) (fun j _ => Or.inr ⟨b, h3, rfl⟩)
  · have h1 : k = 12 := h1
    subst h1
    exact wf_keep w a ⟨h2, h3⟩ _ rfl
  · have h1 : k = 13 := h1
    subst h1
    exact wf_rain w a h2 1 (by decide) _ rfl
  · have h1 : k < 7 := h1
    have h9 := wf_say w k a b c u h1 h2 ⟨h3, h4⟩ h5 h6 (h40 h1)
    rw [← ap_say h1 e] at h9
    exact h9
theorem sN_apS {N : Nat → Int32} (w : Wf N) {r : R7} (h : r.2.2.1 < 7) : sN (apI N r) = sN N + 1 := by
  have h40 := w.2.1.2
  obtain ⟨bo, e, k, a, b, c, u⟩ := r
  have h1 : k < 7 := h
  have h9 : apI N (true, e, k, a, b, c, u) 1 = nI (sN N + 1) := by
    rw [ap_say h1]
    exact syF_1
  show (apI N (true, e, k, a, b, c, u) 1).toNatClampNeg = sN N + 1
  rw [h9, nI_clamp (by omega)]
theorem sN_apN {N : Nat → Int32} {r : R7} (ok : okR r) (h : ¬ r.2.2.1 < 7) : sN (apI N r) = sN N := by
  obtain ⟨bo, e, k, a, b, c, u⟩ := r
  rcases ok with ⟨h1, h2, h3, h4⟩ | ⟨h1, h2, h3, h4, h5⟩ | ⟨h1, h2, h3⟩ | ⟨h1, h2⟩ | ⟨h1, h2, h3, h4, h5, h6⟩
  · have h1 : k = 10 := h1
    subst h1
    exact sN_e (wyF_un (by omega) (by omega))
  · have h1 : k = 11 := h1
    subst h1
    refine sN_e ?_
    show ldF N (fun _ => nI b) (444 + (24 * a + c)) (u + 1 - c) 1 = N 1
    unfold ldF
    rw [if_neg (by omega)]
  · have h1 : k = 12 := h1
    subst h1
    refine sN_e ?_
    show upd N 2 (nI a) 1 = N 1
    exact pk_un (by decide)
  · have h1 : k = 13 := h1
    subst h1
    refine sN_e ?_
    show upd N (4 + a) 1 1 = N 1
    exact pk_un (by omega)
  · exact absurd h1 h
theorem k10_way {b : Nat → Nat} {T e : Nat} : (piWay b T e).1 = true → 10 ≤ (piWay b T e).2.2.1 := by
  unfold piWay
  (repeat' split) <;> simp [fR]
theorem k10_keep {b : Nat → Nat} {T e : Nat} : (piKeep b T e).1 = true → 10 ≤ (piKeep b T e).2.2.1 := by
  unfold piKeep
  (repeat' split) <;> simp [fR]
theorem k10_rain {b : Nat → Nat} {T e : Nat} : (piRain b T e).1 = true → 10 ≤ (piRain b T e).2.2.1 := by
  unfold piRain
  (repeat' split) <;> simp [fR]
theorem k10_pers {b : Nat → Nat} {T e : Nat} : (piPers b T e).1 = true → 10 ≤ (piPers b T e).2.2.1 := by
  unfold piPers piP1 piP2 piP3
  (repeat' split) <;> simp [fR]
theorem ok_m {b : Nat → Nat} {T m e : Nat} (h : (piItem b T m e).1 = true) : (piItem b T m e).2.2.1 < 7 → m < 40 := by
  unfold piItem at h ⊢
  by_cases c0 : wdT b T e 0 = true
  · rw [if_pos c0] at h ⊢
    have := k10_way h
    omega
  rw [if_neg c0] at h ⊢
  by_cases c1 : wdT b T e 1 = true
  · rw [if_pos c1] at h ⊢
    have := k10_pers h
    omega
  rw [if_neg c1] at h ⊢
  by_cases c4 : wdT b T e 4 = true
  · rw [if_pos c4] at h ⊢
    have := k10_keep h
    omega
  rw [if_neg c4] at h ⊢
  by_cases c5 : wdT b T e 5 = true
  · rw [if_pos c5] at h ⊢
    have := k10_rain h
    omega
  rw [if_neg c5] at h ⊢
  cases hk : kdT b T e with
  | none =>
    rw [hk] at h
    cases h
  | some k =>
    rw [hk] at h
    have h' : (if m < 40 then piSay b T k (enT b T e) else fR e).1 = true := h
    intro _
    by_cases c6 : m < 40
    · exact c6
    · rw [if_neg c6] at h'
      cases h'
theorem okS_Item {b : Nat → Nat} {T e : Nat} {N : Nat → Int32} (h : (piItem b T (sN N) e).1 = true) : okS N (piItem b T (sN N) e) := ⟨ok_Item h, ok_m h⟩
def soM (M M' : xM) : Prop := (∀ r, r ≠ 59 → r ≠ 60 → M' r = M r) ∧ ∀ j, j ≠ 5 → M' 59 j = M 59 j
theorem soM.refl (M : xM) : soM M M := ⟨fun _ _ _ => rfl, fun _ _ => rfl⟩
theorem soM.trans {M M' M'' : xM} (h : soM M M') (h2 : soM M' M'') : soM M M'' := ⟨fun r a c => (h2.1 r a c).trans (h.1 r a c), fun j a => (h2.2 j a).trans (h.2 j a)⟩
theorem soM.r60 (M : xM) (f : Nat → Int32) : soM M (xrow M 60 f) := ⟨fun r a c => xrow_ne c, fun j a => congrFun (xrow_ne (by decide)) j⟩
theorem soM.r5 (M : xM) (f : Nat → Int32) (v : Int32) : soM M (xup (xrow M 60 f) 59 5 v) := ⟨fun r a c => (xrow_ne a).trans (xrow_ne c), fun j a => (pk_un a : upd (M 59) 5 v j = M 59 j)⟩
section LT
variable {G : xG} {d : Nat} {M : xM} {Q : Option Value → xH → Prop}
theorem m_isSo {N : Nat → Int32} (hN : M 60 = N) (w : Wf N) (sr : SR N M) (j : Nat) (hj : j < 120) {x : Int32} (hx : x = nI (6 * j)) (r : R7) (ok : okS N r) (it : itR (M 68) j r) (q : ∀ M', M' 60 = apI N r → soM M M' → SR (apI N r) M' → Q none (HH M')) : CW G (d + 2) jX9_isSo [.ref 59, .int x] (HH M) Q := by
  obtain ⟨okr, h40⟩ := ok
  obtain ⟨bo, e, k, a, b, c, u⟩ := r
  obtain ⟨i0, i1, i2, i3, i4⟩ := it
  rcases okr with ⟨h1, h2, h3, h4⟩ | ⟨h1, h2, h3, h4, h5⟩ | ⟨h1, h2, h3⟩ | ⟨h1, h2⟩ | ⟨h1, h2, h3, h4, h5, h6⟩
  · have h1 : k = 10 := h1
    subst h1
    refine m_isSoW hN j hj hx a b h2 h3 i0 i1 i2 ?_
    exact q _ rfl (soM.r5 M _ 0) (Or.inl rfl)
  · have h1 : k = 11 := h1
    subst h1
    refine m_isSoP hN j hj hx a b c u h2 h4 h5 i0 i1 i2 i3 i4 ?_
    refine q _ rfl (soM.r60 M _) (SR.e (fun p o hp ho => ?_) rfl rfl sr)
    show ldF N (fun _ => nI b) (444 + (24 * a + c)) (u + 1 - c) (104 + 10 * p + o) = _
    unfold ldF
    rw [if_neg (by omega)]
  · have h1 : k = 12 := h1
    subst h1
    refine m_isSoK hN j hj hx a i0 i1 ?_
    exact q _ rfl (soM.r60 M _) (SR.e (fun p o hp ho => pk_un (by omega)) rfl rfl sr)
  · have h1 : k = 13 := h1
    subst h1
    have h2 : a < 100 := h2
    refine m_isSoR hN j hj hx a h2 i0 i1 ?_
    exact q _ rfl (soM.r60 M _) (SR.e (fun p o hp ho => pk_un (by omega)) rfl rfl sr)
  · have h1 : k < 7 := h1
    refine m_isSoS hN j hj hx w (h40 h1) k a b c u h1 i0 i1 i2 i3 i4 ?_
    have ea : apI N (bo, e, k, a, b, c, u) = syF N (sN N) (nI k) (nI a) (nI b) (nI c) (nI u) (nI (vN N 0)) (nI (sN N + 1)) := ap_say h1 e a b c u
    have hs40 := h40 h1
    refine q _ ((xrow_at M 60 _).trans ea.symm) (soM.r60 M _) ?_
    rw [ea]
    exact SR.e (fun p o hp ho => syF_un (by omega) (by omega)) rfl rfl sr
theorem m_soL (c : Nat) (hc : c ≤ 120) (Nf : Nat → Int32) (h18 : M 59 18 = nI c) (q : ∀ M', M' 60 = Nf → soM M M' → SR Nf M' → Wf Nf → Q (some (.int (nI c))) (HH M')) : ∀ (n k : Nat) (N : Nat → Int32) (M' : xM), k + n = c → soM M M' → M' 60 = N → Wf N → SR N M' → chB (M 68) n k N Nf → Ev G (d + 7) jX9_text 106 [some (.ref 59), some (.int (nI k))] [] (HH M') 0 0 Q := by
  intro n
  induction n with
  | zero =>
    intro k N M' hk D h60 w sr ch
    have ch' : Nf = N := ch
    subst ch'
    have h18' : M' 59 18 = nI c := (D.2 18 (by decide)).trans h18
    refine Ev_wp fX9_text rfl ?_
    refine xle c k h18' rfl (by omega) (by omega) (fun _ => ?_) (fun z => absurd z (by omega))
    have h9 := q M' h60 D sr w
    rw [← h18'] at h9
    exact h9
  | succ n ih =>
    intro k N M' hk D h60 w sr ch
    obtain ⟨r, ok, it, ch'⟩ := ch
    have h18' : M' 59 18 = nI c := (D.2 18 (by decide)).trans h18
    refine Ev_wp fX9_text rfl ?_
    refine xle c k h18' rfl (by omega) (by omega) (fun z => absurd z (by omega)) (fun _ => ?_)
    refine m_isSo h60 w sr k (by omega) (im rfl rfl) r ok (by rw [D.1 68 (by decide) (by decide)]; exact it) (fun M2 e60 D2 sr2 => ?_)
    have h9 := ih (k + 1) (apI N r) M2 (by omega) (D.trans D2) e60 (wf_apI w ok) sr2 ch'
    rw [nI_succ] at h9
    exact h9
end LT
