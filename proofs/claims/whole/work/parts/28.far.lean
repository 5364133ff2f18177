/-! STEPS as the model measures them. -/
def FAR (N : Nat → Int32) (f : Nat → Int32) : Prop := ∀ i j, i < 10 → j < 10 → ∃ D, D < 100 ∧ f (10 * i + j) = nI D ∧ ∀ k, k < 99 → (D ≤ k ↔ rc N i k j = true)
def SR (N : Nat → Int32) (M : xM) : Prop := M 59 5 = 0 ∨ (M 59 5 = 1 ∧ FAR N (M 63))
def Rm (N : Nat → Int32) (M M' : xM) : Prop := (∀ r, r ≠ 59 → r ≠ 63 → M' r = M r) ∧ (∀ k, k ≠ 5 → M' 59 k = M 59 k) ∧ SR N M'
theorem Rm.refl {N : Nat → Int32} {M : xM} (h : SR N M) : Rm N M M := ⟨fun _ _ _ => rfl, fun _ _ => rfl, h⟩
theorem Rm.trans {N : Nat → Int32} {M M' M'' : xM} (h : Rm N M M') (h2 : Rm N M' M'') : Rm N M M'' := ⟨fun r a b => (h2.1 r a b).trans (h.1 r a b), fun k a => (h2.2.1 k a).trans (h.2.1 k a), h2.2.2⟩
theorem Rm.n {N : Nat → Int32} {M M' : xM} (h : Rm N M M') (hn : M 60 = N) : M' 60 = N := (h.1 60 (by decide) (by decide)).trans hn
theorem rc_0 (N : Nat → Int32) (a q : Nat) : rc N a 0 q = decide (a = q) := rfl
theorem rc_s (N : Nat → Int32) (a k q : Nat) : rc N a (k + 1) q = true ↔ rc N a k q = true ∨ ∃ c, c < 10 ∧ rc N a k c = true ∧ wy N c q = true := by
  show (rc N a k q || anyN (fun c => rc N a k c && wy N c q) 10) = true ↔ _
  rw [Bool.or_eq_true, anyN_iff]
  constructor
  · rintro (h | ⟨c, h1, h2⟩)
    · exact Or.inl h
    · rw [Bool.and_eq_true] at h2
      exact Or.inr ⟨c, h1, h2.1, h2.2⟩
  · rintro (h | ⟨c, h1, h2, h3⟩)
    · exact Or.inl h
    · exact Or.inr ⟨c, h1, by rw [h2, h3]; rfl⟩
theorem rc_mono {N : Nat → Int32} {a q k : Nat} (h : rc N a k q = true) : ∀ m, k ≤ m → rc N a m q = true := by
  intro m hm
  induction m with
  | zero => rw [show k = 0 by omega] at h; exact h
  | succ m ih =>
    by_cases e : k = m + 1
    · subst e; exact h
    · exact (rc_s N a m q).mpr (Or.inl (ih (by omega)))
theorem rc_trans {N : Nat → Int32} {a b m : Nat} (h : rc N a m b = true) : ∀ (n q : Nat), rc N b n q = true → rc N a (m + n) q = true
  | 0, q, h2 => by
    rw [rc_0] at h2
    rw [← of_decide_eq_true h2]; exact h
  | n + 1, q, h2 => by
    rcases (rc_s N b n q).mp h2 with h3 | ⟨c, h3, h4, h5⟩
    · exact rc_mono (rc_trans h n q h3) _ (by omega)
    · exact (rc_s N a (m + n) q).mpr (Or.inr ⟨c, h3, rc_trans h n c h4, h5⟩)
/-- the model's table on the way: as far as PLACES below b may lie between -/
def FW (N : Nat → Int32) (b : Nat) (D : Nat → Nat) : Prop :=
  (∀ i, i < 10 → D (10 * i + i) = 0) ∧ (∀ i j, i < 10 → j < 10 → D (10 * i + j) ≤ 99) ∧ (∀ i j, i < 10 → j < 10 → D (10 * i + j) < 99 → rc N i (D (10 * i + j)) j = true) ∧
  (∀ i j, i < 10 → j < 10 → wy N i j = true → D (10 * i + j) ≤ 1) ∧ (∀ l i j, l < b → i < 10 → j < 10 → D (10 * i + j) ≤ D (10 * i + l) + D (10 * l + j))
def fwS1 (D : Nat → Nat) (b t : Nat) : Nat := min (D t) (D (10 * (t / 10) + b) + D (10 * b + t % 10))
theorem fw_at (D : Nat → Nat) (b i j : Nat) (hj : j < 10) : fwS1 D b (10 * i + j) = min (D (10 * i + j)) (D (10 * i + b) + D (10 * b + j)) := by
  unfold fwS1
  rw [show (10 * i + j) / 10 = i by omega, show (10 * i + j) % 10 = j by omega]
theorem fw_step {N : Nat → Int32} {b : Nat} {D D' : Nat → Nat} (hb : b < 10) (h : FW N b D) (hD : ∀ t, t < 100 → D' t = fwS1 D b t) : FW N (b + 1) D' := by
  obtain ⟨h1, h2, h3, h4, h5⟩ := h
  have e : ∀ i j, i < 10 → j < 10 → D' (10 * i + j) = min (D (10 * i + j)) (D (10 * i + b) + D (10 * b + j)) := fun i j hi hj => by
    rw [hD _ (by omega), fw_at D b i j hj]
  have hbb := h1 b hb
  refine ⟨fun i hi => ?_, fun i j hi hj => ?_, fun i j hi hj hlt => ?_, fun i j hi hj hw => ?_, fun l i j hl hi hj => ?_⟩
  · have := h1 i hi
    rw [e i i hi hi]; omega
  · have := h2 i j hi hj
    rw [e i j hi hj]; omega
  · rw [e i j hi hj] at hlt ⊢
    by_cases c : D (10 * i + j) ≤ D (10 * i + b) + D (10 * b + j)
    · rw [Nat.min_eq_left c] at hlt ⊢
      exact h3 i j hi hj hlt
    · rw [Nat.min_eq_right (by omega)] at hlt ⊢
      exact rc_trans (h3 i b hi hb (by omega)) _ _ (h3 b j hb hj (by omega))
  · have := h4 i j hi hj hw
    rw [e i j hi hj]; omega
  · by_cases hlb : l = b
    · subst hlb
      rw [e i j hi hj, e i l hi hb, e l j hb hj]
      omega
    · have hl' : l < b := by omega
      rw [e i j hi hj, e i l hi (by omega), e l j (by omega) hj]
      have a1 := h5 l i j hl' hi hj
      have a2 := h5 l b j hl' hb hj
      have a3 := h5 l i b hl' hi hb
      omega
theorem fw_end {N : Nat → Int32} {D : Nat → Nat} {f : Nat → Int32} (h : FW N 10 D) (hf : ∀ t, t < 100 → f t = nI (D t)) : FAR N f := by
  obtain ⟨h1, h2, h3, h4, h5⟩ := h
  intro i j hi hj
  refine ⟨D (10 * i + j), by have := h2 i j hi hj; omega, hf _ (by omega), fun k hk => ⟨fun hd => rc_mono (h3 i j hi hj (by omega)) k hd, ?_⟩⟩
  have key : ∀ k j, j < 10 → rc N i k j = true → D (10 * i + j) ≤ k := by
    intro k
    induction k with
    | zero =>
      intro j hj hr
      rw [rc_0] at hr
      have e := of_decide_eq_true hr
      subst e
      exact Nat.le_of_eq (h1 i hi)
    | succ k ih =>
      intro j hj hr
      rcases (rc_s N i k j).mp hr with h6 | ⟨c, h6, h7, h8⟩
      · have := ih j hj h6; omega
      · have a1 := ih c h6 h7
        have a2 := h4 c j h6 hj h8
        have a3 := h5 c i j h6 hi hj
        omega
  exact key k j hj
/-- the table at first -/
def fw0 (N : Nat → Int32) (t : Nat) : Nat := if t / 10 = t % 10 then 0 else if vN N (104 + t) = 1 then 1 else 99
theorem fw_0 (N : Nat → Int32) : FW N 0 (fw0 N) := by
  have e : ∀ i j, i < 10 → j < 10 → fw0 N (10 * i + j) = if i = j then 0 else if wy N i j = true then 1 else 99 := fun i j hi hj => by
    unfold fw0 wy
    rw [show (10 * i + j) / 10 = i by omega, show (10 * i + j) % 10 = j by omega, ← Nat.add_assoc]
    simp
  refine ⟨fun i hi => ?_, fun i j hi hj => ?_, fun i j hi hj hlt => ?_, fun i j hi hj hw => ?_, fun l i j hl => absurd hl (Nat.not_lt_zero _)⟩
  · rw [e i i hi hi, if_pos rfl]
  · rw [e i j hi hj]
    split
    · omega
    · split <;> omega
  · rw [e i j hi hj] at hlt ⊢
    by_cases c : i = j
    · rw [if_pos c, rc_0]; exact decide_eq_true c
    · rw [if_neg c] at hlt ⊢
      by_cases c2 : wy N i j = true
      · rw [if_pos c2]
        exact (rc_s N i 0 j).mpr (Or.inr ⟨i, hi, decide_eq_true rfl, c2⟩)
      · rw [if_neg c2] at hlt; omega
  · rw [e i j hi hj]
    split
    · omega
    · exact Nat.le_refl _
theorem nI_min (a b : Nat) (ha : a < 2 ^ 31) (hb : b < 2 ^ 31) : (if nI b < nI a then nI b else nI a) = nI (min a b) := by
  by_cases h : b < a
  · rw [if_pos (nI_lt h ha), Nat.min_eq_right (by omega)]
  · rw [if_neg (nI_nlt (by omega) hb), Nat.min_eq_left (by omega)]
section MF
variable {G : xG} {d : Nat} {M : xM} {N : Nat → Int32} {Q : Option Value → xH → Prop}
theorem xrow_at (M : xM) (a : Nat) (f : Nat → Int32) : xrow M a f a = f := if_pos rfl
set_option maxRecDepth 4000 in
theorem m_measure (hn : M 60 = N) (hw : Wf N) (q : ∀ f, FAR N f → Q none (HH (xup (xrow M 63 f) 59 5 1))) : CW G d jX9_measure [.ref 59] (HH M) Q := by
  refine CW_wp fX9_measure rfl rfl rfl ?_
  have l3 : ∀ b, b < 10 → ∀ D, (∀ t, t < 100 → D t ≤ 99) → D (10 * b + b) = 0 → (∀ f, (∀ t, t < 100 → f t = nI (fwS1 D b t)) → Ev G d jX9_measure 56 [some (.ref 59), some (.int (nI (b + 1))), none, none] [] (HH (xrow M 63 f)) 0 0 Q) → ∀ f, (∀ t, t < 100 → f t = nI (D t)) → Ev G d jX9_measure 64 [some (.ref 59), some (.int (nI b)), some (.int (nI 0)), none] [] (HH (xrow M 63 f)) 0 0 Q := by
    intro b hb D hD hbb q2 f hf
    have hsmall : ∀ t, t < 100 → fwS1 D b t ≤ 99 := fun t ht => by
      have := hD t ht
      unfold fwS1; omega
    refine dn (E := fun i => ∀ f, (∀ t, t < i → f t = nI (fwS1 D b t)) → (∀ t, i ≤ t → t < 100 → f t = nI (D t)) → Ev G d jX9_measure 64 [some (.ref 59), some (.int (nI b)), some (.int (nI i)), none] [] (HH (xrow M 63 f)) 0 0 Q) (Nat.zero_le 100) (fun f h1 _ => ?_) (fun i _ h2 ih f h3 h4 => ?_) f (fun t ht => absurd ht (Nat.not_lt_zero _)) (fun t _ ht => hf t ht)
    · refine Ev_wp fX9_measure rfl ?_
      have h5 := q2 f h1
      rw [nI_succ] at h5
      exact h5
    · refine Ev_wp fX9_measure rfl ?_
      refine xelse (nI_ge h2 (by decide)) ?_
      have e1 : nI i / 10 * 10 + nI b = nI (10 * (i / 10) + b) := by
        rw [Nat.mul_comm]
        exact ia (im (idv rfl rfl (by omega) (by decide) (by decide)) rfl) rfl
      refine xl1 (l := (10 : Int32) = 0) (by decide) ?_
      refine xix (n := 100) (10 * (i / 10) + b) e1 (by omega) (by decide) (fun e => ?_)
      rw [e]
      have e2 : 10 * nI b + (nI i - nI i / 10 * 10) = nI (10 * b + i % 10) := ia (im rfl rfl) (irm rfl rfl (by omega) (by decide) (by decide))
      refine xl1 (l := (10 : Int32) = 0) (by decide) ?_
      refine xix (n := 100) (10 * b + i % 10) e2 (by omega) (by decide) (fun e => ?_)
      rw [e]
      refine xix (n := 100) i rfl h2 (by decide) (fun e => ?_)
      rw [e]
      refine xix (n := 100) i rfl h2 (by decide) (fun e => ?_)
      rw [e, xrow_at]
      have f1 : ∀ t, t < 100 → t % 10 = b ∨ t / 10 = b → f t = nI (D t) := fun t ht hx => by
        by_cases c : t < i
        · rw [h3 t c]
          congr 1
          unfold fwS1
          rcases hx with hx | hx
          · rw [hx, hbb, show 10 * (t / 10) + b = t by omega]; omega
          · rw [hx, hbb, show 10 * b + t % 10 = t by omega]; omega
        · exact h4 t (by omega) ht
      have hd1 := hD (10 * (i / 10) + b) (by omega)
      have hd2 := hD (10 * b + i % 10) (by omega)
      have hd3 := hD i h2
      rw [f1 (10 * (i / 10) + b) (by omega) (by omega), f1 (10 * b + i % 10) (by omega) (by omega), h4 i (Nat.le_refl _) h2, nI_add, nI_min _ _ (by omega) (by omega), xup_row]
      have h6 := ih (upd f i (nI (min (D i) (D (10 * (i / 10) + b) + D (10 * b + i % 10))))) (fun t ht => by
        unfold upd
        by_cases c : t = i
        · subst c; rw [if_pos rfl]; rfl
        · rw [if_neg c]; exact h3 t (by omega)) (fun t ht1 ht2 => by
        unfold upd
        rw [if_neg (by omega)]; exact h4 t (by omega) ht2)
      rw [nI_succ] at h6
      exact h6
  have l2 : ∀ f D, FW N 0 D → (∀ t, t < 100 → f t = nI (D t)) → Ev G d jX9_measure 56 [some (.ref 59), some (.int (nI 0)), none, none] [] (HH (xrow M 63 f)) 0 0 Q := by
    intro f D h1 h2
    refine dn (E := fun b => ∀ f D, FW N b D → (∀ t, t < 100 → f t = nI (D t)) → Ev G d jX9_measure 56 [some (.ref 59), some (.int (nI b)), none, none] [] (HH (xrow M 63 f)) 0 0 Q) (Nat.zero_le 10) (fun f D h1 h2 => ?_) (fun b _ hb ih f D h1 h2 => ?_) f D h1 h2
    · refine Ev_wp fX9_measure rfl ?_
      exact q f (fw_end h1 h2)
    · refine Ev_wp fX9_measure rfl ?_
      refine xelse (nI_ge hb (by decide)) ?_
      exact l3 b hb D (fun t ht => by
        have := h1.2.1 (t / 10) (t % 10) (by omega) (by omega)
        rw [show 10 * (t / 10) + t % 10 = t by omega] at this
        exact this) (h1.1 b hb) (fun f' hf' => ih f' (fwS1 D b) (fw_step hb h1 (fun _ _ => rfl)) hf') f h2
  have l1 : ∀ i, i ≤ 100 → ∀ f, (∀ t, t < i → f t = nI (fw0 N t)) → Ev G d jX9_measure 2 [some (.ref 59), some (.int (nI i)), none, none] [] (HH (xrow M 63 f)) 0 0 Q := by
    intro i hi
    refine dn (E := fun i => ∀ f, (∀ t, t < i → f t = nI (fw0 N t)) → Ev G d jX9_measure 2 [some (.ref 59), some (.int (nI i)), none, none] [] (HH (xrow M 63 f)) 0 0 Q) hi (fun f hf => ?_) (fun i _ h2 ih f hf => ?_)
    · refine Ev_wp fX9_measure rfl ?_
      exact l2 f (fw0 N) (fw_0 N) hf
    · refine Ev_wp fX9_measure rfl ?_
      refine xelse (nI_ge h2 (by decide)) ?_
      have hu : ∀ v, v = nI (fw0 N i) → Ev G d jX9_measure 2 [some (.ref 59), some (.int (nI i + 1)), none, none] [] (HH (xup (xrow M 63 f) 63 i v)) 0 0 Q := fun v hv => by
        rw [xup_row, ← nI_succ]
        refine ih (upd f i v) (fun t ht => ?_)
        unfold upd
        by_cases c : t = i
        · subst c; rw [if_pos rfl]; exact hv
        · rw [if_neg c]; exact hf t (by omega)
      refine xl2 (l := (10 : Int32) = 0) (by decide) ?_
      refine xeq (i / 10) (i % 10) (idv rfl rfl (by omega) (by decide) (by decide)) (irm rfl rfl (by omega) (by decide) (by decide)) (by omega) (by omega) (fun c => ?_) (fun c => ?_)
      · refine xix (n := 100) i rfl h2 (by decide) (fun e => ?_)
        rw [e]
        exact hu _ (by rw [fw0, if_pos c]; rfl)
      · refine xix (n := 598) (104 + i) (ia rfl rfl) (by omega) (by decide) (fun e => ?_)
        rw [e, show xrow M 63 f 60 = M 60 from rfl, hn]
        have hv := hw.2.2.2.2.1 (i / 10) (i % 10) (by omega) (by omega)
        rw [show 104 + 10 * (i / 10) + i % 10 = 104 + i by omega] at hv
        refine xeq (vN N (104 + i)) 1 hv.1 rfl (by omega) (by decide) (fun c2 => ?_) (fun c2 => ?_)
        · refine xix (n := 100) i rfl h2 (by decide) (fun e => ?_)
          rw [e]
          exact hu _ (by rw [fw0, if_neg c, if_pos c2]; rfl)
        · refine xix (n := 100) i rfl h2 (by decide) (fun e => ?_)
          rw [e]
          exact hu _ (by rw [fw0, if_neg c, if_neg c2]; rfl)
  have h0 := l1 0 (by decide) (M 63) (fun t ht => absurd ht (Nat.not_lt_zero _))
  rw [xrow_self] at h0
  exact h0
theorem m_farOf (hn : M 60 = N) (hw : Wf N) (hr : SR N M) {x y : Int32} (a b : Nat) (ha : a < 10) (hb : b < 10) (hx : x = nI a) (hy : y = nI b) (q : ∀ M', Rm N M M' → ∀ D, D < 100 → (∀ k, k < 99 → (D ≤ k ↔ rc N a k b = true)) → ∀ r, r = nI D → Q (some (.int r)) (HH M')) : CW G (d + 1) jX9_farOf [.ref 59, .int x, .int y] (HH M) Q := by
  refine CW_wp fX9_farOf rfl rfl rfl ?_
  rcases hr with hr | ⟨hr, hf⟩
  · refine xif hr ?_
    refine m_measure hn hw (fun f hf => ?_)
    refine xix (n := 100) (10 * a + b) (ia (im rfl hx) hy) (by omega) (by decide) (fun e => ?_)
    rw [e]
    obtain ⟨D, h1, h2, h3⟩ := hf a b ha hb
    exact q _ ⟨fun r h4 h5 => by
      unfold xup
      rw [xrow_ne h4, xrow_ne h5], fun k hk => by
      unfold xup
      rw [xrow_at, pk_un hk, xrow_ne (by decide)], Or.inr ⟨rfl, hf⟩⟩ D h1 h3 _ h2
  · refine xelse (b1 hr) ?_
    refine xix (n := 100) (10 * a + b) (ia (im rfl hx) hy) (by omega) (by decide) (fun e => ?_)
    rw [e]
    obtain ⟨D, h1, h2, h3⟩ := hf a b ha hb
    exact q _ (Rm.refl (Or.inr ⟨hr, hf⟩)) D h1 h3 _ h2
theorem m_near (hn : M 60 = N) (hw : Wf N) (hr : SR N M) {x y : Int32} (a k : Nat) (ha : a < 10) (hk : k < 99) (hx : x = nI a) (hy : y = nI k) (q : ∀ M', Rm N M M' → ∀ r, r = nI (bts (rc N a k) 10) → Q (some (.int r)) (HH M')) : CW G (d + 2) jX9_near [.ref 59, .int x, .int y] (HH M) Q := by
  refine CW_wp fX9_near rfl rfl rfl ?_
  refine dn (E := fun i => ∀ M', Rm N M M' → Ev G (d + 2) jX9_near 5 [some (.ref 59), some (.int x), some (.int y), some (.int (nI (bts (rc N a k) i))), some (.int (nI i))] [] (HH M') 0 0 Q) (Nat.zero_le 10) (fun M' hm => ?_) (fun i _ h2 ih M' hm => ?_) M (Rm.refl hr)
  · refine Ev_wp fX9_near rfl ?_
    exact q M' hm _ rfl
  · refine Ev_wp fX9_near rfl ?_
    refine xelse (nI_ge h2 (by decide)) ?_
    refine m_farOf (hm.n hn) hw hm.2.2 a i ha h2 hx rfl (fun M'' hm2 D hD hd r hr => ?_)
    have ih := ih M'' (hm.trans hm2)
    rw [nI_succ, bts] at ih
    refine xlt k D hy hr (by omega) (by omega) (fun c => ?_) (fun c => ?_)
    · rw [if_neg (fun z => by have := (hd k hk).mpr z; omega), ← nx_or] at ih
      exact ih
    · rw [if_pos ((hd k hk).mp c), ← nx_or, ← nx_shl i (by omega)] at ih
      exact ih
theorem m_reachesOf (hn : M 60 = N) (hw : Wf N) (hr : SR N M) {x : Int32} (s : Nat) (hs : s < sN N) (hx : x = nI s) (q : ∀ M', Rm N M M' → ∀ r, r = nI (bts (arS N s) 10) → Q (some (.int r)) (HH M')) : CW G (d + 3) jX9_reachesOf [.ref 59, .int x] (HH M) Q := by
  have wa := hw.2.2.2.2.2.2.2.1 s hs
  refine CW_wp fX9_reachesOf rfl rfl rfl ?_
  refine m_of hn hw s 3 hs (by decide) hx rfl (fun r1 h1 => ?_)
  refine m_reach hn hw s hs hx (fun r2 h2 => ?_)
  have := reachK_le (sF N s 0) (sF N s 2) wa.2.2.2.1
  exact m_near hn hw hr (sF N s 3) (reachK (sF N s 0) (sF N s 2)) wa.2.2.2.2.1 (by omega) h1 h2 q
theorem m_isHeardAt (hn : M 60 = N) (hw : Wf N) (hr : SR N M) {x z y v : Int32} (s p D t : Nat) (hs : s < sN N) (hpl : p < 10) (hD : D < 100) (ht : t < 24) (hx : x = nI s) (hz : z = nI p) (hy : y = nI D) (hv : v = nI t) (q1 : ∀ M', Rm N M M' → htS N p D t s = true → Q (some (.int 1)) (HH M')) (q0 : ∀ M', Rm N M M' → htS N p D t s = false → Q (some (.int 0)) (HH M')) : CW G (d + 4) jX9_isHeardAt [.ref 59, .int x, .int z, .int y, .int v] (HH M) Q := by
  have wa := hw.2.2.2.2.2.2.2.1 s hs
  have r0 := Rm.refl hr
  refine CW_wp fX9_isHeardAt rfl rfl rfl ?_
  refine m_of hn hw s 4 hs (by decide) hx rfl (fun r1 h1 => ?_)
  refine xeq _ _ h1 hv (by omega) (by omega) (fun c => ?_) (fun c => q0 M r0 (by simp [htS, c]))
  refine m_isHeard hn hw s D hs hD hx hy (fun c2 => ?_) (fun c2 => q0 M r0 (by simp [htS, haS, c2]))
  refine m_reachesOf hn hw hr s hs hx (fun M' hm r2 h2 => ?_)
  have hb := bts31 (arS N s) (show 10 ≤ 30 by decide)
  refine m_has (bts (arS N s) 10) p h2 hb hz (by omega) (fun c3 => q1 M' hm ?_) (fun c3 => q0 M' hm ?_)
  · rw [tb_bts] at c3
    simp [hpl] at c3
    simp [htS, haS, c, c2, c3]
  · rw [tb_bts] at c3
    simp [hpl] at c3
    simp [htS, haS, c3]
theorem m_heardAt (hn : M 60 = N) (hw : Wf N) (hr : SR N M) {z y v : Int32} (p D t : Nat) (hpl : p < 10) (hD : D < 100) (ht : t < 24) (hz : z = nI p) (hy : y = nI D) (hv : v = nI t) (q : ∀ M', Rm N M M' → ∀ r, r = nI (cn (htS N p D t) (sN N)) → Q (some (.int r)) (HH M')) : CW G (d + 5) jX9_heardAt [.ref 59, .int z, .int y, .int v] (HH M) Q := by
  have h40 := hw.2.1.2
  have hge : ∀ M', Rm N M M' → M' 60 1 ≤ nI (sN N) := fun M' hm => by rw [hm.n hn, hw.2.1.1]; exact Int32.le_refl _
  have hlt : ∀ M', Rm N M M' → ∀ i, i < sN N → ¬ M' 60 1 ≤ nI i := fun M' hm i hi => by rw [hm.n hn, hw.2.1.1]; exact nI_ge hi (by omega)
  refine CW_wp fX9_heardAt rfl rfl rfl ?_
  refine dn (E := fun i => ∀ M', Rm N M M' → Ev G (d + 5) jX9_heardAt 6 [some (.ref 59), some (.int z), some (.int y), some (.int v), some (.int (nI (cn (htS N p D t) i))), some (.int (nI i))] [] (HH M') 0 0 Q) (Nat.zero_le (sN N)) (fun M' hm => ?_) (fun i _ h2 ih M' hm => ?_) M (Rm.refl hr)
  · refine Ev_wp fX9_heardAt rfl ?_
    exact xif (hge M' hm) (by exact q M' hm _ rfl)
  · refine Ev_wp fX9_heardAt rfl ?_
    refine xelse (hlt M' hm i h2) ?_
    refine m_isHeardAt (hm.n hn) hw hm.2.2 i p D t h2 hpl hD ht rfl hz hy hv (fun M'' hm2 c => ?_) (fun M'' hm2 c => ?_)
    · have ih := ih M'' (hm.trans hm2)
      rw [nI_succ, cn, if_pos c, nI_succ] at ih
      exact ih
    · have ih := ih M'' (hm.trans hm2)
      rw [nI_succ, cn, if_neg (by simp [c]), ← nI_add] at ih
      exact ih
theorem m_hearsIt (hn : M 60 = N) (hw : Wf N) (hr : SR N M) {x z y : Int32} (p s D : Nat) (hs : s < sN N) (hpl : p < 6) (hD : D < 100) (hx : x = nI p) (hz : z = nI s) (hy : y = nI D) (q1 : ∀ M', Rm N M M' → heS N p s D = true → Q (some (.int 1)) (HH M')) (q0 : ∀ M', Rm N M M' → heS N p s D = false → Q (some (.int 0)) (HH M')) : CW G (d + 4) jX9_hearsIt [.ref 59, .int x, .int z, .int y] (HH M) Q := by
  have wa := hw.2.2.2.2.2.2.2.1 s hs
  have r0 := Rm.refl hr
  refine CW_wp fX9_hearsIt rfl rfl rfl ?_
  refine m_of hn hw s 4 hs (by decide) hz rfl (fun r1 h1 => ?_)
  refine m_whereIs hn p (sF N s 4) hpl wa.2.2.2.2.2.1 hx h1 ?_
  rcases wh_c hw hpl wa.2.2.2.2.2.1 with e | ⟨a, ha, e⟩
  · rw [e]
    exact q0 M r0 (by simp [heS, e])
  · rw [e]
    have e2 : (nI a).toNatClampNeg = a := nI_clamp (by omega)
    have e3 : nI a ≠ -1 := fun z => absurd (z ▸ nI_pos' (show a < 2 ^ 31 by omega)) (by decide)
    refine xelse (nI_pos (by omega)) ?_
    refine m_isHeard hn hw s D hs hD hz hy (fun c2 => ?_) (fun c2 => q0 M r0 (by simp [heS, c2]))
    refine m_reachesOf hn hw hr s hs hz (fun M' hm r2 h2 => ?_)
    have hb := bts31 (arS N s) (show 10 ≤ 30 by decide)
    refine m_has (bts (arS N s) 10) a h2 hb rfl (by omega) (fun c3 => q1 M' hm ?_) (fun c3 => q0 M' hm ?_)
    · rw [tb_bts] at c3
      simp [ha] at c3
      simp [heS, e, e2, e3, c2, c3]
    · rw [tb_bts] at c3
      simp [ha] at c3
      simp [heS, e, e2, c3]
theorem m_isNear (hn : M 60 = N) (hw : Wf N) (hr : SR N M) {x z y v : Int32} (p a l t : Nat) (hpl : p < 6) (ha : a < 10) (hl : l ≤ 9) (ht : t < 24) (hx : x = nI p) (hz : z = nI a) (hy : y = nI l) (hv : v = nI t) (q1 : ∀ M', Rm N M M' → ∀ b, b < 10 → wh N p t = nI b → rc N a (l / 3) b = true → Q (some (.int 1)) (HH M')) (q0 : ∀ M', Rm N M M' → (wh N p t = -1 ∨ ∃ b, b < 10 ∧ wh N p t = nI b ∧ rc N a (l / 3) b = false) → Q (some (.int 0)) (HH M')) : CW G (d + 3) jX9_isNear [.ref 59, .int x, .int z, .int y, .int v] (HH M) Q := by
  have r0 := Rm.refl hr
  refine CW_wp fX9_isNear rfl rfl rfl ?_
  refine m_whereIs hn p t hpl ht hx hv ?_
  rcases wh_c hw hpl ht with e | ⟨b, hb0, e⟩
  · rw [e]
    exact q0 M r0 (Or.inl e)
  · rw [e]
    refine xelse (nI_pos (by omega)) ?_
    refine m_near hn hw hr a (l / 3) ha (by omega) hz (idv hy rfl (by omega) (by decide) (by decide)) (fun M' hm r2 h2 => ?_)
    have hb := bts31 (rc N a (l / 3)) (show 10 ≤ 30 by decide)
    refine m_has (bts (rc N a (l / 3)) 10) b h2 hb rfl (by omega) (fun c3 => q1 M' hm b hb0 e ?_) (fun c3 => q0 M' hm (Or.inr ⟨b, hb0, e, ?_⟩))
    · rw [tb_bts] at c3
      simpa [hb0] using c3
    · rw [tb_bts] at c3
      simpa [hb0] using c3
end MF
