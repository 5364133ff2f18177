/-! Changes of the state: what each leaves as it was. -/
section WC
variable {N N' : Nat → Int32}
theorem vN_e {j : Nat} (h : N' j = N j) : vN N' j = vN N j := by unfold vN; rw [h]
theorem wc1 (h : N' 0 = N 0) (w : Wf N) : N' 0 = nI (vN N' 0) ∧ vN N' 0 < 100 := by rw [vN_e h, h]; exact w.1
theorem sN_e (h : N' 1 = N 1) : sN N' = sN N := vN_e h
theorem wc2 (h : N' 1 = N 1) (w : Wf N) : N' 1 = nI (sN N') ∧ sN N' ≤ 40 := by rw [sN_e h, h]; exact w.2.1
theorem wc3 (h : N' 2 = N 2) (w : Wf N) : N' 2 = nI (vN N' 2) ∧ 1 ≤ vN N' 2 ∧ vN N' 2 ≤ 20 := by rw [vN_e h, h]; exact w.2.2.1
theorem wc4 (h : ∀ j, j < 100 → N' (4 + j) = N (4 + j)) (w : Wf N) : ∀ j, j < 100 → N' (4 + j) = nI (vN N' (4 + j)) ∧ vN N' (4 + j) ≤ 1 := fun j hj => by rw [vN_e (h j hj), h j hj]; exact w.2.2.2.1 j hj
theorem wc5 (h : ∀ a b, a < 10 → b < 10 → N' (104 + 10 * a + b) = N (104 + 10 * a + b)) (w : Wf N) : (∀ a b, a < 10 → b < 10 → N' (104 + 10 * a + b) = nI (vN N' (104 + 10 * a + b)) ∧ vN N' (104 + 10 * a + b) ≤ 1 ∧ vN N' (104 + 10 * a + b) = vN N' (104 + 10 * b + a)) := fun a b ha hb => by
  rw [vN_e (h a b ha hb), vN_e (h b a hb ha), h a b ha hb]; exact w.2.2.2.2.1 a b ha hb
theorem wc6 (h : ∀ a b, a < 10 → b < 10 → N' (104 + 10 * a + b) = N (104 + 10 * a + b)) (w : Wf N) : ∀ a, a < 10 → vN N' (104 + 10 * a + a) = 0 := fun a ha => by rw [vN_e (h a a ha ha)]; exact w.2.2.2.2.2.1 a ha
theorem sF_e (h : ∀ s f, s < 40 → f < 6 → N' (204 + 6 * s + f) = N (204 + 6 * s + f)) {s f : Nat} (hs : s < 40) (hf : f < 6) : sF N' s f = sF N s f := vN_e (h s f hs hf)
theorem wc7 (h1 : N' 1 = N 1) (h : ∀ s f, s < 40 → f < 6 → N' (204 + 6 * s + f) = N (204 + 6 * s + f)) (w : Wf N) : ∀ s, s < sN N' → ∀ f, f < 6 → N' (204 + 6 * s + f) = nI (sF N' s f) := fun s hs f hf => by
  have h40 := w.2.1.2
  rw [sN_e h1] at hs
  rw [sF_e h (by omega) hf, h s f (by omega) hf]; exact w.2.2.2.2.2.2.1 s hs f hf
theorem wc8 (h0 : vN N 0 ≤ vN N' 0) (h1 : N' 1 = N 1) (h : ∀ s f, s < 40 → f < 6 → N' (204 + 6 * s + f) = N (204 + 6 * s + f)) (w : Wf N) : ∀ s, s < sN N' → sF N' s 0 < 7 ∧ sF N' s 1 < 16 ∧ 1 ≤ sF N' s 2 ∧ sF N' s 2 ≤ 9 ∧ sF N' s 3 < 10 ∧ sF N' s 4 < 24 ∧ sF N' s 5 ≤ vN N' 0 := fun s hs => by
  have h40 := w.2.1.2
  rw [sN_e h1] at hs
  have h8 := w.2.2.2.2.2.2.2.1 s hs
  rw [sF_e h (by omega) (by decide), sF_e h (by omega) (by decide), sF_e h (by omega) (by decide), sF_e h (by omega) (by decide), sF_e h (by omega) (by decide), sF_e h (by omega) (by decide)]
  omega
theorem wc9 (h1 : N' 1 = N 1) (h : ∀ s f, s < 40 → f < 6 → N' (204 + 6 * s + f) = N (204 + 6 * s + f)) (w : Wf N) : ∀ s t, s ≤ t → t < sN N' → sF N' s 5 ≤ sF N' t 5 := fun s t hst ht => by
  have h40 := w.2.1.2
  rw [sN_e h1] at ht
  rw [sF_e h (by omega) (by decide), sF_e h (by omega) (by decide)]; exact w.2.2.2.2.2.2.2.2.1 s t hst ht
theorem wc10 (h : ∀ q, q < 144 → N' (444 + q) = N (444 + q)) (w : Wf N) : ∀ q, q < 144 → N' (444 + q) = -1 ∨ ∃ p, p < 10 ∧ N' (444 + q) = nI p := fun q hq => by rw [h q hq]; exact w.2.2.2.2.2.2.2.2.2.1 q hq
theorem wc11 (h1 : N' 1 = N 1) (h : ∀ j, j < 10 → N' (588 + j) = N (588 + j)) (w : Wf N) : ∀ j, j < 10 → N' (588 + j) = -1 ∨ ∃ s, s < sN N' ∧ N' (588 + j) = nI s := fun j hj => by rw [h j hj, sN_e h1]; exact w.2.2.2.2.2.2.2.2.2.2 j hj
theorem wy_e (h : ∀ a b, a < 10 → b < 10 → N' (104 + 10 * a + b) = N (104 + 10 * a + b)) {a b : Nat} (ha : a < 10) (hb : b < 10) : wy N' a b = wy N a b := by unfold wy; rw [vN_e (h a b ha hb)]
theorem rc_e (h : ∀ a b, a < 10 → b < 10 → N' (104 + 10 * a + b) = N (104 + 10 * a + b)) {a : Nat} : ∀ (k q : Nat), q < 10 → (rc N' a k q = true ↔ rc N a k q = true)
  | 0, q, _ => Iff.rfl
  | k + 1, q, hq => by
    rw [rc_s, rc_s, rc_e h k q hq]
    constructor
    · rintro (z | ⟨c, z1, z2, z3⟩)
      · exact Or.inl z
      · exact Or.inr ⟨c, z1, (rc_e h k c z1).mp z2, by rw [← wy_e h z1 hq]; exact z3⟩
    · rintro (z | ⟨c, z1, z2, z3⟩)
      · exact Or.inl z
      · exact Or.inr ⟨c, z1, (rc_e h k c z1).mpr z2, by rw [wy_e h z1 hq]; exact z3⟩
theorem SR.e {M M' : xM} (h : ∀ a b, a < 10 → b < 10 → N' (104 + 10 * a + b) = N (104 + 10 * a + b)) (h59 : M' 59 5 = M 59 5) (h63 : M' 63 = M 63) (hr : SR N M) : SR N' M' := by
  unfold SR at hr ⊢
  rw [h59, h63]
  rcases hr with hr | ⟨h1, h2⟩
  · exact Or.inl hr
  · refine Or.inr ⟨h1, fun i j hi hj => ?_⟩
    obtain ⟨D, d1, d2, d3⟩ := h2 i j hi hj
    exact ⟨D, d1, d2, fun k hk => (d3 k hk).trans (rc_e h k j hj).symm⟩
end WC
section S1
variable {G : xG} {M : xM} {Q : Option Value → xH → Prop}
theorem row_ne {a r : Nat} {f : Nat → Int32} {s : Nat} (h : r ≠ a) : xrow M a f r s = M r s := by rw [xrow_ne h]
theorem wf_rain {N : Nat → Int32} (w : Wf N) (D : Nat) (hD : D < 100) (u : Nat) (hu : u ≤ 1) (v : Int32) (hv : v = nI u) : Wf (upd N (4 + D) v) := by
  have h40 := w.2.1.2
  exact ⟨wc1 (pk_un (by omega)) w, wc2 (pk_un (by omega)) w, wc3 (pk_un (by omega)) w, fun j hj => by
    by_cases z : j = D
    · subst z
      have e : upd N (4 + j) v (4 + j) = nI u := by rw [pk_us]; exact hv
      show upd N (4 + j) v (4 + j) = nI (upd N (4 + j) v (4 + j)).toNatClampNeg ∧ (upd N (4 + j) v (4 + j)).toNatClampNeg ≤ 1
      rw [e, nI_clamp (by omega)]
      exact ⟨rfl, hu⟩
    · have e : upd N (4 + D) v (4 + j) = N (4 + j) := pk_un (by omega)
      show upd N (4 + D) v (4 + j) = nI (upd N (4 + D) v (4 + j)).toNatClampNeg ∧ (upd N (4 + D) v (4 + j)).toNatClampNeg ≤ 1
      rw [e]; exact w.2.2.2.1 j hj, wc5 (fun a b ha hb => (pk_un (by omega))) w, wc6 (fun a b ha hb => (pk_un (by omega))) w, wc7 (pk_un (by omega)) (fun s f hs hf => (pk_un (by omega))) w, wc8 (Nat.le_of_eq (vN_e (pk_un (by omega))).symm) (pk_un (by omega)) (fun s f hs hf => (pk_un (by omega))) w, wc9 (pk_un (by omega)) (fun s f hs hf => (pk_un (by omega))) w, wc10 (fun q hq => (pk_un (by omega))) w, wc11 (pk_un (by omega)) (fun j hj => (pk_un (by omega))) w⟩
theorem pv_rain {N : Nat → Int32} (w : Wf N) (i2 : PV 1 N M) (D : Nat) (hD : D < 100) (u : Nat) (hu : u ≤ 1) (v : Int32) (hv : v = nI u) : PV 1 (upd N (4 + D) v) (xup M 13 D v) := by
  have h40 := w.2.1.2
  exact ⟨i2.1.trans (pk_un (by omega)).symm, i2.2.1.trans (pk_un (by omega)).symm, i2.2.2.1.trans (pk_un (by omega)).symm, i2.2.2.2.1.trans (pk_un (by omega)).symm, fun j hj => by
    show upd (M 13) D v j = upd N (4 + D) v (4 + j)
    by_cases z : j = D
    · subst z; rw [pk_us, pk_us]
    · rw [pk_un z, pk_un (by omega)]; exact i2.2.2.2.2.1 j hj, fun p hp => (i2.2.2.2.2.2.1 p hp).trans (congrArg nI (bts_congr (fun q hq => (wy_e (fun a b ha hb => (pk_un (by omega))) hp hq).symm))), fun s hs f hf => by rw [sN_e (pk_un (by omega))] at hs; exact (row_ne (by omega)).trans ((i2.2.2.2.2.2.2.1 s hs f hf).trans (pk_un (by omega)).symm), fun q hq => (i2.2.2.2.2.2.2.2.1 q hq).trans (pk_un (by omega)).symm, fun j hj => (i2.2.2.2.2.2.2.2.2 j hj).trans (pk_un (by omega)).symm⟩
theorem iv_rain (I : Iv 0 M) (D : Nat) (hD : D < 100) (u : Nat) (hu : u ≤ 1) (v : Int32) (hv : v = nI u) : Iv 0 (xup (xup M 13 D v) 60 (4 + D) v) := by
  obtain ⟨i1, i2, i3, i4, i5, i6, i7, i8⟩ := I
  exact ⟨wf_rain i1 D hD u hu v hv, (pv_rain i1 i2 D hD u hu v hv).up (by decide), (i3.up (by decide)).up (by decide), i4, i5.e (N' := upd (M 60) (4 + D) v) (fun a b ha hb => (pk_un (by omega))) rfl rfl, i6, i7, i8⟩
theorem wf_keep {N : Nat → Int32} (w : Wf N) (u : Nat) (hu : 1 ≤ u ∧ u ≤ 20) (v : Int32) (hv : v = nI u) : Wf (upd N (2) v) := by
  have h40 := w.2.1.2
  exact ⟨wc1 (pk_un (by omega)) w, wc2 (pk_un (by omega)) w, by
    have e : upd N 2 v 2 = nI u := by rw [pk_us]; exact hv
    show upd N 2 v 2 = nI (upd N 2 v 2).toNatClampNeg ∧ 1 ≤ (upd N 2 v 2).toNatClampNeg ∧ (upd N 2 v 2).toNatClampNeg ≤ 20
    rw [e, nI_clamp (by omega)]
    exact ⟨rfl, hu⟩, wc4 (fun j hj => (pk_un (by omega))) w, wc5 (fun a b ha hb => (pk_un (by omega))) w, wc6 (fun a b ha hb => (pk_un (by omega))) w, wc7 (pk_un (by omega)) (fun s f hs hf => (pk_un (by omega))) w, wc8 (Nat.le_of_eq (vN_e (pk_un (by omega))).symm) (pk_un (by omega)) (fun s f hs hf => (pk_un (by omega))) w, wc9 (pk_un (by omega)) (fun s f hs hf => (pk_un (by omega))) w, wc10 (fun q hq => (pk_un (by omega))) w, wc11 (pk_un (by omega)) (fun j hj => (pk_un (by omega))) w⟩
theorem pv_keep {N : Nat → Int32} (w : Wf N) (i2 : PV 1 N M) (u : Nat) (hu : 1 ≤ u ∧ u ≤ 20) (v : Int32) (hv : v = nI u) : PV 1 (upd N (2) v) (xup M 1 6 v) := by
  have h40 := w.2.1.2
  exact ⟨i2.1.trans (pk_un (by omega)).symm, i2.2.1.trans (pk_un (by omega)).symm, rfl, i2.2.2.2.1.trans (pk_un (by omega)).symm, fun j hj => (i2.2.2.2.2.1 j hj).trans (pk_un (by omega)).symm, fun p hp => (i2.2.2.2.2.2.1 p hp).trans (congrArg nI (bts_congr (fun q hq => (wy_e (fun a b ha hb => (pk_un (by omega))) hp hq).symm))), fun s hs f hf => by rw [sN_e (pk_un (by omega))] at hs; exact (row_ne (by omega)).trans ((i2.2.2.2.2.2.2.1 s hs f hf).trans (pk_un (by omega)).symm), fun q hq => (i2.2.2.2.2.2.2.2.1 q hq).trans (pk_un (by omega)).symm, fun j hj => (i2.2.2.2.2.2.2.2.2 j hj).trans (pk_un (by omega)).symm⟩
theorem iv_keep (I : Iv 0 M) (u : Nat) (hu : 1 ≤ u ∧ u ≤ 20) (v : Int32) (hv : v = nI u) : Iv 0 (xup (xup M 1 6 v) 60 (2) v) := by
  obtain ⟨i1, i2, i3, i4, i5, i6, i7, i8⟩ := I
  exact ⟨wf_keep i1 u hu v hv, (pv_keep i1 i2 u hu v hv).up (by decide), (i3.up (by decide)).up (by decide), i4, i5.e (N' := upd (M 60) (2) v) (fun a b ha hb => (pk_un (by omega))) rfl rfl, i6, i7, i8⟩
theorem wf_seed {N : Nat → Int32} (w : Wf N) (v : Int32) : Wf (upd N (3) v) := by
  have h40 := w.2.1.2
  exact ⟨wc1 (pk_un (by omega)) w, wc2 (pk_un (by omega)) w, wc3 (pk_un (by omega)) w, wc4 (fun j hj => (pk_un (by omega))) w, wc5 (fun a b ha hb => (pk_un (by omega))) w, wc6 (fun a b ha hb => (pk_un (by omega))) w, wc7 (pk_un (by omega)) (fun s f hs hf => (pk_un (by omega))) w, wc8 (Nat.le_of_eq (vN_e (pk_un (by omega))).symm) (pk_un (by omega)) (fun s f hs hf => (pk_un (by omega))) w, wc9 (pk_un (by omega)) (fun s f hs hf => (pk_un (by omega))) w, wc10 (fun q hq => (pk_un (by omega))) w, wc11 (pk_un (by omega)) (fun j hj => (pk_un (by omega))) w⟩
theorem pv_seed {N : Nat → Int32} (w : Wf N) (i2 : PV 1 N M) (v : Int32) : PV 1 (upd N (3) v) (xup M 1 7 v) := by
  have h40 := w.2.1.2
  exact ⟨i2.1.trans (pk_un (by omega)).symm, i2.2.1.trans (pk_un (by omega)).symm, i2.2.2.1.trans (pk_un (by omega)).symm, rfl, fun j hj => (i2.2.2.2.2.1 j hj).trans (pk_un (by omega)).symm, fun p hp => (i2.2.2.2.2.2.1 p hp).trans (congrArg nI (bts_congr (fun q hq => (wy_e (fun a b ha hb => (pk_un (by omega))) hp hq).symm))), fun s hs f hf => by rw [sN_e (pk_un (by omega))] at hs; exact (row_ne (by omega)).trans ((i2.2.2.2.2.2.2.1 s hs f hf).trans (pk_un (by omega)).symm), fun q hq => (i2.2.2.2.2.2.2.2.1 q hq).trans (pk_un (by omega)).symm, fun j hj => (i2.2.2.2.2.2.2.2.2 j hj).trans (pk_un (by omega)).symm⟩
theorem iv_seed (I : Iv 0 M) (v : Int32) : Iv 0 (xup (xup M 1 7 v) 60 (3) v) := by
  obtain ⟨i1, i2, i3, i4, i5, i6, i7, i8⟩ := I
  exact ⟨wf_seed i1 v, (pv_seed i1 i2 v).up (by decide), (i3.up (by decide)).up (by decide), i4, i5.e (N' := upd (M 60) (3) v) (fun a b ha hb => (pk_un (by omega))) rfl rfl, i6, i7, i8⟩
theorem wf_days {N : Nat → Int32} (w : Wf N) (u : Nat) (hu : u < 100) (hge : vN N 0 ≤ u) (v : Int32) (hv : v = nI u) : Wf (upd N (0) v) := by
  have h40 := w.2.1.2
  exact ⟨by
    have e : upd N 0 v 0 = nI u := by rw [pk_us]; exact hv
    show upd N 0 v 0 = nI (upd N 0 v 0).toNatClampNeg ∧ (upd N 0 v 0).toNatClampNeg < 100
    rw [e, nI_clamp (by omega)]
    exact ⟨rfl, hu⟩, wc2 (pk_un (by omega)) w, wc3 (pk_un (by omega)) w, wc4 (fun j hj => (pk_un (by omega))) w, wc5 (fun a b ha hb => (pk_un (by omega))) w, wc6 (fun a b ha hb => (pk_un (by omega))) w, wc7 (pk_un (by omega)) (fun s f hs hf => (pk_un (by omega))) w, wc8 (by
    have e : upd N 0 v 0 = nI u := by rw [pk_us]; exact hv
    show vN N 0 ≤ (upd N 0 v 0).toNatClampNeg
    rw [e, nI_clamp (by omega)]
    exact hge) (pk_un (by omega)) (fun s f hs hf => (pk_un (by omega))) w, wc9 (pk_un (by omega)) (fun s f hs hf => (pk_un (by omega))) w, wc10 (fun q hq => (pk_un (by omega))) w, wc11 (pk_un (by omega)) (fun j hj => (pk_un (by omega))) w⟩
theorem pv_days {N : Nat → Int32} (w : Wf N) (i2 : PV 1 N M) (u : Nat) (hu : u < 100) (hge : vN N 0 ≤ u) (v : Int32) (hv : v = nI u) : PV 1 (upd N (0) v) (xup M 1 5 v) := by
  have h40 := w.2.1.2
  exact ⟨rfl, i2.2.1.trans (pk_un (by omega)).symm, i2.2.2.1.trans (pk_un (by omega)).symm, i2.2.2.2.1.trans (pk_un (by omega)).symm, fun j hj => (i2.2.2.2.2.1 j hj).trans (pk_un (by omega)).symm, fun p hp => (i2.2.2.2.2.2.1 p hp).trans (congrArg nI (bts_congr (fun q hq => (wy_e (fun a b ha hb => (pk_un (by omega))) hp hq).symm))), fun s hs f hf => by rw [sN_e (pk_un (by omega))] at hs; exact (row_ne (by omega)).trans ((i2.2.2.2.2.2.2.1 s hs f hf).trans (pk_un (by omega)).symm), fun q hq => (i2.2.2.2.2.2.2.2.1 q hq).trans (pk_un (by omega)).symm, fun j hj => (i2.2.2.2.2.2.2.2.2 j hj).trans (pk_un (by omega)).symm⟩
theorem iv_days (I : Iv 0 M) (u : Nat) (hu : u < 100) (hge : vN (M 60) 0 ≤ u) (v : Int32) (hv : v = nI u) : Iv 0 (xup (xup M 1 5 v) 60 (0) v) := by
  obtain ⟨i1, i2, i3, i4, i5, i6, i7, i8⟩ := I
  exact ⟨wf_days i1 u hu hge v hv, (pv_days i1 i2 u hu hge v hv).up (by decide), (i3.up (by decide)).up (by decide), i4, i5.e (N' := upd (M 60) (0) v) (fun a b ha hb => (pk_un (by omega))) rfl rfl, i6, i7, i8⟩
theorem wf_hold {N : Nat → Int32} (w : Wf N) (j0 : Nat) (hj0 : j0 < 10) (v : Int32) (hv : v = -1 ∨ ∃ s, s < sN N ∧ v = nI s) : Wf (upd N (588 + j0) v) := by
  have h40 := w.2.1.2
  exact ⟨wc1 (pk_un (by omega)) w, wc2 (pk_un (by omega)) w, wc3 (pk_un (by omega)) w, wc4 (fun j hj => (pk_un (by omega))) w, wc5 (fun a b ha hb => (pk_un (by omega))) w, wc6 (fun a b ha hb => (pk_un (by omega))) w, wc7 (pk_un (by omega)) (fun s f hs hf => (pk_un (by omega))) w, wc8 (Nat.le_of_eq (vN_e (pk_un (by omega))).symm) (pk_un (by omega)) (fun s f hs hf => (pk_un (by omega))) w, wc9 (pk_un (by omega)) (fun s f hs hf => (pk_un (by omega))) w, wc10 (fun q hq => (pk_un (by omega))) w, fun j hj => by
    have es : sN (upd N (588 + j0) v) = sN N := sN_e (pk_un (by omega))
    rw [es]
    by_cases z : j = j0
    · subst z; rw [pk_us]; exact hv
    · rw [pk_un (by omega)]; exact w.2.2.2.2.2.2.2.2.2.2 j hj⟩
theorem pv_hold {N : Nat → Int32} (w : Wf N) (i2 : PV 1 N M) (j0 : Nat) (hj0 : j0 < 10) (v : Int32) (hv : v = -1 ∨ ∃ s, s < sN N ∧ v = nI s) : PV 1 (upd N (588 + j0) v) (xup M 14 j0 v) := by
  have h40 := w.2.1.2
  exact ⟨i2.1.trans (pk_un (by omega)).symm, i2.2.1.trans (pk_un (by omega)).symm, i2.2.2.1.trans (pk_un (by omega)).symm, i2.2.2.2.1.trans (pk_un (by omega)).symm, fun j hj => (i2.2.2.2.2.1 j hj).trans (pk_un (by omega)).symm, fun p hp => (i2.2.2.2.2.2.1 p hp).trans (congrArg nI (bts_congr (fun q hq => (wy_e (fun a b ha hb => (pk_un (by omega))) hp hq).symm))), fun s hs f hf => by rw [sN_e (pk_un (by omega))] at hs; exact (row_ne (by omega)).trans ((i2.2.2.2.2.2.2.1 s hs f hf).trans (pk_un (by omega)).symm), fun q hq => (i2.2.2.2.2.2.2.2.1 q hq).trans (pk_un (by omega)).symm, fun j hj => by
    show upd (M 14) j0 v j = upd N (588 + j0) v (588 + j)
    by_cases z : j = j0
    · subst z; rw [pk_us, pk_us]
    · rw [pk_un z, pk_un (by omega)]; exact i2.2.2.2.2.2.2.2.2 j hj⟩
theorem iv_hold (I : Iv 0 M) (j0 : Nat) (hj0 : j0 < 10) (v : Int32) (hv : v = -1 ∨ ∃ s, s < sN (M 60) ∧ v = nI s) : Iv 0 (xup (xup M 14 j0 v) 60 (588 + j0) v) := by
  obtain ⟨i1, i2, i3, i4, i5, i6, i7, i8⟩ := I
  exact ⟨wf_hold i1 j0 hj0 v hv, (pv_hold i1 i2 j0 hj0 v hv).up (by decide), (i3.up (by decide)).up (by decide), i4, i5.e (N' := upd (M 60) (588 + j0) v) (fun a b ha hb => (pk_un (by omega))) rfl rfl, i6, i7, i8⟩
theorem wf_turn {N : Nat → Int32} (w : Wf N) (s0 : Nat) (hs0 : s0 < sN N) (u : Nat) (hu : u < 7) (v : Int32) (hv : v = nI u) : Wf (upd N (204 + 6 * s0 + 0) v) := by
  have h40 := w.2.1.2
  have es : sN (upd N (204 + 6 * s0 + 0) v) = sN N := sN_e (pk_un (by omega))
  have e0 : vN (upd N (204 + 6 * s0 + 0) v) 0 = vN N 0 := vN_e (pk_un (by omega))
  have eF : ∀ s f, s < 40 → f < 6 → sF (upd N (204 + 6 * s0 + 0) v) s f = if s = s0 ∧ f = 0 then u else sF N s f := fun s f hs hf => by
    by_cases z : s = s0 ∧ f = 0
    · rw [if_pos z]
      obtain ⟨rfl, rfl⟩ := z
      show (upd N (204 + 6 * s + 0) v (204 + 6 * s + 0)).toNatClampNeg = u
      rw [pk_us, hv, nI_clamp (by omega)]
    · rw [if_neg z]
      exact vN_e (pk_un (by omega))
  exact ⟨wc1 (pk_un (by omega)) w, wc2 (pk_un (by omega)) w, wc3 (pk_un (by omega)) w, wc4 (fun j hj => (pk_un (by omega))) w, wc5 (fun a b ha hb => (pk_un (by omega))) w, wc6 (fun a b ha hb => (pk_un (by omega))) w, fun s hs f hf => by
    rw [es] at hs
    rw [eF s f (by omega) hf]
    by_cases z : s = s0 ∧ f = 0
    · rw [if_pos z]
      obtain ⟨rfl, rfl⟩ := z
      rw [pk_us]; exact hv
    · rw [if_neg z, pk_un (by omega)]; exact w.2.2.2.2.2.2.1 s hs f hf, fun s hs => by
    rw [es] at hs
    have h8 := w.2.2.2.2.2.2.2.1 s hs
    rw [eF s 0 (by omega) (by decide), eF s 1 (by omega) (by decide), eF s 2 (by omega) (by decide), eF s 3 (by omega) (by decide), eF s 4 (by omega) (by decide), eF s 5 (by omega) (by decide), e0, if_neg (show ¬ (s = s0 ∧ 1 = 0) by omega), if_neg (show ¬ (s = s0 ∧ 2 = 0) by omega), if_neg (show ¬ (s = s0 ∧ 3 = 0) by omega), if_neg (show ¬ (s = s0 ∧ 4 = 0) by omega), if_neg (show ¬ (s = s0 ∧ 5 = 0) by omega)]
    refine ⟨?_, h8.2⟩
    split
    · exact hu
    · exact h8.1, fun s t hst ht => by
    rw [es] at ht
    rw [eF s 5 (by omega) (by decide), eF t 5 (by omega) (by decide), if_neg (show ¬ (s = s0 ∧ 5 = 0) by omega), if_neg (show ¬ (t = s0 ∧ 5 = 0) by omega)]
    exact w.2.2.2.2.2.2.2.2.1 s t hst ht, wc10 (fun q hq => (pk_un (by omega))) w, wc11 (pk_un (by omega)) (fun j hj => (pk_un (by omega))) w⟩
theorem pv_turn {N : Nat → Int32} (w : Wf N) (i2 : PV 1 N M) (s0 : Nat) (hs0 : s0 < sN N) (u : Nat) (hu : u < 7) (v : Int32) (hv : v = nI u) : PV 1 (upd N (204 + 6 * s0 + 0) v) (xup M 5 s0 v) := by
  have h40 := w.2.1.2
  have es : sN (upd N (204 + 6 * s0 + 0) v) = sN N := sN_e (pk_un (by omega))
  have e0 : vN (upd N (204 + 6 * s0 + 0) v) 0 = vN N 0 := vN_e (pk_un (by omega))
  have eF : ∀ s f, s < 40 → f < 6 → sF (upd N (204 + 6 * s0 + 0) v) s f = if s = s0 ∧ f = 0 then u else sF N s f := fun s f hs hf => by
    by_cases z : s = s0 ∧ f = 0
    · rw [if_pos z]
      obtain ⟨rfl, rfl⟩ := z
      show (upd N (204 + 6 * s + 0) v (204 + 6 * s + 0)).toNatClampNeg = u
      rw [pk_us, hv, nI_clamp (by omega)]
    · rw [if_neg z]
      exact vN_e (pk_un (by omega))
  exact ⟨i2.1.trans (pk_un (by omega)).symm, i2.2.1.trans (pk_un (by omega)).symm, i2.2.2.1.trans (pk_un (by omega)).symm, i2.2.2.2.1.trans (pk_un (by omega)).symm, fun j hj => (i2.2.2.2.2.1 j hj).trans (pk_un (by omega)).symm, fun p hp => (i2.2.2.2.2.2.1 p hp).trans (congrArg nI (bts_congr (fun q hq => (wy_e (fun a b ha hb => (pk_un (by omega))) hp hq).symm))), fun s hs f hf => by
    rw [es] at hs
    have hr := i2.2.2.2.2.2.2.1 s hs f hf
    by_cases z : s = s0 ∧ f = 0
    · obtain ⟨rfl, rfl⟩ := z
      rw [pk_us]
      exact pk_us
    · rw [pk_un (show 204 + 6 * s + f ≠ 204 + 6 * s0 + 0 by omega), ← hr]
      by_cases z2 : f = 0
      · subst z2
        exact pk_un (by omega)
      · exact row_ne (by omega), fun q hq => (i2.2.2.2.2.2.2.2.1 q hq).trans (pk_un (by omega)).symm, fun j hj => (i2.2.2.2.2.2.2.2.2 j hj).trans (pk_un (by omega)).symm⟩
theorem iv_turn (I : Iv 0 M) (s0 : Nat) (hs0 : s0 < sN (M 60)) (u : Nat) (hu : u < 7) (v : Int32) (hv : v = nI u) : Iv 0 (xup (xup M 5 s0 v) 60 (204 + 6 * s0 + 0) v) := by
  obtain ⟨i1, i2, i3, i4, i5, i6, i7, i8⟩ := I
  exact ⟨wf_turn i1 s0 hs0 u hu v hv, (pv_turn i1 i2 s0 hs0 u hu v hv).up (by decide), (i3.up (by decide)).up (by decide), i4, i5.e (N' := upd (M 60) (204 + 6 * s0 + 0) v) (fun a b ha hb => (pk_un (by omega))) rfl rfl, i6, i7, i8⟩
end S1
