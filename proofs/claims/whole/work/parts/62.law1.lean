/-! The beginning: the invariant of new objects. -/
def mk0 (f1 g1 f2 g2 f3 g3 f : Nat → Int32) : xM := xrow (vlM (vlM (vlM (fun _ _ => 0) 1 f1 g1) 15 f2 g2) 29 f3 g3) 60 f
theorem iv_init (f1 g1 f2 g2 f3 g3 f : Nat → Int32) (hf1 : ∀ j, j < 144 → f1 j = -1) (hg1 : ∀ j, j < 10 → g1 j = -1) (h0 : f 0 = 0) (h1 : f 1 = 0) (h2 : f 2 = 9) (h3 : f 3 = 1) (h4 : ∀ j, 4 ≤ j → j < 444 → f j = 0) (h5 : ∀ j, j < 144 → f (444 + j) = -1) (h6 : ∀ j, j < 10 → f (588 + j) = -1) : Iv 0 (mk0 f1 g1 f2 g2 f3 g3 f) := by
  have v0 : ∀ j, f j = 0 → vN f j = 0 := fun j h => by unfold vN; rw [h]; rfl
  have es : sN f = 0 := v0 1 h1
  have e2 : vN f 2 = 9 := by unfold vN; rw [h2]; rfl
  have hwy : ∀ p q, p < 10 → q < 10 → wy f p q = false := fun p q hp hq => by
    unfold wy
    rw [v0 _ (h4 _ (by omega) (by omega))]
    rfl
  refine ⟨⟨⟨?_, ?_⟩, ⟨?_, ?_⟩, ⟨?_, ?_, ?_⟩, fun j hj => ?_, fun a b ha hb => ?_, fun a ha => ?_, fun s hs => ?_, fun s hs => ?_, fun s t _ ht => ?_, fun q hq => Or.inl (h5 q hq), fun j hj => Or.inl (h6 j hj)⟩, ⟨h0.symm, h1.symm, h2.symm, h3.symm, fun j hj => (h4 _ (by omega) (by omega)).symm, fun p hp => ?_, fun s hs => ?_, fun q hq => (hf1 q hq).trans (h5 q hq).symm, fun j hj => (hg1 j hj).trans (h6 j hj).symm⟩, Or.inl ⟨rfl, rfl⟩, ⟨fun i hi => ?_, rfl⟩, Or.inl rfl, ⟨0, by decide, rfl, rfl, fun i hi => absurd hi (Nat.not_lt_zero _)⟩, ⟨0, by decide, rfl, rfl, fun i hi => absurd hi (Nat.not_lt_zero _)⟩, ⟨0, 0, Or.inl rfl, by decide, rfl, rfl, rfl, rfl, fun k _ => rfl⟩, ⟨0, 0, Or.inl rfl, by decide, rfl, rfl, rfl, rfl, fun k _ => rfl⟩, ⟨0, 0, Or.inl rfl, by decide, rfl, rfl, rfl, rfl, fun k _ => rfl⟩, ⟨0, 0, Or.inl rfl, by decide, rfl, rfl, rfl, rfl, fun k _ => rfl⟩⟩
  · show f 0 = nI (vN f 0)
    rw [v0 0 h0, h0]; rfl
  · show vN f 0 < 100
    rw [v0 0 h0]; decide
  · show f 1 = nI (sN f)
    rw [es, h1]; rfl
  · show sN f ≤ 40
    rw [es]; decide
  · show f 2 = nI (vN f 2)
    rw [e2, h2]; rfl
  · show 1 ≤ vN f 2
    rw [e2]; decide
  · show vN f 2 ≤ 20
    rw [e2]; decide
  · show f (4 + j) = nI (vN f (4 + j)) ∧ vN f (4 + j) ≤ 1
    rw [v0 _ (h4 _ (by omega) (by omega)), h4 _ (by omega) (by omega)]
    exact ⟨rfl, by decide⟩
  · show f (104 + 10 * a + b) = nI (vN f (104 + 10 * a + b)) ∧ vN f (104 + 10 * a + b) ≤ 1 ∧ vN f (104 + 10 * a + b) = vN f (104 + 10 * b + a)
    rw [v0 _ (h4 _ (by omega) (by omega)), v0 _ (h4 (104 + 10 * b + a) (by omega) (by omega)), h4 _ (by omega) (by omega)]
    exact ⟨rfl, by decide, rfl⟩
  · show vN f (104 + 10 * a + a) = 0
    exact v0 _ (h4 _ (by omega) (by omega))
  · have hs : s < sN f := hs
    omega
  · have hs : s < sN f := hs
    omega
  · have ht : t < sN f := ht
    omega
  · show (0 : Int32) = nI (bts (wy f p) 10)
    rw [bts_congr (P' := fun _ => false) (fun q hq => hwy p q hp hq), bts_0]
    rfl
  · have hs : s < sN f := hs
    omega
  · show (0 : Int32) = 0 + (if 0 = i + 1 then 1 else 0)
    rw [if_neg (by omega)]
    rfl
theorem xtb_at {x : Int32} {jp : Nat → Prop} {pc : Nat} : ∀ (offs : List Int) (lo : Int) (k : Nat) (o : Int), x.toInt = lo + k → offs[k]? = some o → jp ((pc : Int) + o).toNat → xtab x jp pc lo offs
  | [], _, _, _, _, h, _ => by simp at h
  | o' :: os, lo, 0, o, hx, h, hj => by
    have e : o' = o := by simpa using h
    subst e
    rw [xtab, if_pos (by simpa using hx)]
    exact hj
  | o' :: os, lo, k + 1, o, hx, h, hj => by
    rw [xtab, if_neg (by omega)]
    exact xtb_at os (lo + 1) k o (by omega) (by simpa using h) hj
section LW
variable {G : xG} {LE : Nat → xL → List Value → xH → Nat → Nat → Prop} {M : xM} {i : Nat}
theorem lw_ex (hG : gN G ≤ 3072) (hi : i ≤ 3100) : (nI (gN G) - 6 < nI i) ↔ ¬ i + 6 ≤ gN G := by
  rw [Int32.lt_iff_toInt_lt, show (6 : Int32) = nI 6 from rfl, pk_sub_toInt (by omega) (by decide), nI_toInt (by omega)]
  omega
set_option maxRecDepth 20000 in
theorem lw_0 (hG : gN G ≤ 3072) (hi : i + 6 ≤ gN G) (I : Iv 0 M) (hk : gX G i &&& 63 = nI 0) (nx : ∀ M2, Iv 0 M2 → LE 18 [some (.ref 1000), some (.ref 0), some (.ref 59), some (.int (nI i + 6))] [] (HH M2) 73 5035) : wpI (xX (gN G) (gX G)) (CW G 11) xal 600000 7302250 2 (fun w _ => w = some (.int 1)) LE kL_law 400 true (xseek 18 kL_law) [some (.ref 1000), some (.ref 0), some (.ref 59), some (.int (nI i))] [] (HH M) 73 5035 := by
  refine xelse (fun z => absurd hi ((lw_ex hG (by omega)).mp z)) ?_
  refine xix (n := gN G) i rfl (by omega) (by omega) (fun e => ?_)
  refine xelse (by rw [e, hk]; decide) ?_
  refine xtb_at _ 0 0 203 (by rw [e, hk]; decide) rfl ?_
  refine xix (n := gN G) (i + 1) (ia rfl rfl) (by omega) (by omega) (fun _ => ?_)
  refine xix (n := gN G) (i + 2) (ia rfl rfl) (by omega) (by omega) (fun _ => ?_)
  refine xix (n := gN G) (i + 3) (ia rfl rfl) (by omega) (by omega) (fun _ => ?_)
  refine xite (fun c => ?_) (fun c => ?_)
  · refine st_way I _ _ 0 (Or.inl rfl) (fun r M1 aft => ?_)
    refine xix (n := gN G) (i + 1) (ia rfl rfl) (by omega) (by omega) (fun _ => ?_)
    refine xix (n := gN G) (i + 2) (ia rfl rfl) (by omega) (by omega) (fun _ => ?_)
    refine xix (n := gN G) (i + 3) (ia rfl rfl) (by omega) (by omega) (fun _ => ?_)
    refine xif c ?_
    refine aft _ (fun M2 I2 => ?_)
    refine xif rfl ?_
    exact nx M2 I2
  · refine st_way I _ _ 1 (Or.inr rfl) (fun r M1 aft => ?_)
    refine xix (n := gN G) (i + 1) (ia rfl rfl) (by omega) (by omega) (fun _ => ?_)
    refine xix (n := gN G) (i + 2) (ia rfl rfl) (by omega) (by omega) (fun _ => ?_)
    refine xix (n := gN G) (i + 3) (ia rfl rfl) (by omega) (by omega) (fun _ => ?_)
    refine xelse c ?_
    refine aft _ (fun M2 I2 => ?_)
    refine xif rfl ?_
    exact nx M2 I2
set_option maxRecDepth 20000 in
theorem lw_1 (hG : gN G ≤ 3072) (hi : i + 6 ≤ gN G) (I : Iv 0 M) (hk : gX G i &&& 63 = nI 1) (nx : ∀ M2, Iv 0 M2 → LE 18 [some (.ref 1000), some (.ref 0), some (.ref 59), some (.int (nI i + 6))] [] (HH M2) 73 5035) : wpI (xX (gN G) (gX G)) (CW G 11) xal 600000 7302250 2 (fun w _ => w = some (.int 1)) LE kL_law 400 true (xseek 18 kL_law) [some (.ref 1000), some (.ref 0), some (.ref 59), some (.int (nI i))] [] (HH M) 73 5035 := by
  refine xelse (fun z => absurd hi ((lw_ex hG (by omega)).mp z)) ?_
  refine xix (n := gN G) i rfl (by omega) (by omega) (fun e => ?_)
  refine xelse (by rw [e, hk]; decide) ?_
  refine xtb_at _ 0 1 262 (by rw [e, hk]; decide) rfl ?_
  refine xix (n := gN G) (i + 1) (ia rfl rfl) (by omega) (by omega) (fun _ => ?_)
  refine xix (n := gN G) (i + 2) (ia rfl rfl) (by omega) (by omega) (fun _ => ?_)
  refine st_steps I _ _ (fun r M1 aft => ?_)
  refine xix (n := gN G) (i + 1) (ia rfl rfl) (by omega) (by omega) (fun _ => ?_)
  refine xix (n := gN G) (i + 2) (ia rfl rfl) (by omega) (by omega) (fun _ => ?_)
  refine aft _ (fun M2 I2 => ?_)
  refine xif rfl ?_
  exact nx M2 I2
set_option maxRecDepth 20000 in
theorem lw_2 (hG : gN G ≤ 3072) (hi : i + 6 ≤ gN G) (I : Iv 0 M) (hk : gX G i &&& 63 = nI 2) (nx : ∀ M2, Iv 0 M2 → LE 18 [some (.ref 1000), some (.ref 0), some (.ref 59), some (.int (nI i + 6))] [] (HH M2) 73 5035) : wpI (xX (gN G) (gX G)) (CW G 11) xal 600000 7302250 2 (fun w _ => w = some (.int 1)) LE kL_law 400 true (xseek 18 kL_law) [some (.ref 1000), some (.ref 0), some (.ref 59), some (.int (nI i))] [] (HH M) 73 5035 := by
  refine xelse (fun z => absurd hi ((lw_ex hG (by omega)).mp z)) ?_
  refine xix (n := gN G) i rfl (by omega) (by omega) (fun e => ?_)
  refine xelse (by rw [e, hk]; decide) ?_
  refine xtb_at _ 0 2 295 (by rw [e, hk]; decide) rfl ?_
  refine xix (n := gN G) (i + 1) (ia rfl rfl) (by omega) (by omega) (fun _ => ?_)
  refine st_days I _ (fun r M1 aft => ?_)
  refine xix (n := gN G) (i + 1) (ia rfl rfl) (by omega) (by omega) (fun _ => ?_)
  refine aft _ (fun M2 I2 => ?_)
  refine xif rfl ?_
  exact nx M2 I2
set_option maxRecDepth 20000 in
theorem lw_3 (hG : gN G ≤ 3072) (hi : i + 6 ≤ gN G) (I : Iv 0 M) (hk : gX G i &&& 63 = nI 3) (nx : ∀ M2, Iv 0 M2 → LE 18 [some (.ref 1000), some (.ref 0), some (.ref 59), some (.int (nI i + 6))] [] (HH M2) 73 5035) : wpI (xX (gN G) (gX G)) (CW G 11) xal 600000 7302250 2 (fun w _ => w = some (.int 1)) LE kL_law 400 true (xseek 18 kL_law) [some (.ref 1000), some (.ref 0), some (.ref 59), some (.int (nI i))] [] (HH M) 73 5035 := by
  refine xelse (fun z => absurd hi ((lw_ex hG (by omega)).mp z)) ?_
  refine xix (n := gN G) i rfl (by omega) (by omega) (fun e => ?_)
  refine xelse (by rw [e, hk]; decide) ?_
  refine xtb_at _ 0 3 318 (by rw [e, hk]; decide) rfl ?_
  refine xix (n := gN G) (i + 1) (ia rfl rfl) (by omega) (by omega) (fun _ => ?_)
  refine xix (n := gN G) (i + 2) (ia rfl rfl) (by omega) (by omega) (fun _ => ?_)
  refine xite (fun c => ?_) (fun c => ?_)
  · refine st_rain I _ 0 (Or.inl rfl) (fun r M1 aft => ?_)
    refine xix (n := gN G) (i + 1) (ia rfl rfl) (by omega) (by omega) (fun _ => ?_)
    refine xix (n := gN G) (i + 2) (ia rfl rfl) (by omega) (by omega) (fun _ => ?_)
    refine xif c ?_
    refine aft _ (fun M2 I2 => ?_)
    refine xif rfl ?_
    exact nx M2 I2
  · refine st_rain I _ 1 (Or.inr rfl) (fun r M1 aft => ?_)
    refine xix (n := gN G) (i + 1) (ia rfl rfl) (by omega) (by omega) (fun _ => ?_)
    refine xix (n := gN G) (i + 2) (ia rfl rfl) (by omega) (by omega) (fun _ => ?_)
    refine xelse c ?_
    refine aft _ (fun M2 I2 => ?_)
    refine xif rfl ?_
    exact nx M2 I2
set_option maxRecDepth 20000 in
theorem lw_4 (hG : gN G ≤ 3072) (hi : i + 6 ≤ gN G) (I : Iv 0 M) (hk : gX G i &&& 63 = nI 4) (nx : ∀ M2, Iv 0 M2 → LE 18 [some (.ref 1000), some (.ref 0), some (.ref 59), some (.int (nI i + 6))] [] (HH M2) 73 5035) : wpI (xX (gN G) (gX G)) (CW G 11) xal 600000 7302250 2 (fun w _ => w = some (.int 1)) LE kL_law 400 true (xseek 18 kL_law) [some (.ref 1000), some (.ref 0), some (.ref 59), some (.int (nI i))] [] (HH M) 73 5035 := by
  refine xelse (fun z => absurd hi ((lw_ex hG (by omega)).mp z)) ?_
  refine xix (n := gN G) i rfl (by omega) (by omega) (fun e => ?_)
  refine xelse (by rw [e, hk]; decide) ?_
  refine xtb_at _ 0 4 367 (by rw [e, hk]; decide) rfl ?_
  refine xix (n := gN G) (i + 1) (ia rfl rfl) (by omega) (by omega) (fun _ => ?_)
  refine xix (n := gN G) (i + 2) (ia rfl rfl) (by omega) (by omega) (fun _ => ?_)
  refine xix (n := gN G) (i + 3) (ia rfl rfl) (by omega) (by omega) (fun _ => ?_)
  refine st_weather I _ _ _ (fun r M1 aft => ?_)
  refine xix (n := gN G) (i + 1) (ia rfl rfl) (by omega) (by omega) (fun _ => ?_)
  refine xix (n := gN G) (i + 2) (ia rfl rfl) (by omega) (by omega) (fun _ => ?_)
  refine xix (n := gN G) (i + 3) (ia rfl rfl) (by omega) (by omega) (fun _ => ?_)
  refine aft _ (fun M2 I2 => ?_)
  refine xif rfl ?_
  exact nx M2 I2
set_option maxRecDepth 20000 in
theorem lw_5 (hG : gN G ≤ 3072) (hi : i + 6 ≤ gN G) (I : Iv 0 M) (hk : gX G i &&& 63 = nI 5) (nx : ∀ M2, Iv 0 M2 → LE 18 [some (.ref 1000), some (.ref 0), some (.ref 59), some (.int (nI i + 6))] [] (HH M2) 73 5035) : wpI (xX (gN G) (gX G)) (CW G 11) xal 600000 7302250 2 (fun w _ => w = some (.int 1)) LE kL_law 400 true (xseek 18 kL_law) [some (.ref 1000), some (.ref 0), some (.ref 59), some (.int (nI i))] [] (HH M) 73 5035 := by
  refine xelse (fun z => absurd hi ((lw_ex hG (by omega)).mp z)) ?_
  refine xix (n := gN G) i rfl (by omega) (by omega) (fun e => ?_)
  refine xelse (by rw [e, hk]; decide) ?_
  refine xtb_at _ 0 5 410 (by rw [e, hk]; decide) rfl ?_
  refine xix (n := gN G) (i + 1) (ia rfl rfl) (by omega) (by omega) (fun _ => ?_)
  refine st_keep I _ (fun r M1 aft => ?_)
  refine xix (n := gN G) (i + 1) (ia rfl rfl) (by omega) (by omega) (fun _ => ?_)
  refine aft _ (fun M2 I2 => ?_)
  refine xif rfl ?_
  exact nx M2 I2
set_option maxRecDepth 20000 in
theorem lw_6 (hG : gN G ≤ 3072) (hi : i + 6 ≤ gN G) (I : Iv 0 M) (hk : gX G i &&& 63 = nI 6) (nx : ∀ M2, Iv 0 M2 → LE 18 [some (.ref 1000), some (.ref 0), some (.ref 59), some (.int (nI i + 6))] [] (HH M2) 73 5035) : wpI (xX (gN G) (gX G)) (CW G 11) xal 600000 7302250 2 (fun w _ => w = some (.int 1)) LE kL_law 400 true (xseek 18 kL_law) [some (.ref 1000), some (.ref 0), some (.ref 59), some (.int (nI i))] [] (HH M) 73 5035 := by
  refine xelse (fun z => absurd hi ((lw_ex hG (by omega)).mp z)) ?_
  refine xix (n := gN G) i rfl (by omega) (by omega) (fun e => ?_)
  refine xelse (by rw [e, hk]; decide) ?_
  refine xtb_at _ 0 6 433 (by rw [e, hk]; decide) rfl ?_
  refine xix (n := gN G) (i + 1) (ia rfl rfl) (by omega) (by omega) (fun _ => ?_)
  refine xix (n := gN G) (i + 2) (ia rfl rfl) (by omega) (by omega) (fun _ => ?_)
  refine xix (n := gN G) (i + 3) (ia rfl rfl) (by omega) (by omega) (fun _ => ?_)
  refine xix (n := gN G) (i + 4) (ia rfl rfl) (by omega) (by omega) (fun _ => ?_)
  refine xix (n := gN G) (i + 5) (ia rfl rfl) (by omega) (by omega) (fun _ => ?_)
  refine st_say I _ _ _ _ _ (fun r M1 aft => ?_)
  refine xix (n := gN G) (i + 1) (ia rfl rfl) (by omega) (by omega) (fun _ => ?_)
  refine xix (n := gN G) (i + 2) (ia rfl rfl) (by omega) (by omega) (fun _ => ?_)
  refine xix (n := gN G) (i + 3) (ia rfl rfl) (by omega) (by omega) (fun _ => ?_)
  refine xix (n := gN G) (i + 4) (ia rfl rfl) (by omega) (by omega) (fun _ => ?_)
  refine xix (n := gN G) (i + 5) (ia rfl rfl) (by omega) (by omega) (fun _ => ?_)
  refine aft _ (fun M2 I2 => ?_)
  refine xif rfl ?_
  exact nx M2 I2
set_option maxRecDepth 20000 in
theorem lw_7 (hG : gN G ≤ 3072) (hi : i + 6 ≤ gN G) (I : Iv 0 M) (hk : gX G i &&& 63 = nI 7) (nx : ∀ M2, Iv 0 M2 → LE 18 [some (.ref 1000), some (.ref 0), some (.ref 59), some (.int (nI i + 6))] [] (HH M2) 73 5035) : wpI (xX (gN G) (gX G)) (CW G 11) xal 600000 7302250 2 (fun w _ => w = some (.int 1)) LE kL_law 400 true (xseek 18 kL_law) [some (.ref 1000), some (.ref 0), some (.ref 59), some (.int (nI i))] [] (HH M) 73 5035 := by
  refine xelse (fun z => absurd hi ((lw_ex hG (by omega)).mp z)) ?_
  refine xix (n := gN G) i rfl (by omega) (by omega) (fun e => ?_)
  refine xelse (by rw [e, hk]; decide) ?_
  refine xtb_at _ 0 7 496 (by rw [e, hk]; decide) rfl ?_
  refine xix (n := gN G) (i + 1) (ia rfl rfl) (by omega) (by omega) (fun _ => ?_)
  refine xix (n := gN G) (i + 2) (ia rfl rfl) (by omega) (by omega) (fun _ => ?_)
  refine st_sayingOf I _ _ (fun r M1 aft => ?_)
  refine xix (n := gN G) (i + 1) (ia rfl rfl) (by omega) (by omega) (fun _ => ?_)
  refine xix (n := gN G) (i + 2) (ia rfl rfl) (by omega) (by omega) (fun _ => ?_)
  refine aft _ (fun M2 I2 => ?_)
  refine xif rfl ?_
  exact nx M2 I2
set_option maxRecDepth 20000 in
theorem lw_8 (hG : gN G ≤ 3072) (hi : i + 6 ≤ gN G) (I : Iv 0 M) (hk : gX G i &&& 63 = nI 8) (nx : ∀ M2, Iv 0 M2 → LE 18 [some (.ref 1000), some (.ref 0), some (.ref 59), some (.int (nI i + 6))] [] (HH M2) 73 5035) : wpI (xX (gN G) (gX G)) (CW G 11) xal 600000 7302250 2 (fun w _ => w = some (.int 1)) LE kL_law 400 true (xseek 18 kL_law) [some (.ref 1000), some (.ref 0), some (.ref 59), some (.int (nI i))] [] (HH M) 73 5035 := by
  refine xelse (fun z => absurd hi ((lw_ex hG (by omega)).mp z)) ?_
  refine xix (n := gN G) i rfl (by omega) (by omega) (fun e => ?_)
  refine xelse (by rw [e, hk]; decide) ?_
  refine xtb_at _ 0 8 529 (by rw [e, hk]; decide) rfl ?_
  refine xix (n := gN G) (i + 1) (ia rfl rfl) (by omega) (by omega) (fun _ => ?_)
  refine xix (n := gN G) (i + 2) (ia rfl rfl) (by omega) (by omega) (fun _ => ?_)
  refine st_turn I _ _ (fun r M1 aft => ?_)
  refine xix (n := gN G) (i + 1) (ia rfl rfl) (by omega) (by omega) (fun _ => ?_)
  refine xix (n := gN G) (i + 2) (ia rfl rfl) (by omega) (by omega) (fun _ => ?_)
  refine aft _ (fun M2 I2 => ?_)
  refine xif rfl ?_
  exact nx M2 I2
set_option maxRecDepth 20000 in
theorem lw_9 (hG : gN G ≤ 3072) (hi : i + 6 ≤ gN G) (I : Iv 0 M) (hk : gX G i &&& 63 = nI 9) (nx : ∀ M2, Iv 0 M2 → LE 18 [some (.ref 1000), some (.ref 0), some (.ref 59), some (.int (nI i + 6))] [] (HH M2) 73 5035) : wpI (xX (gN G) (gX G)) (CW G 11) xal 600000 7302250 2 (fun w _ => w = some (.int 1)) LE kL_law 400 true (xseek 18 kL_law) [some (.ref 1000), some (.ref 0), some (.ref 59), some (.int (nI i))] [] (HH M) 73 5035 := by
  refine xelse (fun z => absurd hi ((lw_ex hG (by omega)).mp z)) ?_
  refine xix (n := gN G) i rfl (by omega) (by omega) (fun e => ?_)
  refine xelse (by rw [e, hk]; decide) ?_
  refine xtb_at _ 0 9 562 (by rw [e, hk]; decide) rfl ?_
  refine xix (n := gN G) (i + 1) (ia rfl rfl) (by omega) (by omega) (fun _ => ?_)
  refine xix (n := gN G) (i + 2) (ia rfl rfl) (by omega) (by omega) (fun _ => ?_)
  refine st_age I _ _ (fun r M1 aft => ?_)
  refine xix (n := gN G) (i + 1) (ia rfl rfl) (by omega) (by omega) (fun _ => ?_)
  refine xix (n := gN G) (i + 2) (ia rfl rfl) (by omega) (by omega) (fun _ => ?_)
  refine aft _ (fun M2 I2 => ?_)
  refine xif rfl ?_
  exact nx M2 I2
set_option maxRecDepth 20000 in
theorem lw_10 (hG : gN G ≤ 3072) (hi : i + 6 ≤ gN G) (I : Iv 0 M) (hk : gX G i &&& 63 = nI 10) (nx : ∀ M2, Iv 0 M2 → LE 18 [some (.ref 1000), some (.ref 0), some (.ref 59), some (.int (nI i + 6))] [] (HH M2) 73 5035) : wpI (xX (gN G) (gX G)) (CW G 11) xal 600000 7302250 2 (fun w _ => w = some (.int 1)) LE kL_law 400 true (xseek 18 kL_law) [some (.ref 1000), some (.ref 0), some (.ref 59), some (.int (nI i))] [] (HH M) 73 5035 := by
  refine xelse (fun z => absurd hi ((lw_ex hG (by omega)).mp z)) ?_
  refine xix (n := gN G) i rfl (by omega) (by omega) (fun e => ?_)
  refine xelse (by rw [e, hk]; decide) ?_
  refine xtb_at _ 0 10 595 (by rw [e, hk]; decide) rfl ?_
  refine xix (n := gN G) (i + 1) (ia rfl rfl) (by omega) (by omega) (fun _ => ?_)
  refine st_over I _ (fun r M1 aft => ?_)
  refine xix (n := gN G) (i + 1) (ia rfl rfl) (by omega) (by omega) (fun _ => ?_)
  refine aft _ (fun M2 I2 => ?_)
  refine xif rfl ?_
  exact nx M2 I2
set_option maxRecDepth 20000 in
theorem lw_11 (hG : gN G ≤ 3072) (hi : i + 6 ≤ gN G) (I : Iv 0 M) (hk : gX G i &&& 63 = nI 11) (nx : ∀ M2, Iv 0 M2 → LE 18 [some (.ref 1000), some (.ref 0), some (.ref 59), some (.int (nI i + 6))] [] (HH M2) 73 5035) : wpI (xX (gN G) (gX G)) (CW G 11) xal 600000 7302250 2 (fun w _ => w = some (.int 1)) LE kL_law 400 true (xseek 18 kL_law) [some (.ref 1000), some (.ref 0), some (.ref 59), some (.int (nI i))] [] (HH M) 73 5035 := by
  refine xelse (fun z => absurd hi ((lw_ex hG (by omega)).mp z)) ?_
  refine xix (n := gN G) i rfl (by omega) (by omega) (fun e => ?_)
  refine xelse (by rw [e, hk]; decide) ?_
  refine xtb_at _ 0 11 618 (by rw [e, hk]; decide) rfl ?_
  refine xix (n := gN G) (i + 1) (ia rfl rfl) (by omega) (by omega) (fun _ => ?_)
  refine st_until I _ (fun r M1 aft => ?_)
  refine xix (n := gN G) (i + 1) (ia rfl rfl) (by omega) (by omega) (fun _ => ?_)
  refine aft _ (fun M2 I2 => ?_)
  refine xif rfl ?_
  exact nx M2 I2
set_option maxRecDepth 20000 in
theorem lw_12 (hG : gN G ≤ 3072) (hi : i + 6 ≤ gN G) (I : Iv 0 M) (hk : gX G i &&& 63 = nI 12) (nx : ∀ M2, Iv 0 M2 → LE 18 [some (.ref 1000), some (.ref 0), some (.ref 59), some (.int (nI i + 6))] [] (HH M2) 73 5035) : wpI (xX (gN G) (gX G)) (CW G 11) xal 600000 7302250 2 (fun w _ => w = some (.int 1)) LE kL_law 400 true (xseek 18 kL_law) [some (.ref 1000), some (.ref 0), some (.ref 59), some (.int (nI i))] [] (HH M) 73 5035 := by
  refine xelse (fun z => absurd hi ((lw_ex hG (by omega)).mp z)) ?_
  refine xix (n := gN G) i rfl (by omega) (by omega) (fun e => ?_)
  refine xelse (by rw [e, hk]; decide) ?_
  refine xtb_at _ 0 12 641 (by rw [e, hk]; decide) rfl ?_
  refine xix (n := gN G) (i + 1) (ia rfl rfl) (by omega) (by omega) (fun _ => ?_)
  refine xix (n := gN G) (i + 2) (ia rfl rfl) (by omega) (by omega) (fun _ => ?_)
  refine st_reaches I _ _ (fun r M1 aft => ?_)
  refine xix (n := gN G) (i + 1) (ia rfl rfl) (by omega) (by omega) (fun _ => ?_)
  refine xix (n := gN G) (i + 2) (ia rfl rfl) (by omega) (by omega) (fun _ => ?_)
  refine aft _ (fun M2 I2 => ?_)
  refine xif rfl ?_
  exact nx M2 I2
set_option maxRecDepth 20000 in
theorem lw_13 (hG : gN G ≤ 3072) (hi : i + 6 ≤ gN G) (I : Iv 0 M) (hk : gX G i &&& 63 = nI 13) (nx : ∀ M2, Iv 0 M2 → LE 18 [some (.ref 1000), some (.ref 0), some (.ref 59), some (.int (nI i + 6))] [] (HH M2) 73 5035) : wpI (xX (gN G) (gX G)) (CW G 11) xal 600000 7302250 2 (fun w _ => w = some (.int 1)) LE kL_law 400 true (xseek 18 kL_law) [some (.ref 1000), some (.ref 0), some (.ref 59), some (.int (nI i))] [] (HH M) 73 5035 := by
  refine xelse (fun z => absurd hi ((lw_ex hG (by omega)).mp z)) ?_
  refine xix (n := gN G) i rfl (by omega) (by omega) (fun e => ?_)
  refine xelse (by rw [e, hk]; decide) ?_
  refine xtb_at _ 0 13 674 (by rw [e, hk]; decide) rfl ?_
  refine xix (n := gN G) (i + 1) (ia rfl rfl) (by omega) (by omega) (fun _ => ?_)
  refine st_drowns I _ (fun r M1 aft => ?_)
  refine xix (n := gN G) (i + 1) (ia rfl rfl) (by omega) (by omega) (fun _ => ?_)
  refine aft _ (fun M2 I2 => ?_)
  refine xif rfl ?_
  exact nx M2 I2
set_option maxRecDepth 20000 in
theorem lw_14 (hG : gN G ≤ 3072) (hi : i + 6 ≤ gN G) (I : Iv 0 M) (hk : gX G i &&& 63 = nI 14) (nx : ∀ M2, Iv 0 M2 → LE 18 [some (.ref 1000), some (.ref 0), some (.ref 59), some (.int (nI i + 6))] [] (HH M2) 73 5035) : wpI (xX (gN G) (gX G)) (CW G 11) xal 600000 7302250 2 (fun w _ => w = some (.int 1)) LE kL_law 400 true (xseek 18 kL_law) [some (.ref 1000), some (.ref 0), some (.ref 59), some (.int (nI i))] [] (HH M) 73 5035 := by
  refine xelse (fun z => absurd hi ((lw_ex hG (by omega)).mp z)) ?_
  refine xix (n := gN G) i rfl (by omega) (by omega) (fun e => ?_)
  refine xelse (by rw [e, hk]; decide) ?_
  refine xtb_at _ 0 14 697 (by rw [e, hk]; decide) rfl ?_
  refine xix (n := gN G) (i + 1) (ia rfl rfl) (by omega) (by omega) (fun _ => ?_)
  refine xix (n := gN G) (i + 2) (ia rfl rfl) (by omega) (by omega) (fun _ => ?_)
  refine st_heard I _ _ (fun r M1 aft => ?_)
  refine xix (n := gN G) (i + 1) (ia rfl rfl) (by omega) (by omega) (fun _ => ?_)
  refine xix (n := gN G) (i + 2) (ia rfl rfl) (by omega) (by omega) (fun _ => ?_)
  refine aft _ (fun M2 I2 => ?_)
  refine xif rfl ?_
  exact nx M2 I2
set_option maxRecDepth 20000 in
theorem lw_15 (hG : gN G ≤ 3072) (hi : i + 6 ≤ gN G) (I : Iv 0 M) (hk : gX G i &&& 63 = nI 15) (nx : ∀ M2, Iv 0 M2 → LE 18 [some (.ref 1000), some (.ref 0), some (.ref 59), some (.int (nI i + 6))] [] (HH M2) 73 5035) : wpI (xX (gN G) (gX G)) (CW G 11) xal 600000 7302250 2 (fun w _ => w = some (.int 1)) LE kL_law 400 true (xseek 18 kL_law) [some (.ref 1000), some (.ref 0), some (.ref 59), some (.int (nI i))] [] (HH M) 73 5035 := by
  refine xelse (fun z => absurd hi ((lw_ex hG (by omega)).mp z)) ?_
  refine xix (n := gN G) i rfl (by omega) (by omega) (fun e => ?_)
  refine xelse (by rw [e, hk]; decide) ?_
  refine xtb_at _ 0 15 730 (by rw [e, hk]; decide) rfl ?_
  refine xix (n := gN G) (i + 1) (ia rfl rfl) (by omega) (by omega) (fun _ => ?_)
  refine xix (n := gN G) (i + 2) (ia rfl rfl) (by omega) (by omega) (fun _ => ?_)
  refine xix (n := gN G) (i + 3) (ia rfl rfl) (by omega) (by omega) (fun _ => ?_)
  refine st_which I _ _ _ (fun r M1 aft => ?_)
  refine xix (n := gN G) (i + 1) (ia rfl rfl) (by omega) (by omega) (fun _ => ?_)
  refine xix (n := gN G) (i + 2) (ia rfl rfl) (by omega) (by omega) (fun _ => ?_)
  refine xix (n := gN G) (i + 3) (ia rfl rfl) (by omega) (by omega) (fun _ => ?_)
  refine aft _ (fun M2 I2 => ?_)
  refine xif rfl ?_
  exact nx M2 I2
set_option maxRecDepth 20000 in
theorem lw_16 (hG : gN G ≤ 3072) (hi : i + 6 ≤ gN G) (I : Iv 0 M) (hk : gX G i &&& 63 = nI 16) (nx : ∀ M2, Iv 0 M2 → LE 18 [some (.ref 1000), some (.ref 0), some (.ref 59), some (.int (nI i + 6))] [] (HH M2) 73 5035) : wpI (xX (gN G) (gX G)) (CW G 11) xal 600000 7302250 2 (fun w _ => w = some (.int 1)) LE kL_law 400 true (xseek 18 kL_law) [some (.ref 1000), some (.ref 0), some (.ref 59), some (.int (nI i))] [] (HH M) 73 5035 := by
  refine xelse (fun z => absurd hi ((lw_ex hG (by omega)).mp z)) ?_
  refine xix (n := gN G) i rfl (by omega) (by omega) (fun e => ?_)
  refine xelse (by rw [e, hk]; decide) ?_
  refine xtb_at _ 0 16 773 (by rw [e, hk]; decide) rfl ?_
  refine xix (n := gN G) (i + 1) (ia rfl rfl) (by omega) (by omega) (fun _ => ?_)
  refine xix (n := gN G) (i + 2) (ia rfl rfl) (by omega) (by omega) (fun _ => ?_)
  refine st_words I _ _ (fun r M1 aft => ?_)
  refine xix (n := gN G) (i + 1) (ia rfl rfl) (by omega) (by omega) (fun _ => ?_)
  refine xix (n := gN G) (i + 2) (ia rfl rfl) (by omega) (by omega) (fun _ => ?_)
  refine aft _ (fun M2 I2 => ?_)
  refine xif rfl ?_
  exact nx M2 I2
set_option maxRecDepth 20000 in
theorem lw_17 (hG : gN G ≤ 3072) (hi : i + 6 ≤ gN G) (I : Iv 0 M) (hk : gX G i &&& 63 = nI 17) (nx : ∀ M2, Iv 0 M2 → LE 18 [some (.ref 1000), some (.ref 0), some (.ref 59), some (.int (nI i + 6))] [] (HH M2) 73 5035) : wpI (xX (gN G) (gX G)) (CW G 11) xal 600000 7302250 2 (fun w _ => w = some (.int 1)) LE kL_law 400 true (xseek 18 kL_law) [some (.ref 1000), some (.ref 0), some (.ref 59), some (.int (nI i))] [] (HH M) 73 5035 := by
  refine xelse (fun z => absurd hi ((lw_ex hG (by omega)).mp z)) ?_
  refine xix (n := gN G) i rfl (by omega) (by omega) (fun e => ?_)
  refine xelse (by rw [e, hk]; decide) ?_
  refine xtb_at _ 0 17 806 (by rw [e, hk]; decide) rfl ?_
  refine xix (n := gN G) (i + 1) (ia rfl rfl) (by omega) (by omega) (fun _ => ?_)
  refine xix (n := gN G) (i + 2) (ia rfl rfl) (by omega) (by omega) (fun _ => ?_)
  refine st_plain I _ _ (fun r M1 aft => ?_)
  refine xix (n := gN G) (i + 1) (ia rfl rfl) (by omega) (by omega) (fun _ => ?_)
  refine xix (n := gN G) (i + 2) (ia rfl rfl) (by omega) (by omega) (fun _ => ?_)
  refine aft _ (fun M2 I2 => ?_)
  refine xif rfl ?_
  exact nx M2 I2
set_option maxRecDepth 20000 in
theorem lw_18 (hG : gN G ≤ 3072) (hi : i + 6 ≤ gN G) (I : Iv 0 M) (hk : gX G i &&& 63 = nI 18) (nx : ∀ M2, Iv 0 M2 → LE 18 [some (.ref 1000), some (.ref 0), some (.ref 59), some (.int (nI i + 6))] [] (HH M2) 73 5035) : wpI (xX (gN G) (gX G)) (CW G 11) xal 600000 7302250 2 (fun w _ => w = some (.int 1)) LE kL_law 400 true (xseek 18 kL_law) [some (.ref 1000), some (.ref 0), some (.ref 59), some (.int (nI i))] [] (HH M) 73 5035 := by
  refine xelse (fun z => absurd hi ((lw_ex hG (by omega)).mp z)) ?_
  refine xix (n := gN G) i rfl (by omega) (by omega) (fun e => ?_)
  refine xelse (by rw [e, hk]; decide) ?_
  refine xtb_at _ 0 18 839 (by rw [e, hk]; decide) rfl ?_
  refine xix (n := gN G) (i + 1) (ia rfl rfl) (by omega) (by omega) (fun _ => ?_)
  refine st_alone I _ (fun r M1 aft => ?_)
  refine xix (n := gN G) (i + 1) (ia rfl rfl) (by omega) (by omega) (fun _ => ?_)
  refine aft _ (fun M2 I2 => ?_)
  refine xif rfl ?_
  exact nx M2 I2
set_option maxRecDepth 20000 in
theorem lw_19 (hG : gN G ≤ 3072) (hi : i + 6 ≤ gN G) (I : Iv 0 M) (hk : gX G i &&& 63 = nI 19) (nx : ∀ M2, Iv 0 M2 → LE 18 [some (.ref 1000), some (.ref 0), some (.ref 59), some (.int (nI i + 6))] [] (HH M2) 73 5035) : wpI (xX (gN G) (gX G)) (CW G 11) xal 600000 7302250 2 (fun w _ => w = some (.int 1)) LE kL_law 400 true (xseek 18 kL_law) [some (.ref 1000), some (.ref 0), some (.ref 59), some (.int (nI i))] [] (HH M) 73 5035 := by
  refine xelse (fun z => absurd hi ((lw_ex hG (by omega)).mp z)) ?_
  refine xix (n := gN G) i rfl (by omega) (by omega) (fun e => ?_)
  refine xelse (by rw [e, hk]; decide) ?_
  refine xtb_at _ 0 19 862 (by rw [e, hk]; decide) rfl ?_
  refine xix (n := gN G) (i + 1) (ia rfl rfl) (by omega) (by omega) (fun _ => ?_)
  refine xix (n := gN G) (i + 2) (ia rfl rfl) (by omega) (by omega) (fun _ => ?_)
  refine st_full I _ _ (fun r M1 aft => ?_)
  refine xix (n := gN G) (i + 1) (ia rfl rfl) (by omega) (by omega) (fun _ => ?_)
  refine xix (n := gN G) (i + 2) (ia rfl rfl) (by omega) (by omega) (fun _ => ?_)
  refine aft _ (fun M2 I2 => ?_)
  refine xif rfl ?_
  exact nx M2 I2
set_option maxRecDepth 20000 in
theorem lw_20 (hG : gN G ≤ 3072) (hi : i + 6 ≤ gN G) (I : Iv 0 M) (hk : gX G i &&& 63 = nI 20) (nx : ∀ M2, Iv 0 M2 → LE 18 [some (.ref 1000), some (.ref 0), some (.ref 59), some (.int (nI i + 6))] [] (HH M2) 73 5035) : wpI (xX (gN G) (gX G)) (CW G 11) xal 600000 7302250 2 (fun w _ => w = some (.int 1)) LE kL_law 400 true (xseek 18 kL_law) [some (.ref 1000), some (.ref 0), some (.ref 59), some (.int (nI i))] [] (HH M) 73 5035 := by
  refine xelse (fun z => absurd hi ((lw_ex hG (by omega)).mp z)) ?_
  refine xix (n := gN G) i rfl (by omega) (by omega) (fun e => ?_)
  refine xelse (by rw [e, hk]; decide) ?_
  refine xtb_at _ 0 20 895 (by rw [e, hk]; decide) rfl ?_
  refine xix (n := gN G) (i + 1) (ia rfl rfl) (by omega) (by omega) (fun _ => ?_)
  refine xix (n := gN G) (i + 2) (ia rfl rfl) (by omega) (by omega) (fun _ => ?_)
  refine xix (n := gN G) (i + 3) (ia rfl rfl) (by omega) (by omega) (fun _ => ?_)
  refine xix (n := gN G) (i + 4) (ia rfl rfl) (by omega) (by omega) (fun _ => ?_)
  refine st_person I _ _ _ _ (fun r M1 aft => ?_)
  refine xix (n := gN G) (i + 1) (ia rfl rfl) (by omega) (by omega) (fun _ => ?_)
  refine xix (n := gN G) (i + 2) (ia rfl rfl) (by omega) (by omega) (fun _ => ?_)
  refine xix (n := gN G) (i + 3) (ia rfl rfl) (by omega) (by omega) (fun _ => ?_)
  refine xix (n := gN G) (i + 4) (ia rfl rfl) (by omega) (by omega) (fun _ => ?_)
  refine aft _ (fun M2 I2 => ?_)
  refine xif rfl ?_
  exact nx M2 I2
set_option maxRecDepth 20000 in
theorem lw_21 (hG : gN G ≤ 3072) (hi : i + 6 ≤ gN G) (I : Iv 0 M) (hk : gX G i &&& 63 = nI 21) (nx : ∀ M2, Iv 0 M2 → LE 18 [some (.ref 1000), some (.ref 0), some (.ref 59), some (.int (nI i + 6))] [] (HH M2) 73 5035) : wpI (xX (gN G) (gX G)) (CW G 11) xal 600000 7302250 2 (fun w _ => w = some (.int 1)) LE kL_law 400 true (xseek 18 kL_law) [some (.ref 1000), some (.ref 0), some (.ref 59), some (.int (nI i))] [] (HH M) 73 5035 := by
  refine xelse (fun z => absurd hi ((lw_ex hG (by omega)).mp z)) ?_
  refine xix (n := gN G) i rfl (by omega) (by omega) (fun e => ?_)
  refine xelse (by rw [e, hk]; decide) ?_
  refine xtb_at _ 0 21 948 (by rw [e, hk]; decide) rfl ?_
  refine xix (n := gN G) (i + 1) (ia rfl rfl) (by omega) (by omega) (fun _ => ?_)
  refine xix (n := gN G) (i + 2) (ia rfl rfl) (by omega) (by omega) (fun _ => ?_)
  refine st_where I _ _ (fun r M1 aft => ?_)
  refine xix (n := gN G) (i + 1) (ia rfl rfl) (by omega) (by omega) (fun _ => ?_)
  refine xix (n := gN G) (i + 2) (ia rfl rfl) (by omega) (by omega) (fun _ => ?_)
  refine aft _ (fun M2 I2 => ?_)
  refine xif rfl ?_
  exact nx M2 I2
set_option maxRecDepth 20000 in
theorem lw_22 (hG : gN G ≤ 3072) (hi : i + 6 ≤ gN G) (I : Iv 0 M) (hk : gX G i &&& 63 = nI 22) (nx : ∀ M2, Iv 0 M2 → LE 18 [some (.ref 1000), some (.ref 0), some (.ref 59), some (.int (nI i + 6))] [] (HH M2) 73 5035) : wpI (xX (gN G) (gX G)) (CW G 11) xal 600000 7302250 2 (fun w _ => w = some (.int 1)) LE kL_law 400 true (xseek 18 kL_law) [some (.ref 1000), some (.ref 0), some (.ref 59), some (.int (nI i))] [] (HH M) 73 5035 := by
  refine xelse (fun z => absurd hi ((lw_ex hG (by omega)).mp z)) ?_
  refine xix (n := gN G) i rfl (by omega) (by omega) (fun e => ?_)
  refine xelse (by rw [e, hk]; decide) ?_
  refine xtb_at _ 0 22 981 (by rw [e, hk]; decide) rfl ?_
  refine xix (n := gN G) (i + 1) (ia rfl rfl) (by omega) (by omega) (fun _ => ?_)
  refine xix (n := gN G) (i + 2) (ia rfl rfl) (by omega) (by omega) (fun _ => ?_)
  refine st_hears I _ _ (fun r M1 aft => ?_)
  refine xix (n := gN G) (i + 1) (ia rfl rfl) (by omega) (by omega) (fun _ => ?_)
  refine xix (n := gN G) (i + 2) (ia rfl rfl) (by omega) (by omega) (fun _ => ?_)
  refine aft _ (fun M2 I2 => ?_)
  refine xif rfl ?_
  exact nx M2 I2
set_option maxRecDepth 20000 in
theorem lw_23 (hG : gN G ≤ 3072) (hi : i + 6 ≤ gN G) (I : Iv 0 M) (hk : gX G i &&& 63 = nI 23) (nx : ∀ M2, Iv 0 M2 → LE 18 [some (.ref 1000), some (.ref 0), some (.ref 59), some (.int (nI i + 6))] [] (HH M2) 73 5035) : wpI (xX (gN G) (gX G)) (CW G 11) xal 600000 7302250 2 (fun w _ => w = some (.int 1)) LE kL_law 400 true (xseek 18 kL_law) [some (.ref 1000), some (.ref 0), some (.ref 59), some (.int (nI i))] [] (HH M) 73 5035 := by
  refine xelse (fun z => absurd hi ((lw_ex hG (by omega)).mp z)) ?_
  refine xix (n := gN G) i rfl (by omega) (by omega) (fun e => ?_)
  refine xelse (by rw [e, hk]; decide) ?_
  refine xtb_at _ 0 23 1014 (by rw [e, hk]; decide) rfl ?_
  refine xix (n := gN G) (i + 1) (ia rfl rfl) (by omega) (by omega) (fun _ => ?_)
  refine xix (n := gN G) (i + 2) (ia rfl rfl) (by omega) (by omega) (fun _ => ?_)
  refine st_first I _ _ (fun r M1 aft => ?_)
  refine xix (n := gN G) (i + 1) (ia rfl rfl) (by omega) (by omega) (fun _ => ?_)
  refine xix (n := gN G) (i + 2) (ia rfl rfl) (by omega) (by omega) (fun _ => ?_)
  refine aft _ (fun M2 I2 => ?_)
  refine xif rfl ?_
  exact nx M2 I2
set_option maxRecDepth 20000 in
theorem lw_24 (hG : gN G ≤ 3072) (hi : i + 6 ≤ gN G) (I : Iv 0 M) (hk : gX G i &&& 63 = nI 24) (nx : ∀ M2, Iv 0 M2 → LE 18 [some (.ref 1000), some (.ref 0), some (.ref 59), some (.int (nI i + 6))] [] (HH M2) 73 5035) : wpI (xX (gN G) (gX G)) (CW G 11) xal 600000 7302250 2 (fun w _ => w = some (.int 1)) LE kL_law 400 true (xseek 18 kL_law) [some (.ref 1000), some (.ref 0), some (.ref 59), some (.int (nI i))] [] (HH M) 73 5035 := by
  refine xelse (fun z => absurd hi ((lw_ex hG (by omega)).mp z)) ?_
  refine xix (n := gN G) i rfl (by omega) (by omega) (fun e => ?_)
  refine xelse (by rw [e, hk]; decide) ?_
  refine xtb_at _ 0 24 1047 (by rw [e, hk]; decide) rfl ?_
  refine xix (n := gN G) (i + 1) (ia rfl rfl) (by omega) (by omega) (fun _ => ?_)
  refine st_who I _ (fun r M1 aft => ?_)
  refine xix (n := gN G) (i + 1) (ia rfl rfl) (by omega) (by omega) (fun _ => ?_)
  refine aft _ (fun M2 I2 => ?_)
  refine xif rfl ?_
  exact nx M2 I2
set_option maxRecDepth 20000 in
theorem lw_25 (hG : gN G ≤ 3072) (hi : i + 6 ≤ gN G) (I : Iv 0 M) (hk : gX G i &&& 63 = nI 25) (nx : ∀ M2, Iv 0 M2 → LE 18 [some (.ref 1000), some (.ref 0), some (.ref 59), some (.int (nI i + 6))] [] (HH M2) 73 5035) : wpI (xX (gN G) (gX G)) (CW G 11) xal 600000 7302250 2 (fun w _ => w = some (.int 1)) LE kL_law 400 true (xseek 18 kL_law) [some (.ref 1000), some (.ref 0), some (.ref 59), some (.int (nI i))] [] (HH M) 73 5035 := by
  refine xelse (fun z => absurd hi ((lw_ex hG (by omega)).mp z)) ?_
  refine xix (n := gN G) i rfl (by omega) (by omega) (fun e => ?_)
  refine xelse (by rw [e, hk]; decide) ?_
  refine xtb_at _ 0 25 1070 (by rw [e, hk]; decide) rfl ?_
  refine xix (n := gN G) (i + 1) (ia rfl rfl) (by omega) (by omega) (fun _ => ?_)
  refine st_said I _ (fun r M1 aft => ?_)
  refine xix (n := gN G) (i + 1) (ia rfl rfl) (by omega) (by omega) (fun _ => ?_)
  refine aft _ (fun M2 I2 => ?_)
  refine xif rfl ?_
  exact nx M2 I2
set_option maxRecDepth 20000 in
theorem lw_26 (hG : gN G ≤ 3072) (hi : i + 6 ≤ gN G) (I : Iv 0 M) (hk : gX G i &&& 63 = nI 26) (nx : ∀ M2, Iv 0 M2 → LE 18 [some (.ref 1000), some (.ref 0), some (.ref 59), some (.int (nI i + 6))] [] (HH M2) 73 5035) : wpI (xX (gN G) (gX G)) (CW G 11) xal 600000 7302250 2 (fun w _ => w = some (.int 1)) LE kL_law 400 true (xseek 18 kL_law) [some (.ref 1000), some (.ref 0), some (.ref 59), some (.int (nI i))] [] (HH M) 73 5035 := by
  refine xelse (fun z => absurd hi ((lw_ex hG (by omega)).mp z)) ?_
  refine xix (n := gN G) i rfl (by omega) (by omega) (fun e => ?_)
  refine xelse (by rw [e, hk]; decide) ?_
  refine xtb_at _ 0 26 1093 (by rw [e, hk]; decide) rfl ?_
  refine xix (n := gN G) (i + 1) (ia rfl rfl) (by omega) (by omega) (fun _ => ?_)
  refine xix (n := gN G) (i + 2) (ia rfl rfl) (by omega) (by omega) (fun _ => ?_)
  refine st_tell I _ _ (fun r M1 aft => ?_)
  refine xix (n := gN G) (i + 1) (ia rfl rfl) (by omega) (by omega) (fun _ => ?_)
  refine xix (n := gN G) (i + 2) (ia rfl rfl) (by omega) (by omega) (fun _ => ?_)
  refine aft _ (fun M2 I2 => ?_)
  refine xif rfl ?_
  exact nx M2 I2
set_option maxRecDepth 20000 in
theorem lw_27 (hG : gN G ≤ 3072) (hi : i + 6 ≤ gN G) (I : Iv 0 M) (hk : gX G i &&& 63 = nI 27) (nx : ∀ M2, Iv 0 M2 → LE 18 [some (.ref 1000), some (.ref 0), some (.ref 59), some (.int (nI i + 6))] [] (HH M2) 73 5035) : wpI (xX (gN G) (gX G)) (CW G 11) xal 600000 7302250 2 (fun w _ => w = some (.int 1)) LE kL_law 400 true (xseek 18 kL_law) [some (.ref 1000), some (.ref 0), some (.ref 59), some (.int (nI i))] [] (HH M) 73 5035 := by
  refine xelse (fun z => absurd hi ((lw_ex hG (by omega)).mp z)) ?_
  refine xix (n := gN G) i rfl (by omega) (by omega) (fun e => ?_)
  refine xelse (by rw [e, hk]; decide) ?_
  refine xtb_at _ 0 27 1126 (by rw [e, hk]; decide) rfl ?_
  refine xix (n := gN G) (i + 1) (ia rfl rfl) (by omega) (by omega) (fun _ => ?_)
  refine st_needs I _ (fun r M1 aft => ?_)
  refine xix (n := gN G) (i + 1) (ia rfl rfl) (by omega) (by omega) (fun _ => ?_)
  refine aft _ (fun M2 I2 => ?_)
  refine xif rfl ?_
  exact nx M2 I2
set_option maxRecDepth 20000 in
theorem lw_28 (hG : gN G ≤ 3072) (hi : i + 6 ≤ gN G) (I : Iv 0 M) (hk : gX G i &&& 63 = nI 28) (nx : ∀ M2, Iv 0 M2 → LE 18 [some (.ref 1000), some (.ref 0), some (.ref 59), some (.int (nI i + 6))] [] (HH M2) 73 5035) : wpI (xX (gN G) (gX G)) (CW G 11) xal 600000 7302250 2 (fun w _ => w = some (.int 1)) LE kL_law 400 true (xseek 18 kL_law) [some (.ref 1000), some (.ref 0), some (.ref 59), some (.int (nI i))] [] (HH M) 73 5035 := by
  refine xelse (fun z => absurd hi ((lw_ex hG (by omega)).mp z)) ?_
  refine xix (n := gN G) i rfl (by omega) (by omega) (fun e => ?_)
  refine xelse (by rw [e, hk]; decide) ?_
  refine xtb_at _ 0 28 1149 (by rw [e, hk]; decide) rfl ?_
  refine xix (n := gN G) (i + 1) (ia rfl rfl) (by omega) (by omega) (fun _ => ?_)
  refine xix (n := gN G) (i + 2) (ia rfl rfl) (by omega) (by omega) (fun _ => ?_)
  refine xix (n := gN G) (i + 3) (ia rfl rfl) (by omega) (by omega) (fun _ => ?_)
  refine st_walk I _ _ _ (fun r M1 aft => ?_)
  refine xix (n := gN G) (i + 1) (ia rfl rfl) (by omega) (by omega) (fun _ => ?_)
  refine xix (n := gN G) (i + 2) (ia rfl rfl) (by omega) (by omega) (fun _ => ?_)
  refine xix (n := gN G) (i + 3) (ia rfl rfl) (by omega) (by omega) (fun _ => ?_)
  refine aft _ (fun M2 I2 => ?_)
  refine xif rfl ?_
  exact nx M2 I2
set_option maxRecDepth 20000 in
theorem lw_29 (hG : gN G ≤ 3072) (hi : i + 6 ≤ gN G) (I : Iv 0 M) (hk : gX G i &&& 63 = nI 29) (nx : ∀ M2, Iv 0 M2 → LE 18 [some (.ref 1000), some (.ref 0), some (.ref 59), some (.int (nI i + 6))] [] (HH M2) 73 5035) : wpI (xX (gN G) (gX G)) (CW G 11) xal 600000 7302250 2 (fun w _ => w = some (.int 1)) LE kL_law 400 true (xseek 18 kL_law) [some (.ref 1000), some (.ref 0), some (.ref 59), some (.int (nI i))] [] (HH M) 73 5035 := by
  refine xelse (fun z => absurd hi ((lw_ex hG (by omega)).mp z)) ?_
  refine xix (n := gN G) i rfl (by omega) (by omega) (fun e => ?_)
  refine xelse (by rw [e, hk]; decide) ?_
  refine xtb_at _ 0 29 1192 (by rw [e, hk]; decide) rfl ?_
  refine xix (n := gN G) (i + 1) (ia rfl rfl) (by omega) (by omega) (fun _ => ?_)
  refine st_step I _ (fun r M1 aft => ?_)
  refine xix (n := gN G) (i + 1) (ia rfl rfl) (by omega) (by omega) (fun _ => ?_)
  refine aft _ (fun M2 I2 => ?_)
  refine xif rfl ?_
  exact nx M2 I2
set_option maxRecDepth 20000 in
theorem lw_30 (hG : gN G ≤ 3072) (hi : i + 6 ≤ gN G) (I : Iv 0 M) (hk : gX G i &&& 63 = nI 30) (nx : ∀ M2, Iv 0 M2 → LE 18 [some (.ref 1000), some (.ref 0), some (.ref 59), some (.int (nI i + 6))] [] (HH M2) 73 5035) : wpI (xX (gN G) (gX G)) (CW G 11) xal 600000 7302250 2 (fun w _ => w = some (.int 1)) LE kL_law 400 true (xseek 18 kL_law) [some (.ref 1000), some (.ref 0), some (.ref 59), some (.int (nI i))] [] (HH M) 73 5035 := by
  refine xelse (fun z => absurd hi ((lw_ex hG (by omega)).mp z)) ?_
  refine xix (n := gN G) i rfl (by omega) (by omega) (fun e => ?_)
  refine xelse (by rw [e, hk]; decide) ?_
  refine xtb_at _ 0 30 1215 (by rw [e, hk]; decide) rfl ?_
  refine st_crowd I  (fun r M1 aft => ?_)
  refine aft _ (fun M2 I2 => ?_)
  refine xif rfl ?_
  exact nx M2 I2
set_option maxRecDepth 20000 in
theorem lw_31 (hG : gN G ≤ 3072) (hi : i + 6 ≤ gN G) (I : Iv 0 M) (hk : gX G i &&& 63 = nI 31) (nx : ∀ M2, Iv 0 M2 → LE 18 [some (.ref 1000), some (.ref 0), some (.ref 59), some (.int (nI i + 6))] [] (HH M2) 73 5035) : wpI (xX (gN G) (gX G)) (CW G 11) xal 600000 7302250 2 (fun w _ => w = some (.int 1)) LE kL_law 400 true (xseek 18 kL_law) [some (.ref 1000), some (.ref 0), some (.ref 59), some (.int (nI i))] [] (HH M) 73 5035 := by
  refine xelse (fun z => absurd hi ((lw_ex hG (by omega)).mp z)) ?_
  refine xix (n := gN G) i rfl (by omega) (by omega) (fun e => ?_)
  refine xelse (by rw [e, hk]; decide) ?_
  refine xtb_at _ 0 31 1228 (by rw [e, hk]; decide) rfl ?_
  refine xix (n := gN G) (i + 1) (ia rfl rfl) (by omega) (by omega) (fun _ => ?_)
  refine st_seed I _ (fun r M1 aft => ?_)
  refine xix (n := gN G) (i + 1) (ia rfl rfl) (by omega) (by omega) (fun _ => ?_)
  refine aft _ (fun M2 I2 => ?_)
  refine xif rfl ?_
  exact nx M2 I2
set_option maxRecDepth 20000 in
theorem lw_32 (hG : gN G ≤ 3072) (hi : i + 6 ≤ gN G) (I : Iv 0 M) (hk : gX G i &&& 63 = nI 32) (nx : ∀ M2, Iv 0 M2 → LE 18 [some (.ref 1000), some (.ref 0), some (.ref 59), some (.int (nI i + 6))] [] (HH M2) 73 5035) : wpI (xX (gN G) (gX G)) (CW G 11) xal 600000 7302250 2 (fun w _ => w = some (.int 1)) LE kL_law 400 true (xseek 18 kL_law) [some (.ref 1000), some (.ref 0), some (.ref 59), some (.int (nI i))] [] (HH M) 73 5035 := by
  refine xelse (fun z => absurd hi ((lw_ex hG (by omega)).mp z)) ?_
  refine xix (n := gN G) i rfl (by omega) (by omega) (fun e => ?_)
  refine xelse (by rw [e, hk]; decide) ?_
  refine xtb_at _ 0 32 1251 (by rw [e, hk]; decide) rfl ?_
  refine xix (n := gN G) (i + 1) (ia rfl rfl) (by omega) (by omega) (fun _ => ?_)
  refine xix (n := gN G) (i + 2) (ia rfl rfl) (by omega) (by omega) (fun _ => ?_)
  refine st_feed I _ _ (fun r M1 aft => ?_)
  refine xix (n := gN G) (i + 1) (ia rfl rfl) (by omega) (by omega) (fun _ => ?_)
  refine xix (n := gN G) (i + 2) (ia rfl rfl) (by omega) (by omega) (fun _ => ?_)
  refine aft _ (fun M2 I2 => ?_)
  refine xif rfl ?_
  exact nx M2 I2
set_option maxRecDepth 20000 in
theorem lw_33 (hG : gN G ≤ 3072) (hi : i + 6 ≤ gN G) (I : Iv 0 M) (hk : gX G i &&& 63 = nI 33) (nx : ∀ M2, Iv 0 M2 → LE 18 [some (.ref 1000), some (.ref 0), some (.ref 59), some (.int (nI i + 6))] [] (HH M2) 73 5035) : wpI (xX (gN G) (gX G)) (CW G 11) xal 600000 7302250 2 (fun w _ => w = some (.int 1)) LE kL_law 400 true (xseek 18 kL_law) [some (.ref 1000), some (.ref 0), some (.ref 59), some (.int (nI i))] [] (HH M) 73 5035 := by
  refine xelse (fun z => absurd hi ((lw_ex hG (by omega)).mp z)) ?_
  refine xix (n := gN G) i rfl (by omega) (by omega) (fun e => ?_)
  refine xelse (by rw [e, hk]; decide) ?_
  refine xtb_at _ 0 33 1284 (by rw [e, hk]; decide) rfl ?_
  refine st_wipe I  (fun r M1 aft => ?_)
  refine aft _ (fun M2 I2 => ?_)
  refine xif rfl ?_
  exact nx M2 I2
set_option maxRecDepth 20000 in
theorem lw_34 (hG : gN G ≤ 3072) (hi : i + 6 ≤ gN G) (I : Iv 0 M) (hk : gX G i &&& 63 = nI 34) (nx : ∀ M2, Iv 0 M2 → LE 18 [some (.ref 1000), some (.ref 0), some (.ref 59), some (.int (nI i + 6))] [] (HH M2) 73 5035) : wpI (xX (gN G) (gX G)) (CW G 11) xal 600000 7302250 2 (fun w _ => w = some (.int 1)) LE kL_law 400 true (xseek 18 kL_law) [some (.ref 1000), some (.ref 0), some (.ref 59), some (.int (nI i))] [] (HH M) 73 5035 := by
  refine xelse (fun z => absurd hi ((lw_ex hG (by omega)).mp z)) ?_
  refine xix (n := gN G) i rfl (by omega) (by omega) (fun e => ?_)
  refine xelse (by rw [e, hk]; decide) ?_
  refine xtb_at _ 0 34 1297 (by rw [e, hk]; decide) rfl ?_
  refine st_text I  (fun r M1 aft => ?_)
  refine aft _ (fun M2 I2 => ?_)
  refine xif rfl ?_
  exact nx M2 I2
set_option maxRecDepth 20000 in
theorem lw_35 (hG : gN G ≤ 3072) (hi : i + 6 ≤ gN G) (I : Iv 0 M) (hk : gX G i &&& 63 = nI 35) (nx : ∀ M2, Iv 0 M2 → LE 18 [some (.ref 1000), some (.ref 0), some (.ref 59), some (.int (nI i + 6))] [] (HH M2) 73 5035) : wpI (xX (gN G) (gX G)) (CW G 11) xal 600000 7302250 2 (fun w _ => w = some (.int 1)) LE kL_law 400 true (xseek 18 kL_law) [some (.ref 1000), some (.ref 0), some (.ref 59), some (.int (nI i))] [] (HH M) 73 5035 := by
  refine xelse (fun z => absurd hi ((lw_ex hG (by omega)).mp z)) ?_
  refine xix (n := gN G) i rfl (by omega) (by omega) (fun e => ?_)
  refine xelse (by rw [e, hk]; decide) ?_
  refine xtb_at _ 0 35 1310 (by rw [e, hk]; decide) rfl ?_
  refine xix (n := gN G) (i + 1) (ia rfl rfl) (by omega) (by omega) (fun _ => ?_)
  refine xix (n := gN G) (i + 2) (ia rfl rfl) (by omega) (by omega) (fun _ => ?_)
  refine st_hold I _ _ (fun r M1 aft => ?_)
  refine xix (n := gN G) (i + 1) (ia rfl rfl) (by omega) (by omega) (fun _ => ?_)
  refine xix (n := gN G) (i + 2) (ia rfl rfl) (by omega) (by omega) (fun _ => ?_)
  refine aft _ (fun M2 I2 => ?_)
  refine xif rfl ?_
  exact nx M2 I2
set_option maxRecDepth 20000 in
theorem lw_36 (hG : gN G ≤ 3072) (hi : i + 6 ≤ gN G) (I : Iv 0 M) (hk : gX G i &&& 63 = nI 36) (nx : ∀ M2, Iv 0 M2 → LE 18 [some (.ref 1000), some (.ref 0), some (.ref 59), some (.int (nI i + 6))] [] (HH M2) 73 5035) : wpI (xX (gN G) (gX G)) (CW G 11) xal 600000 7302250 2 (fun w _ => w = some (.int 1)) LE kL_law 400 true (xseek 18 kL_law) [some (.ref 1000), some (.ref 0), some (.ref 59), some (.int (nI i))] [] (HH M) 73 5035 := by
  refine xelse (fun z => absurd hi ((lw_ex hG (by omega)).mp z)) ?_
  refine xix (n := gN G) i rfl (by omega) (by omega) (fun e => ?_)
  refine xelse (by rw [e, hk]; decide) ?_
  refine xtb_at _ 0 36 1343 (by rw [e, hk]; decide) rfl ?_
  refine xix (n := gN G) (i + 1) (ia rfl rfl) (by omega) (by omega) (fun _ => ?_)
  refine xix (n := gN G) (i + 2) (ia rfl rfl) (by omega) (by omega) (fun _ => ?_)
  refine st_as I _ _ (fun r M1 aft => ?_)
  refine xix (n := gN G) (i + 1) (ia rfl rfl) (by omega) (by omega) (fun _ => ?_)
  refine xix (n := gN G) (i + 2) (ia rfl rfl) (by omega) (by omega) (fun _ => ?_)
  refine aft _ (fun M2 I2 => ?_)
  refine xif rfl ?_
  exact nx M2 I2
set_option maxRecDepth 20000 in
theorem lw_37 (hG : gN G ≤ 3072) (hi : i + 6 ≤ gN G) (I : Iv 0 M) (hk : gX G i &&& 63 = nI 37) (nx : ∀ M2, Iv 0 M2 → LE 18 [some (.ref 1000), some (.ref 0), some (.ref 59), some (.int (nI i + 6))] [] (HH M2) 73 5035) : wpI (xX (gN G) (gX G)) (CW G 11) xal 600000 7302250 2 (fun w _ => w = some (.int 1)) LE kL_law 400 true (xseek 18 kL_law) [some (.ref 1000), some (.ref 0), some (.ref 59), some (.int (nI i))] [] (HH M) 73 5035 := by
  refine xelse (fun z => absurd hi ((lw_ex hG (by omega)).mp z)) ?_
  refine xix (n := gN G) i rfl (by omega) (by omega) (fun e => ?_)
  refine xelse (by rw [e, hk]; decide) ?_
  refine xtb_at _ 0 37 1376 (by rw [e, hk]; decide) rfl ?_
  refine xix (n := gN G) (i + 1) (ia rfl rfl) (by omega) (by omega) (fun _ => ?_)
  refine xix (n := gN G) (i + 2) (ia rfl rfl) (by omega) (by omega) (fun _ => ?_)
  refine xix (n := gN G) (i + 3) (ia rfl rfl) (by omega) (by omega) (fun _ => ?_)
  refine st_sheet I _ _ _ (fun r M1 aft => ?_)
  refine xix (n := gN G) (i + 1) (ia rfl rfl) (by omega) (by omega) (fun _ => ?_)
  refine xix (n := gN G) (i + 2) (ia rfl rfl) (by omega) (by omega) (fun _ => ?_)
  refine xix (n := gN G) (i + 3) (ia rfl rfl) (by omega) (by omega) (fun _ => ?_)
  refine aft _ (fun M2 I2 => ?_)
  refine xif rfl ?_
  exact nx M2 I2
set_option maxRecDepth 20000 in
theorem lw_38 (hG : gN G ≤ 3072) (hi : i + 6 ≤ gN G) (I : Iv 0 M) (hk : gX G i &&& 63 = nI 38) (nx : ∀ M2, Iv 0 M2 → LE 18 [some (.ref 1000), some (.ref 0), some (.ref 59), some (.int (nI i + 6))] [] (HH M2) 73 5035) : wpI (xX (gN G) (gX G)) (CW G 11) xal 600000 7302250 2 (fun w _ => w = some (.int 1)) LE kL_law 400 true (xseek 18 kL_law) [some (.ref 1000), some (.ref 0), some (.ref 59), some (.int (nI i))] [] (HH M) 73 5035 := by
  refine xelse (fun z => absurd hi ((lw_ex hG (by omega)).mp z)) ?_
  refine xix (n := gN G) i rfl (by omega) (by omega) (fun e => ?_)
  refine xelse (by rw [e, hk]; decide) ?_
  refine xtb_at _ 0 38 1419 (by rw [e, hk]; decide) rfl ?_
  refine xix (n := gN G) (i + 1) (ia rfl rfl) (by omega) (by omega) (fun _ => ?_)
  refine xix (n := gN G) (i + 2) (ia rfl rfl) (by omega) (by omega) (fun _ => ?_)
  refine xix (n := gN G) (i + 3) (ia rfl rfl) (by omega) (by omega) (fun _ => ?_)
  refine st_write I _ _ _ (fun r M1 aft => ?_)
  refine xix (n := gN G) (i + 1) (ia rfl rfl) (by omega) (by omega) (fun _ => ?_)
  refine xix (n := gN G) (i + 2) (ia rfl rfl) (by omega) (by omega) (fun _ => ?_)
  refine xix (n := gN G) (i + 3) (ia rfl rfl) (by omega) (by omega) (fun _ => ?_)
  refine aft _ (fun M2 I2 => ?_)
  refine xif rfl ?_
  exact nx M2 I2
set_option maxRecDepth 20000 in
theorem lw_39 (hG : gN G ≤ 3072) (hi : i + 6 ≤ gN G) (I : Iv 0 M) (hk : gX G i &&& 63 = nI 39) (nx : ∀ M2, Iv 0 M2 → LE 18 [some (.ref 1000), some (.ref 0), some (.ref 59), some (.int (nI i + 6))] [] (HH M2) 73 5035) : wpI (xX (gN G) (gX G)) (CW G 11) xal 600000 7302250 2 (fun w _ => w = some (.int 1)) LE kL_law 400 true (xseek 18 kL_law) [some (.ref 1000), some (.ref 0), some (.ref 59), some (.int (nI i))] [] (HH M) 73 5035 := by
  refine xelse (fun z => absurd hi ((lw_ex hG (by omega)).mp z)) ?_
  refine xix (n := gN G) i rfl (by omega) (by omega) (fun e => ?_)
  refine xelse (by rw [e, hk]; decide) ?_
  refine xtb_at _ 0 39 1462 (by rw [e, hk]; decide) rfl ?_
  refine xix (n := gN G) (i + 1) (ia rfl rfl) (by omega) (by omega) (fun _ => ?_)
  refine xix (n := gN G) (i + 2) (ia rfl rfl) (by omega) (by omega) (fun _ => ?_)
  refine xix (n := gN G) (i + 3) (ia rfl rfl) (by omega) (by omega) (fun _ => ?_)
  refine xix (n := gN G) (i + 4) (ia rfl rfl) (by omega) (by omega) (fun _ => ?_)
  refine xix (n := gN G) (i + 5) (ia rfl rfl) (by omega) (by omega) (fun _ => ?_)
  refine st_copy I _ _ _ _ _ (fun r M1 aft => ?_)
  refine xix (n := gN G) (i + 1) (ia rfl rfl) (by omega) (by omega) (fun _ => ?_)
  refine xix (n := gN G) (i + 2) (ia rfl rfl) (by omega) (by omega) (fun _ => ?_)
  refine xix (n := gN G) (i + 3) (ia rfl rfl) (by omega) (by omega) (fun _ => ?_)
  refine xix (n := gN G) (i + 4) (ia rfl rfl) (by omega) (by omega) (fun _ => ?_)
  refine xix (n := gN G) (i + 5) (ia rfl rfl) (by omega) (by omega) (fun _ => ?_)
  refine aft _ (fun M2 I2 => ?_)
  refine xif rfl ?_
  exact nx M2 I2
set_option maxRecDepth 20000 in
theorem lw_40 (hG : gN G ≤ 3072) (hi : i + 6 ≤ gN G) (I : Iv 0 M) (hk : gX G i &&& 63 = nI 40) (nx : ∀ M2, Iv 0 M2 → LE 18 [some (.ref 1000), some (.ref 0), some (.ref 59), some (.int (nI i + 6))] [] (HH M2) 73 5035) : wpI (xX (gN G) (gX G)) (CW G 11) xal 600000 7302250 2 (fun w _ => w = some (.int 1)) LE kL_law 400 true (xseek 18 kL_law) [some (.ref 1000), some (.ref 0), some (.ref 59), some (.int (nI i))] [] (HH M) 73 5035 := by
  refine xelse (fun z => absurd hi ((lw_ex hG (by omega)).mp z)) ?_
  refine xix (n := gN G) i rfl (by omega) (by omega) (fun e => ?_)
  refine xelse (by rw [e, hk]; decide) ?_
  refine xtb_at _ 0 40 1525 (by rw [e, hk]; decide) rfl ?_
  refine xix (n := gN G) (i + 1) (ia rfl rfl) (by omega) (by omega) (fun _ => ?_)
  refine xix (n := gN G) (i + 2) (ia rfl rfl) (by omega) (by omega) (fun _ => ?_)
  refine st_load I _ _ (fun r M1 aft => ?_)
  refine xix (n := gN G) (i + 1) (ia rfl rfl) (by omega) (by omega) (fun _ => ?_)
  refine xix (n := gN G) (i + 2) (ia rfl rfl) (by omega) (by omega) (fun _ => ?_)
  refine aft _ (fun M2 I2 => ?_)
  refine xif rfl ?_
  exact nx M2 I2
set_option maxRecDepth 20000 in
theorem lw_41 (hG : gN G ≤ 3072) (hi : i + 6 ≤ gN G) (I : Iv 0 M) (hk : gX G i &&& 63 = nI 41) (nx : ∀ M2, Iv 0 M2 → LE 18 [some (.ref 1000), some (.ref 0), some (.ref 59), some (.int (nI i + 6))] [] (HH M2) 73 5035) : wpI (xX (gN G) (gX G)) (CW G 11) xal 600000 7302250 2 (fun w _ => w = some (.int 1)) LE kL_law 400 true (xseek 18 kL_law) [some (.ref 1000), some (.ref 0), some (.ref 59), some (.int (nI i))] [] (HH M) 73 5035 := by
  refine xelse (fun z => absurd hi ((lw_ex hG (by omega)).mp z)) ?_
  refine xix (n := gN G) i rfl (by omega) (by omega) (fun e => ?_)
  refine xelse (by rw [e, hk]; decide) ?_
  refine xtb_at _ 0 41 1558 (by rw [e, hk]; decide) rfl ?_
  refine xix (n := gN G) (i + 1) (ia rfl rfl) (by omega) (by omega) (fun _ => ?_)
  refine xix (n := gN G) (i + 2) (ia rfl rfl) (by omega) (by omega) (fun _ => ?_)
  refine st_judge I _ _ (fun r M1 aft => ?_)
  refine xix (n := gN G) (i + 1) (ia rfl rfl) (by omega) (by omega) (fun _ => ?_)
  refine xix (n := gN G) (i + 2) (ia rfl rfl) (by omega) (by omega) (fun _ => ?_)
  refine aft _ (fun M2 I2 => ?_)
  refine xif rfl ?_
  exact nx M2 I2
set_option maxRecDepth 20000 in
theorem lw_42 (hG : gN G ≤ 3072) (hi : i + 6 ≤ gN G) (I : Iv 0 M) (hk : gX G i &&& 63 = nI 42) (nx : ∀ M2, Iv 0 M2 → LE 18 [some (.ref 1000), some (.ref 0), some (.ref 59), some (.int (nI i + 6))] [] (HH M2) 73 5035) : wpI (xX (gN G) (gX G)) (CW G 11) xal 600000 7302250 2 (fun w _ => w = some (.int 1)) LE kL_law 400 true (xseek 18 kL_law) [some (.ref 1000), some (.ref 0), some (.ref 59), some (.int (nI i))] [] (HH M) 73 5035 := by
  refine xelse (fun z => absurd hi ((lw_ex hG (by omega)).mp z)) ?_
  refine xix (n := gN G) i rfl (by omega) (by omega) (fun e => ?_)
  refine xelse (by rw [e, hk]; decide) ?_
  refine xtb_at _ 0 42 1591 (by rw [e, hk]; decide) rfl ?_
  refine st_image I  (fun r M1 aft => ?_)
  refine aft _ (fun M2 I2 => ?_)
  refine xif rfl ?_
  exact nx M2 I2
set_option maxRecDepth 20000 in
theorem lw_43 (hG : gN G ≤ 3072) (hi : i + 6 ≤ gN G) (I : Iv 0 M) (hk : gX G i &&& 63 = nI 43) (nx : ∀ M2, Iv 0 M2 → LE 18 [some (.ref 1000), some (.ref 0), some (.ref 59), some (.int (nI i + 6))] [] (HH M2) 73 5035) : wpI (xX (gN G) (gX G)) (CW G 11) xal 600000 7302250 2 (fun w _ => w = some (.int 1)) LE kL_law 400 true (xseek 18 kL_law) [some (.ref 1000), some (.ref 0), some (.ref 59), some (.int (nI i))] [] (HH M) 73 5035 := by
  refine xelse (fun z => absurd hi ((lw_ex hG (by omega)).mp z)) ?_
  refine xix (n := gN G) i rfl (by omega) (by omega) (fun e => ?_)
  refine xelse (by rw [e, hk]; decide) ?_
  refine xtb_at _ 0 43 1604 (by rw [e, hk]; decide) rfl ?_
  refine st_undo I  (fun r M1 aft => ?_)
  refine aft _ (fun M2 I2 => ?_)
  refine xif rfl ?_
  exact nx M2 I2
set_option maxRecDepth 20000 in
theorem lw_44 (hG : gN G ≤ 3072) (hi : i + 6 ≤ gN G) (I : Iv 0 M) (hk : gX G i &&& 63 = nI 44) (nx : ∀ M2, Iv 0 M2 → LE 18 [some (.ref 1000), some (.ref 0), some (.ref 59), some (.int (nI i + 6))] [] (HH M2) 73 5035) : wpI (xX (gN G) (gX G)) (CW G 11) xal 600000 7302250 2 (fun w _ => w = some (.int 1)) LE kL_law 400 true (xseek 18 kL_law) [some (.ref 1000), some (.ref 0), some (.ref 59), some (.int (nI i))] [] (HH M) 73 5035 := by
  refine xelse (fun z => absurd hi ((lw_ex hG (by omega)).mp z)) ?_
  refine xix (n := gN G) i rfl (by omega) (by omega) (fun e => ?_)
  refine xelse (by rw [e, hk]; decide) ?_
  refine xtb_at _ 0 44 1617 (by rw [e, hk]; decide) rfl ?_
  refine st_tear I  (fun r M1 aft => ?_)
  refine aft _ (fun M2 I2 => ?_)
  refine xif rfl ?_
  exact nx M2 I2
set_option maxRecDepth 20000 in
theorem lw_45 (hG : gN G ≤ 3072) (hi : i + 6 ≤ gN G) (I : Iv 0 M) (hk : gX G i &&& 63 = nI 45) (nx : ∀ M2, Iv 0 M2 → LE 18 [some (.ref 1000), some (.ref 0), some (.ref 59), some (.int (nI i + 6))] [] (HH M2) 73 5035) : wpI (xX (gN G) (gX G)) (CW G 11) xal 600000 7302250 2 (fun w _ => w = some (.int 1)) LE kL_law 400 true (xseek 18 kL_law) [some (.ref 1000), some (.ref 0), some (.ref 59), some (.int (nI i))] [] (HH M) 73 5035 := by
  refine xelse (fun z => absurd hi ((lw_ex hG (by omega)).mp z)) ?_
  refine xix (n := gN G) i rfl (by omega) (by omega) (fun e => ?_)
  refine xelse (by rw [e, hk]; decide) ?_
  refine xtb_at _ 0 45 1630 (by rw [e, hk]; decide) rfl ?_
  refine xix (n := gN G) (i + 1) (ia rfl rfl) (by omega) (by omega) (fun _ => ?_)
  refine st_count I _ (fun r M1 aft => ?_)
  refine xix (n := gN G) (i + 1) (ia rfl rfl) (by omega) (by omega) (fun _ => ?_)
  refine aft _ (fun M2 I2 => ?_)
  refine xif rfl ?_
  exact nx M2 I2
set_option maxRecDepth 20000 in
theorem lw_46 (hG : gN G ≤ 3072) (hi : i + 6 ≤ gN G) (I : Iv 0 M) (hk : gX G i &&& 63 = nI 46) (nx : ∀ M2, Iv 0 M2 → LE 18 [some (.ref 1000), some (.ref 0), some (.ref 59), some (.int (nI i + 6))] [] (HH M2) 73 5035) : wpI (xX (gN G) (gX G)) (CW G 11) xal 600000 7302250 2 (fun w _ => w = some (.int 1)) LE kL_law 400 true (xseek 18 kL_law) [some (.ref 1000), some (.ref 0), some (.ref 59), some (.int (nI i))] [] (HH M) 73 5035 := by
  refine xelse (fun z => absurd hi ((lw_ex hG (by omega)).mp z)) ?_
  refine xix (n := gN G) i rfl (by omega) (by omega) (fun e => ?_)
  refine xelse (by rw [e, hk]; decide) ?_
  refine xtb_at _ 0 46 1653 (by rw [e, hk]; decide) rfl ?_
  refine xix (n := gN G) (i + 1) (ia rfl rfl) (by omega) (by omega) (fun _ => ?_)
  refine st_status I _ (fun r M1 aft => ?_)
  refine xix (n := gN G) (i + 1) (ia rfl rfl) (by omega) (by omega) (fun _ => ?_)
  refine aft _ (fun M2 I2 => ?_)
  refine xif rfl ?_
  exact nx M2 I2
end LW
