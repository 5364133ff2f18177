/-! How the objects are made: the constructors. -/
def nwR (L : Nat) (R : Nat → Nat → Option Nat) : Nat → Nat → Option Nat := fun i => if i = L then fun _ => none else R i
theorem nwR_id {L : Nat} {R : Nat → Nat → Option Nat} (h : R L = fun _ => none) : nwR L R = R := by
  funext i
  unfold nwR
  by_cases c : i = L
  · rw [if_pos c, c, h]
  · rw [if_neg c]
theorem zr_id {L : Nat} {M : xM} (h : M L = fun _ => 0) : xrow M L (fun _ => 0) = M := by
  have e := xrow_self M L
  rw [h] at e
  exact e
def apR (R : Nat → Nat → Option Nat) : List (Nat × Nat × Nat) → Nat → Nat → Option Nat
  | [] => R
  | w :: l => apR (xrup R w.1 w.2.1 (some w.2.2)) l
theorem apR_fr {r : Nat} : ∀ (l : List (Nat × Nat × Nat)) (R : Nat → Nat → Option Nat), (∀ w ∈ l, w.1 ≠ r) → R r = (fun _ => none) → apR R l r = fun _ => none
  | [], _, _, h => h
  | w :: l, R, hl, h => apR_fr l _ (fun w' hw' => hl w' (List.mem_cons_of_mem _ hw')) (by
    funext j
    have hne := hl w List.mem_cons_self
    unfold xrup
    rw [if_neg (by rintro ⟨z, -⟩; exact hne z.symm), h])
theorem apR_frL {L r : Nat} (hr : L ≤ r) (l : List (Nat × Nat × Nat)) (R : Nat → Nat → Option Nat) (h : ∀ w ∈ l, w.1 < L) (h2 : R r = fun _ => none) : apR R l r = fun _ => none := apR_fr l R (fun w hw => by
  have := h w hw
  omega) h2
theorem cw_h {G : xG} {d j : Nat} {as : List Value} {h1 h2 : xH} {Q : Option Value → xH → Prop} (e : h1 = h2) (c : CW G d j as h2 Q) : CW G d j as h1 Q := by rw [e]; exact c
section C0
variable {G : xG} {d : Nat} {M : xM} {R : Nat → Nat → Option Nat} {Q : Option Value → xH → Prop}
theorem i_ways1 (hR : ∀ r, 3 ≤ r → R r = fun _ => none) (hM : ∀ r, 3 ≤ r → M r = fun _ => 0) (q : Q none (SH.take 4, apR R [(2, 0, 3)], M)) : CW G d jX7_init [.ref 2] (SH.take 3, R, M) Q := by
  refine CW_wp fX7_init rfl rfl rfl ?_
  refine And.intro ⟨by decide, by decide, by decide, by decide, by decide⟩ ?_
  have hq : Q none ((SH.take 3 ++ [(0, 10)]), (xrup (nwR 3 R) 2 0 (some 3)), (xrow M 3 (fun _ => 0))) := by
    rw [nwR_id (L := 3) (R := R) (show apR R [] 3 = fun _ => none from apR_fr _ R (by decide) (hR _ (by decide)))]
    rw [zr_id (L := 3) (M := M) (hM _ (by decide))]
    exact q
  exact hq
theorem i_say1 (hR : ∀ r, 5 ≤ r → R r = fun _ => none) (hM : ∀ r, 5 ≤ r → M r = fun _ => 0) (q : Q none (SH.take 11, apR R [(4, 1, 5), (4, 2, 6), (4, 3, 7), (4, 4, 8), (4, 5, 9), (4, 6, 10)], M)) : CW G d jX3_init [.ref 4] (SH.take 5, R, M) Q := by
  refine CW_wp fX3_init rfl rfl rfl ?_
  refine And.intro ⟨by decide, by decide, by decide, by decide, by decide⟩ ?_
  refine And.intro ⟨by decide, by decide, by decide, by decide, by decide⟩ ?_
  refine And.intro ⟨by decide, by decide, by decide, by decide, by decide⟩ ?_
  refine And.intro ⟨by decide, by decide, by decide, by decide, by decide⟩ ?_
  refine And.intro ⟨by decide, by decide, by decide, by decide, by decide⟩ ?_
  refine And.intro ⟨by decide, by decide, by decide, by decide, by decide⟩ ?_
  have hq : Q none (((((((SH.take 5 ++ [(0, 40)]) ++ [(0, 40)]) ++ [(0, 40)]) ++ [(0, 40)]) ++ [(0, 40)]) ++ [(0, 40)]), (xrup (nwR 10 (xrup (nwR 9 (xrup (nwR 8 (xrup (nwR 7 (xrup (nwR 6 (xrup (nwR 5 R) 4 1 (some 5))) 4 2 (some 6))) 4 3 (some 7))) 4 4 (some 8))) 4 5 (some 9))) 4 6 (some 10)), (xrow (xrow (xrow (xrow (xrow (xrow M 5 (fun _ => 0)) 6 (fun _ => 0)) 7 (fun _ => 0)) 8 (fun _ => 0)) 9 (fun _ => 0)) 10 (fun _ => 0))) := by
    rw [nwR_id (L := 5) (R := R) (show apR R [] 5 = fun _ => none from apR_fr _ R (by decide) (hR _ (by decide)))]
    rw [zr_id (L := 5) (M := M) (hM _ (by decide))]
    rw [nwR_id (L := 6) (R := (xrup R 4 1 (some 5))) (show apR R [(4, 1, 5)] 6 = fun _ => none from apR_fr _ R (by decide) (hR _ (by decide)))]
    rw [zr_id (L := 6) (M := M) (hM _ (by decide))]
    rw [nwR_id (L := 7) (R := (xrup (xrup R 4 1 (some 5)) 4 2 (some 6))) (show apR R [(4, 1, 5), (4, 2, 6)] 7 = fun _ => none from apR_fr _ R (by decide) (hR _ (by decide)))]
    rw [zr_id (L := 7) (M := M) (hM _ (by decide))]
    rw [nwR_id (L := 8) (R := (xrup (xrup (xrup R 4 1 (some 5)) 4 2 (some 6)) 4 3 (some 7))) (show apR R [(4, 1, 5), (4, 2, 6), (4, 3, 7)] 8 = fun _ => none from apR_fr _ R (by decide) (hR _ (by decide)))]
    rw [zr_id (L := 8) (M := M) (hM _ (by decide))]
    rw [nwR_id (L := 9) (R := (xrup (xrup (xrup (xrup R 4 1 (some 5)) 4 2 (some 6)) 4 3 (some 7)) 4 4 (some 8))) (show apR R [(4, 1, 5), (4, 2, 6), (4, 3, 7), (4, 4, 8)] 9 = fun _ => none from apR_fr _ R (by decide) (hR _ (by decide)))]
    rw [zr_id (L := 9) (M := M) (hM _ (by decide))]
    rw [nwR_id (L := 10) (R := (xrup (xrup (xrup (xrup (xrup R 4 1 (some 5)) 4 2 (some 6)) 4 3 (some 7)) 4 4 (some 8)) 4 5 (some 9))) (show apR R [(4, 1, 5), (4, 2, 6), (4, 3, 7), (4, 4, 8), (4, 5, 9)] 10 = fun _ => none from apR_fr _ R (by decide) (hR _ (by decide)))]
    rw [zr_id (L := 10) (M := M) (hM _ (by decide))]
    exact q
  exact hq
theorem i_ppl1 (hR : ∀ r, 12 ≤ r → R r = fun _ => none) (hM : ∀ r, 12 ≤ r → M r = fun _ => 0) (q : ∀ f, (∀ j, j < 144 → f j = -1) → Q none (SH.take 13, apR R [(11, 0, 12)], xrow M 12 f)) : CW G (d + 1) jX1_init [.ref 11] (SH.take 12, R, M) Q := by
  refine CW_wp fX1_init rfl rfl rfl ?_
  refine And.intro ⟨by decide, by decide, by decide, by decide, by decide⟩ ?_
  refine cw_h (h2 := (SH.take 13, apR R [(11, 0, 12)], M)) ?_ (c_fill (SH.take 13) _ M 12 144 (by decide) rfl (-1) ?_)
  · show (SH.take 12 ++ [(0, 144)], xrup (nwR 12 R) 11 0 (some 12), xrow M 12 (fun _ => 0)) = _
    rw [nwR_id (hR _ (by decide)), zr_id (hM _ (by decide))]
    rfl
  · exact q (ffill (M 12) (-1) 144) (fun j hj => if_pos hj)
theorem i_val1 (hR : ∀ r, 2 ≤ r → R r = fun _ => none) (hM : ∀ r, 2 ≤ r → M r = fun _ => 0) (q : ∀ f g, (∀ j, j < 144 → f j = -1) → (∀ j, j < 10 → g j = -1) → Q none (SH.take 15, apR R [(2, 0, 3), (1, 0, 2), (4, 1, 5), (4, 2, 6), (4, 3, 7), (4, 4, 8), (4, 5, 9), (4, 6, 10), (1, 1, 4), (11, 0, 12), (1, 2, 11), (1, 3, 13), (1, 4, 14)], xrow (xup (xup (xrow M 12 f) 1 6 9) 1 7 1) 14 g)) : CW G (d + 2) jX5_init [.ref 1] (SH.take 2, R, M) Q := by
  refine CW_wp fX5_init rfl rfl rfl ?_
  refine And.intro ⟨by decide, by decide, by decide⟩ ?_
  refine cw_h (h2 := (SH.take 3, apR R [], M)) ?_ (i_ways1 (fun r hr => apR_frL hr _ R (by decide) (hR r (by omega))) (fun r hr => hM r (by omega)) ?_)
  · show (SH.take 2 ++ [(9, 1)], nwR 2 (apR R []), xrow M 2 (fun _ => 0)) = _
    rw [nwR_id (apR_fr _ R (by decide) (hR _ (by decide))), zr_id (show M 2 = fun _ => 0 from hM _ (by decide))]
    rfl
  refine And.intro ⟨by decide, by decide, by decide⟩ ?_
  refine cw_h (h2 := (SH.take 5, apR R [(2, 0, 3), (1, 0, 2)], M)) ?_ (i_say1 (fun r hr => apR_frL hr _ R (by decide) (hR r (by omega))) (fun r hr => hM r (by omega)) ?_)
  · show (SH.take 4 ++ [(5, 7)], nwR 4 (apR R [(2, 0, 3), (1, 0, 2)]), xrow M 4 (fun _ => 0)) = _
    rw [nwR_id (apR_fr _ R (by decide) (hR _ (by decide))), zr_id (show M 4 = fun _ => 0 from hM _ (by decide))]
    rfl
  refine And.intro ⟨by decide, by decide, by decide⟩ ?_
  refine cw_h (h2 := (SH.take 12, apR R [(2, 0, 3), (1, 0, 2), (4, 1, 5), (4, 2, 6), (4, 3, 7), (4, 4, 8), (4, 5, 9), (4, 6, 10), (1, 1, 4)], M)) ?_ (i_ppl1 (fun r hr => apR_frL hr _ R (by decide) (hR r (by omega))) (fun r hr => hM r (by omega)) (fun f hf => ?_))
  · show (SH.take 11 ++ [(3, 1)], nwR 11 (apR R [(2, 0, 3), (1, 0, 2), (4, 1, 5), (4, 2, 6), (4, 3, 7), (4, 4, 8), (4, 5, 9), (4, 6, 10), (1, 1, 4)]), xrow M 11 (fun _ => 0)) = _
    rw [nwR_id (apR_fr _ R (by decide) (hR _ (by decide))), zr_id (hM _ (by decide))]
    rfl
  refine And.intro ⟨by decide, by decide, by decide, by decide, by decide⟩ ?_
  refine And.intro ⟨by decide, by decide, by decide, by decide, by decide⟩ ?_
  refine cw_h (h2 := (SH.take 15, apR R [(2, 0, 3), (1, 0, 2), (4, 1, 5), (4, 2, 6), (4, 3, 7), (4, 4, 8), (4, 5, 9), (4, 6, 10), (1, 1, 4), (11, 0, 12), (1, 2, 11), (1, 3, 13), (1, 4, 14)], xup (xup (xrow M 12 f) 1 6 9) 1 7 1)) ?_ (c_fill (SH.take 15) _ _ 14 10 (by decide) rfl (-1) ?_)
  · show (SH.take 13 ++ [(0, 100)] ++ [(0, 10)], xrup (nwR 14 (xrup (nwR 13 (apR R [(2, 0, 3), (1, 0, 2), (4, 1, 5), (4, 2, 6), (4, 3, 7), (4, 4, 8), (4, 5, 9), (4, 6, 10), (1, 1, 4), (11, 0, 12), (1, 2, 11)])) 1 3 (some 13))) 1 4 (some 14), xup (xup (xrow (xrow (xrow M 12 f) 13 (fun _ => 0)) 14 (fun _ => 0)) 1 6 9) 1 7 1) = _
    rw [nwR_id (L := 13) (apR_fr _ R (by decide) (hR _ (by decide))), nwR_id (L := 14) (R := xrup (apR R [(2, 0, 3), (1, 0, 2), (4, 1, 5), (4, 2, 6), (4, 3, 7), (4, 4, 8), (4, 5, 9), (4, 6, 10), (1, 1, 4), (11, 0, 12), (1, 2, 11)]) 1 3 (some 13)) (show apR R [(2, 0, 3), (1, 0, 2), (4, 1, 5), (4, 2, 6), (4, 3, 7), (4, 4, 8), (4, 5, 9), (4, 6, 10), (1, 1, 4), (11, 0, 12), (1, 2, 11), (1, 3, 13)] 14 = fun _ => none from apR_fr _ R (by decide) (hR _ (by decide)))]
    rw [zr_id (L := 13) (show xrow M 12 f 13 = fun _ => 0 from hM _ (by decide)), zr_id (L := 14) (show xrow M 12 f 14 = fun _ => 0 from hM _ (by decide))]
    rfl
  · exact q f _ hf (fun j hj => if_pos hj)
theorem i_ways15 (hR : ∀ r, 17 ≤ r → R r = fun _ => none) (hM : ∀ r, 17 ≤ r → M r = fun _ => 0) (q : Q none (SH.take 18, apR R [(16, 0, 17)], M)) : CW G d jX7_init [.ref 16] (SH.take 17, R, M) Q := by
  refine CW_wp fX7_init rfl rfl rfl ?_
  refine And.intro ⟨by decide, by decide, by decide, by decide, by decide⟩ ?_
  have hq : Q none ((SH.take 17 ++ [(0, 10)]), (xrup (nwR 17 R) 16 0 (some 17)), (xrow M 17 (fun _ => 0))) := by
    rw [nwR_id (L := 17) (R := R) (show apR R [] 17 = fun _ => none from apR_fr _ R (by decide) (hR _ (by decide)))]
    rw [zr_id (L := 17) (M := M) (hM _ (by decide))]
    exact q
  exact hq
theorem i_say15 (hR : ∀ r, 19 ≤ r → R r = fun _ => none) (hM : ∀ r, 19 ≤ r → M r = fun _ => 0) (q : Q none (SH.take 25, apR R [(18, 1, 19), (18, 2, 20), (18, 3, 21), (18, 4, 22), (18, 5, 23), (18, 6, 24)], M)) : CW G d jX3_init [.ref 18] (SH.take 19, R, M) Q := by
  refine CW_wp fX3_init rfl rfl rfl ?_
  refine And.intro ⟨by decide, by decide, by decide, by decide, by decide⟩ ?_
  refine And.intro ⟨by decide, by decide, by decide, by decide, by decide⟩ ?_
  refine And.intro ⟨by decide, by decide, by decide, by decide, by decide⟩ ?_
  refine And.intro ⟨by decide, by decide, by decide, by decide, by decide⟩ ?_
  refine And.intro ⟨by decide, by decide, by decide, by decide, by decide⟩ ?_
  refine And.intro ⟨by decide, by decide, by decide, by decide, by decide⟩ ?_
  have hq : Q none (((((((SH.take 19 ++ [(0, 40)]) ++ [(0, 40)]) ++ [(0, 40)]) ++ [(0, 40)]) ++ [(0, 40)]) ++ [(0, 40)]), (xrup (nwR 24 (xrup (nwR 23 (xrup (nwR 22 (xrup (nwR 21 (xrup (nwR 20 (xrup (nwR 19 R) 18 1 (some 19))) 18 2 (some 20))) 18 3 (some 21))) 18 4 (some 22))) 18 5 (some 23))) 18 6 (some 24)), (xrow (xrow (xrow (xrow (xrow (xrow M 19 (fun _ => 0)) 20 (fun _ => 0)) 21 (fun _ => 0)) 22 (fun _ => 0)) 23 (fun _ => 0)) 24 (fun _ => 0))) := by
    rw [nwR_id (L := 19) (R := R) (show apR R [] 19 = fun _ => none from apR_fr _ R (by decide) (hR _ (by decide)))]
    rw [zr_id (L := 19) (M := M) (hM _ (by decide))]
    rw [nwR_id (L := 20) (R := (xrup R 18 1 (some 19))) (show apR R [(18, 1, 19)] 20 = fun _ => none from apR_fr _ R (by decide) (hR _ (by decide)))]
    rw [zr_id (L := 20) (M := M) (hM _ (by decide))]
    rw [nwR_id (L := 21) (R := (xrup (xrup R 18 1 (some 19)) 18 2 (some 20))) (show apR R [(18, 1, 19), (18, 2, 20)] 21 = fun _ => none from apR_fr _ R (by decide) (hR _ (by decide)))]
    rw [zr_id (L := 21) (M := M) (hM _ (by decide))]
    rw [nwR_id (L := 22) (R := (xrup (xrup (xrup R 18 1 (some 19)) 18 2 (some 20)) 18 3 (some 21))) (show apR R [(18, 1, 19), (18, 2, 20), (18, 3, 21)] 22 = fun _ => none from apR_fr _ R (by decide) (hR _ (by decide)))]
    rw [zr_id (L := 22) (M := M) (hM _ (by decide))]
    rw [nwR_id (L := 23) (R := (xrup (xrup (xrup (xrup R 18 1 (some 19)) 18 2 (some 20)) 18 3 (some 21)) 18 4 (some 22))) (show apR R [(18, 1, 19), (18, 2, 20), (18, 3, 21), (18, 4, 22)] 23 = fun _ => none from apR_fr _ R (by decide) (hR _ (by decide)))]
    rw [zr_id (L := 23) (M := M) (hM _ (by decide))]
    rw [nwR_id (L := 24) (R := (xrup (xrup (xrup (xrup (xrup R 18 1 (some 19)) 18 2 (some 20)) 18 3 (some 21)) 18 4 (some 22)) 18 5 (some 23))) (show apR R [(18, 1, 19), (18, 2, 20), (18, 3, 21), (18, 4, 22), (18, 5, 23)] 24 = fun _ => none from apR_fr _ R (by decide) (hR _ (by decide)))]
    rw [zr_id (L := 24) (M := M) (hM _ (by decide))]
    exact q
  exact hq
theorem i_ppl15 (hR : ∀ r, 26 ≤ r → R r = fun _ => none) (hM : ∀ r, 26 ≤ r → M r = fun _ => 0) (q : ∀ f, (∀ j, j < 144 → f j = -1) → Q none (SH.take 27, apR R [(25, 0, 26)], xrow M 26 f)) : CW G (d + 1) jX1_init [.ref 25] (SH.take 26, R, M) Q := by
  refine CW_wp fX1_init rfl rfl rfl ?_
  refine And.intro ⟨by decide, by decide, by decide, by decide, by decide⟩ ?_
  refine cw_h (h2 := (SH.take 27, apR R [(25, 0, 26)], M)) ?_ (c_fill (SH.take 27) _ M 26 144 (by decide) rfl (-1) ?_)
  · show (SH.take 26 ++ [(0, 144)], xrup (nwR 26 R) 25 0 (some 26), xrow M 26 (fun _ => 0)) = _
    rw [nwR_id (hR _ (by decide)), zr_id (hM _ (by decide))]
    rfl
  · exact q (ffill (M 26) (-1) 144) (fun j hj => if_pos hj)
theorem i_val15 (hR : ∀ r, 16 ≤ r → R r = fun _ => none) (hM : ∀ r, 16 ≤ r → M r = fun _ => 0) (q : ∀ f g, (∀ j, j < 144 → f j = -1) → (∀ j, j < 10 → g j = -1) → Q none (SH.take 29, apR R [(16, 0, 17), (15, 0, 16), (18, 1, 19), (18, 2, 20), (18, 3, 21), (18, 4, 22), (18, 5, 23), (18, 6, 24), (15, 1, 18), (25, 0, 26), (15, 2, 25), (15, 3, 27), (15, 4, 28)], xrow (xup (xup (xrow M 26 f) 15 6 9) 15 7 1) 28 g)) : CW G (d + 2) jX5_init [.ref 15] (SH.take 16, R, M) Q := by
  refine CW_wp fX5_init rfl rfl rfl ?_
  refine And.intro ⟨by decide, by decide, by decide⟩ ?_
  refine cw_h (h2 := (SH.take 17, apR R [], M)) ?_ (i_ways15 (fun r hr => apR_frL hr _ R (by decide) (hR r (by omega))) (fun r hr => hM r (by omega)) ?_)
  · show (SH.take 16 ++ [(9, 1)], nwR 16 (apR R []), xrow M 16 (fun _ => 0)) = _
    rw [nwR_id (apR_fr _ R (by decide) (hR _ (by decide))), zr_id (show M 16 = fun _ => 0 from hM _ (by decide))]
    rfl
  refine And.intro ⟨by decide, by decide, by decide⟩ ?_
  refine cw_h (h2 := (SH.take 19, apR R [(16, 0, 17), (15, 0, 16)], M)) ?_ (i_say15 (fun r hr => apR_frL hr _ R (by decide) (hR r (by omega))) (fun r hr => hM r (by omega)) ?_)
  · show (SH.take 18 ++ [(5, 7)], nwR 18 (apR R [(16, 0, 17), (15, 0, 16)]), xrow M 18 (fun _ => 0)) = _
    rw [nwR_id (apR_fr _ R (by decide) (hR _ (by decide))), zr_id (show M 18 = fun _ => 0 from hM _ (by decide))]
    rfl
  refine And.intro ⟨by decide, by decide, by decide⟩ ?_
  refine cw_h (h2 := (SH.take 26, apR R [(16, 0, 17), (15, 0, 16), (18, 1, 19), (18, 2, 20), (18, 3, 21), (18, 4, 22), (18, 5, 23), (18, 6, 24), (15, 1, 18)], M)) ?_ (i_ppl15 (fun r hr => apR_frL hr _ R (by decide) (hR r (by omega))) (fun r hr => hM r (by omega)) (fun f hf => ?_))
  · show (SH.take 25 ++ [(3, 1)], nwR 25 (apR R [(16, 0, 17), (15, 0, 16), (18, 1, 19), (18, 2, 20), (18, 3, 21), (18, 4, 22), (18, 5, 23), (18, 6, 24), (15, 1, 18)]), xrow M 25 (fun _ => 0)) = _
    rw [nwR_id (apR_fr _ R (by decide) (hR _ (by decide))), zr_id (hM _ (by decide))]
    rfl
  refine And.intro ⟨by decide, by decide, by decide, by decide, by decide⟩ ?_
  refine And.intro ⟨by decide, by decide, by decide, by decide, by decide⟩ ?_
  refine cw_h (h2 := (SH.take 29, apR R [(16, 0, 17), (15, 0, 16), (18, 1, 19), (18, 2, 20), (18, 3, 21), (18, 4, 22), (18, 5, 23), (18, 6, 24), (15, 1, 18), (25, 0, 26), (15, 2, 25), (15, 3, 27), (15, 4, 28)], xup (xup (xrow M 26 f) 15 6 9) 15 7 1)) ?_ (c_fill (SH.take 29) _ _ 28 10 (by decide) rfl (-1) ?_)
  · show (SH.take 27 ++ [(0, 100)] ++ [(0, 10)], xrup (nwR 28 (xrup (nwR 27 (apR R [(16, 0, 17), (15, 0, 16), (18, 1, 19), (18, 2, 20), (18, 3, 21), (18, 4, 22), (18, 5, 23), (18, 6, 24), (15, 1, 18), (25, 0, 26), (15, 2, 25)])) 15 3 (some 27))) 15 4 (some 28), xup (xup (xrow (xrow (xrow M 26 f) 27 (fun _ => 0)) 28 (fun _ => 0)) 15 6 9) 15 7 1) = _
    rw [nwR_id (L := 27) (apR_fr _ R (by decide) (hR _ (by decide))), nwR_id (L := 28) (R := xrup (apR R [(16, 0, 17), (15, 0, 16), (18, 1, 19), (18, 2, 20), (18, 3, 21), (18, 4, 22), (18, 5, 23), (18, 6, 24), (15, 1, 18), (25, 0, 26), (15, 2, 25)]) 15 3 (some 27)) (show apR R [(16, 0, 17), (15, 0, 16), (18, 1, 19), (18, 2, 20), (18, 3, 21), (18, 4, 22), (18, 5, 23), (18, 6, 24), (15, 1, 18), (25, 0, 26), (15, 2, 25), (15, 3, 27)] 28 = fun _ => none from apR_fr _ R (by decide) (hR _ (by decide)))]
    rw [zr_id (L := 27) (show xrow M 26 f 27 = fun _ => 0 from hM _ (by decide)), zr_id (L := 28) (show xrow M 26 f 28 = fun _ => 0 from hM _ (by decide))]
    rfl
  · exact q f _ hf (fun j hj => if_pos hj)
theorem i_ways29 (hR : ∀ r, 31 ≤ r → R r = fun _ => none) (hM : ∀ r, 31 ≤ r → M r = fun _ => 0) (q : Q none (SH.take 32, apR R [(30, 0, 31)], M)) : CW G d jX7_init [.ref 30] (SH.take 31, R, M) Q := by
  refine CW_wp fX7_init rfl rfl rfl ?_
  refine And.intro ⟨by decide, by decide, by decide, by decide, by decide⟩ ?_
  have hq : Q none ((SH.take 31 ++ [(0, 10)]), (xrup (nwR 31 R) 30 0 (some 31)), (xrow M 31 (fun _ => 0))) := by
    rw [nwR_id (L := 31) (R := R) (show apR R [] 31 = fun _ => none from apR_fr _ R (by decide) (hR _ (by decide)))]
    rw [zr_id (L := 31) (M := M) (hM _ (by decide))]
    exact q
  exact hq
theorem i_say29 (hR : ∀ r, 33 ≤ r → R r = fun _ => none) (hM : ∀ r, 33 ≤ r → M r = fun _ => 0) (q : Q none (SH.take 39, apR R [(32, 1, 33), (32, 2, 34), (32, 3, 35), (32, 4, 36), (32, 5, 37), (32, 6, 38)], M)) : CW G d jX3_init [.ref 32] (SH.take 33, R, M) Q := by
  refine CW_wp fX3_init rfl rfl rfl ?_
  refine And.intro ⟨by decide, by decide, by decide, by decide, by decide⟩ ?_
  refine And.intro ⟨by decide, by decide, by decide, by decide, by decide⟩ ?_
  refine And.intro ⟨by decide, by decide, by decide, by decide, by decide⟩ ?_
  refine And.intro ⟨by decide, by decide, by decide, by decide, by decide⟩ ?_
  refine And.intro ⟨by decide, by decide, by decide, by decide, by decide⟩ ?_
  refine And.intro ⟨by decide, by decide, by decide, by decide, by decide⟩ ?_
  have hq : Q none (((((((SH.take 33 ++ [(0, 40)]) ++ [(0, 40)]) ++ [(0, 40)]) ++ [(0, 40)]) ++ [(0, 40)]) ++ [(0, 40)]), (xrup (nwR 38 (xrup (nwR 37 (xrup (nwR 36 (xrup (nwR 35 (xrup (nwR 34 (xrup (nwR 33 R) 32 1 (some 33))) 32 2 (some 34))) 32 3 (some 35))) 32 4 (some 36))) 32 5 (some 37))) 32 6 (some 38)), (xrow (xrow (xrow (xrow (xrow (xrow M 33 (fun _ => 0)) 34 (fun _ => 0)) 35 (fun _ => 0)) 36 (fun _ => 0)) 37 (fun _ => 0)) 38 (fun _ => 0))) := by
    rw [nwR_id (L := 33) (R := R) (show apR R [] 33 = fun _ => none from apR_fr _ R (by decide) (hR _ (by decide)))]
    rw [zr_id (L := 33) (M := M) (hM _ (by decide))]
    rw [nwR_id (L := 34) (R := (xrup R 32 1 (some 33))) (show apR R [(32, 1, 33)] 34 = fun _ => none from apR_fr _ R (by decide) (hR _ (by decide)))]
    rw [zr_id (L := 34) (M := M) (hM _ (by decide))]
    rw [nwR_id (L := 35) (R := (xrup (xrup R 32 1 (some 33)) 32 2 (some 34))) (show apR R [(32, 1, 33), (32, 2, 34)] 35 = fun _ => none from apR_fr _ R (by decide) (hR _ (by decide)))]
    rw [zr_id (L := 35) (M := M) (hM _ (by decide))]
    rw [nwR_id (L := 36) (R := (xrup (xrup (xrup R 32 1 (some 33)) 32 2 (some 34)) 32 3 (some 35))) (show apR R [(32, 1, 33), (32, 2, 34), (32, 3, 35)] 36 = fun _ => none from apR_fr _ R (by decide) (hR _ (by decide)))]
    rw [zr_id (L := 36) (M := M) (hM _ (by decide))]
    rw [nwR_id (L := 37) (R := (xrup (xrup (xrup (xrup R 32 1 (some 33)) 32 2 (some 34)) 32 3 (some 35)) 32 4 (some 36))) (show apR R [(32, 1, 33), (32, 2, 34), (32, 3, 35), (32, 4, 36)] 37 = fun _ => none from apR_fr _ R (by decide) (hR _ (by decide)))]
    rw [zr_id (L := 37) (M := M) (hM _ (by decide))]
    rw [nwR_id (L := 38) (R := (xrup (xrup (xrup (xrup (xrup R 32 1 (some 33)) 32 2 (some 34)) 32 3 (some 35)) 32 4 (some 36)) 32 5 (some 37))) (show apR R [(32, 1, 33), (32, 2, 34), (32, 3, 35), (32, 4, 36), (32, 5, 37)] 38 = fun _ => none from apR_fr _ R (by decide) (hR _ (by decide)))]
    rw [zr_id (L := 38) (M := M) (hM _ (by decide))]
    exact q
  exact hq
theorem i_ppl29 (hR : ∀ r, 40 ≤ r → R r = fun _ => none) (hM : ∀ r, 40 ≤ r → M r = fun _ => 0) (q : ∀ f, (∀ j, j < 144 → f j = -1) → Q none (SH.take 41, apR R [(39, 0, 40)], xrow M 40 f)) : CW G (d + 1) jX1_init [.ref 39] (SH.take 40, R, M) Q := by
  refine CW_wp fX1_init rfl rfl rfl ?_
  refine And.intro ⟨by decide, by decide, by decide, by decide, by decide⟩ ?_
  refine cw_h (h2 := (SH.take 41, apR R [(39, 0, 40)], M)) ?_ (c_fill (SH.take 41) _ M 40 144 (by decide) rfl (-1) ?_)
  · show (SH.take 40 ++ [(0, 144)], xrup (nwR 40 R) 39 0 (some 40), xrow M 40 (fun _ => 0)) = _
    rw [nwR_id (hR _ (by decide)), zr_id (hM _ (by decide))]
    rfl
  · exact q (ffill (M 40) (-1) 144) (fun j hj => if_pos hj)
theorem i_val29 (hR : ∀ r, 30 ≤ r → R r = fun _ => none) (hM : ∀ r, 30 ≤ r → M r = fun _ => 0) (q : ∀ f g, (∀ j, j < 144 → f j = -1) → (∀ j, j < 10 → g j = -1) → Q none (SH.take 43, apR R [(30, 0, 31), (29, 0, 30), (32, 1, 33), (32, 2, 34), (32, 3, 35), (32, 4, 36), (32, 5, 37), (32, 6, 38), (29, 1, 32), (39, 0, 40), (29, 2, 39), (29, 3, 41), (29, 4, 42)], xrow (xup (xup (xrow M 40 f) 29 6 9) 29 7 1) 42 g)) : CW G (d + 2) jX5_init [.ref 29] (SH.take 30, R, M) Q := by
  refine CW_wp fX5_init rfl rfl rfl ?_
  refine And.intro ⟨by decide, by decide, by decide⟩ ?_
  refine cw_h (h2 := (SH.take 31, apR R [], M)) ?_ (i_ways29 (fun r hr => apR_frL hr _ R (by decide) (hR r (by omega))) (fun r hr => hM r (by omega)) ?_)
  · show (SH.take 30 ++ [(9, 1)], nwR 30 (apR R []), xrow M 30 (fun _ => 0)) = _
    rw [nwR_id (apR_fr _ R (by decide) (hR _ (by decide))), zr_id (show M 30 = fun _ => 0 from hM _ (by decide))]
    rfl
  refine And.intro ⟨by decide, by decide, by decide⟩ ?_
  refine cw_h (h2 := (SH.take 33, apR R [(30, 0, 31), (29, 0, 30)], M)) ?_ (i_say29 (fun r hr => apR_frL hr _ R (by decide) (hR r (by omega))) (fun r hr => hM r (by omega)) ?_)
  · show (SH.take 32 ++ [(5, 7)], nwR 32 (apR R [(30, 0, 31), (29, 0, 30)]), xrow M 32 (fun _ => 0)) = _
    rw [nwR_id (apR_fr _ R (by decide) (hR _ (by decide))), zr_id (show M 32 = fun _ => 0 from hM _ (by decide))]
    rfl
  refine And.intro ⟨by decide, by decide, by decide⟩ ?_
  refine cw_h (h2 := (SH.take 40, apR R [(30, 0, 31), (29, 0, 30), (32, 1, 33), (32, 2, 34), (32, 3, 35), (32, 4, 36), (32, 5, 37), (32, 6, 38), (29, 1, 32)], M)) ?_ (i_ppl29 (fun r hr => apR_frL hr _ R (by decide) (hR r (by omega))) (fun r hr => hM r (by omega)) (fun f hf => ?_))
  · show (SH.take 39 ++ [(3, 1)], nwR 39 (apR R [(30, 0, 31), (29, 0, 30), (32, 1, 33), (32, 2, 34), (32, 3, 35), (32, 4, 36), (32, 5, 37), (32, 6, 38), (29, 1, 32)]), xrow M 39 (fun _ => 0)) = _
    rw [nwR_id (apR_fr _ R (by decide) (hR _ (by decide))), zr_id (hM _ (by decide))]
    rfl
  refine And.intro ⟨by decide, by decide, by decide, by decide, by decide⟩ ?_
  refine And.intro ⟨by decide, by decide, by decide, by decide, by decide⟩ ?_
  refine cw_h (h2 := (SH.take 43, apR R [(30, 0, 31), (29, 0, 30), (32, 1, 33), (32, 2, 34), (32, 3, 35), (32, 4, 36), (32, 5, 37), (32, 6, 38), (29, 1, 32), (39, 0, 40), (29, 2, 39), (29, 3, 41), (29, 4, 42)], xup (xup (xrow M 40 f) 29 6 9) 29 7 1)) ?_ (c_fill (SH.take 43) _ _ 42 10 (by decide) rfl (-1) ?_)
  · show (SH.take 41 ++ [(0, 100)] ++ [(0, 10)], xrup (nwR 42 (xrup (nwR 41 (apR R [(30, 0, 31), (29, 0, 30), (32, 1, 33), (32, 2, 34), (32, 3, 35), (32, 4, 36), (32, 5, 37), (32, 6, 38), (29, 1, 32), (39, 0, 40), (29, 2, 39)])) 29 3 (some 41))) 29 4 (some 42), xup (xup (xrow (xrow (xrow M 40 f) 41 (fun _ => 0)) 42 (fun _ => 0)) 29 6 9) 29 7 1) = _
    rw [nwR_id (L := 41) (apR_fr _ R (by decide) (hR _ (by decide))), nwR_id (L := 42) (R := xrup (apR R [(30, 0, 31), (29, 0, 30), (32, 1, 33), (32, 2, 34), (32, 3, 35), (32, 4, 36), (32, 5, 37), (32, 6, 38), (29, 1, 32), (39, 0, 40), (29, 2, 39)]) 29 3 (some 41)) (show apR R [(30, 0, 31), (29, 0, 30), (32, 1, 33), (32, 2, 34), (32, 3, 35), (32, 4, 36), (32, 5, 37), (32, 6, 38), (29, 1, 32), (39, 0, 40), (29, 2, 39), (29, 3, 41)] 42 = fun _ => none from apR_fr _ R (by decide) (hR _ (by decide)))]
    rw [zr_id (L := 41) (show xrow M 40 f 41 = fun _ => 0 from hM _ (by decide)), zr_id (L := 42) (show xrow M 40 f 42 = fun _ => 0 from hM _ (by decide))]
    rfl
  · exact q f _ hf (fun j hj => if_pos hj)
theorem i_reader (hR : ∀ r, 44 ≤ r → R r = fun _ => none) (hM : ∀ r, 44 ≤ r → M r = fun _ => 0) (q : Q none (SH.take 45, apR R [(43, 1, 44)], M)) : CW G d jX2_init [.ref 43] (SH.take 44, R, M) Q := by
  refine CW_wp fX2_init rfl rfl rfl ?_
  refine And.intro ⟨by decide, by decide, by decide, by decide, by decide⟩ ?_
  have hq : Q none ((SH.take 44 ++ [(0, 120)]), (xrup (nwR 44 R) 43 1 (some 44)), (xrow M 44 (fun _ => 0))) := by
    rw [nwR_id (L := 44) (R := R) (show apR R [] 44 = fun _ => none from apR_fr _ R (by decide) (hR _ (by decide)))]
    rw [zr_id (L := 44) (M := M) (hM _ (by decide))]
    exact q
  exact hq
theorem i_walk (hR : ∀ r, 47 ≤ r → R r = fun _ => none) (hM : ∀ r, 47 ≤ r → M r = fun _ => 0) (q : Q none (SH.take 50, apR R [(46, 1, 47), (46, 2, 48), (46, 3, 49)], M)) : CW G d jX6_init [.ref 46] (SH.take 47, R, M) Q := by
  refine CW_wp fX6_init rfl rfl rfl ?_
  refine And.intro ⟨by decide, by decide, by decide, by decide, by decide⟩ ?_
  refine And.intro ⟨by decide, by decide, by decide, by decide, by decide⟩ ?_
  refine And.intro ⟨by decide, by decide, by decide, by decide, by decide⟩ ?_
  have hq : Q none ((((SH.take 47 ++ [(0, 24)]) ++ [(0, 240)]) ++ [(0, 240)]), (xrup (nwR 49 (xrup (nwR 48 (xrup (nwR 47 R) 46 1 (some 47))) 46 2 (some 48))) 46 3 (some 49)), (xrow (xrow (xrow M 47 (fun _ => 0)) 48 (fun _ => 0)) 49 (fun _ => 0))) := by
    rw [nwR_id (L := 47) (R := R) (show apR R [] 47 = fun _ => none from apR_fr _ R (by decide) (hR _ (by decide)))]
    rw [zr_id (L := 47) (M := M) (hM _ (by decide))]
    rw [nwR_id (L := 48) (R := (xrup R 46 1 (some 47))) (show apR R [(46, 1, 47)] 48 = fun _ => none from apR_fr _ R (by decide) (hR _ (by decide)))]
    rw [zr_id (L := 48) (M := M) (hM _ (by decide))]
    rw [nwR_id (L := 49) (R := (xrup (xrup R 46 1 (some 47)) 46 2 (some 48))) (show apR R [(46, 1, 47), (46, 2, 48)] 49 = fun _ => none from apR_fr _ R (by decide) (hR _ (by decide)))]
    rw [zr_id (L := 49) (M := M) (hM _ (by decide))]
    exact q
  exact hq
theorem i_sheet0 (hR : ∀ r, 52 ≤ r → R r = fun _ => none) (hM : ∀ r, 52 ≤ r → M r = fun _ => 0) (q : Q none (SH.take 53, apR R [(51, 2, 52)], M)) : CW G d jX4_init [.ref 51] (SH.take 52, R, M) Q := by
  refine CW_wp fX4_init rfl rfl rfl ?_
  refine And.intro ⟨by decide, by decide, by decide, by decide, by decide⟩ ?_
  have hq : Q none ((SH.take 52 ++ [(0, 40)]), (xrup (nwR 52 R) 51 2 (some 52)), (xrow M 52 (fun _ => 0))) := by
    rw [nwR_id (L := 52) (R := R) (show apR R [] 52 = fun _ => none from apR_fr _ R (by decide) (hR _ (by decide)))]
    rw [zr_id (L := 52) (M := M) (hM _ (by decide))]
    exact q
  exact hq
theorem i_sheet1 (hR : ∀ r, 54 ≤ r → R r = fun _ => none) (hM : ∀ r, 54 ≤ r → M r = fun _ => 0) (q : Q none (SH.take 55, apR R [(53, 2, 54)], M)) : CW G d jX4_init [.ref 53] (SH.take 54, R, M) Q := by
  refine CW_wp fX4_init rfl rfl rfl ?_
  refine And.intro ⟨by decide, by decide, by decide, by decide, by decide⟩ ?_
  have hq : Q none ((SH.take 54 ++ [(0, 40)]), (xrup (nwR 54 R) 53 2 (some 54)), (xrow M 54 (fun _ => 0))) := by
    rw [nwR_id (L := 54) (R := R) (show apR R [] 54 = fun _ => none from apR_fr _ R (by decide) (hR _ (by decide)))]
    rw [zr_id (L := 54) (M := M) (hM _ (by decide))]
    exact q
  exact hq
theorem i_sheet2 (hR : ∀ r, 56 ≤ r → R r = fun _ => none) (hM : ∀ r, 56 ≤ r → M r = fun _ => 0) (q : Q none (SH.take 57, apR R [(55, 2, 56)], M)) : CW G d jX4_init [.ref 55] (SH.take 56, R, M) Q := by
  refine CW_wp fX4_init rfl rfl rfl ?_
  refine And.intro ⟨by decide, by decide, by decide, by decide, by decide⟩ ?_
  have hq : Q none ((SH.take 56 ++ [(0, 40)]), (xrup (nwR 56 R) 55 2 (some 56)), (xrow M 56 (fun _ => 0))) := by
    rw [nwR_id (L := 56) (R := R) (show apR R [] 56 = fun _ => none from apR_fr _ R (by decide) (hR _ (by decide)))]
    rw [zr_id (L := 56) (M := M) (hM _ (by decide))]
    exact q
  exact hq
theorem i_sheet3 (hR : ∀ r, 58 ≤ r → R r = fun _ => none) (hM : ∀ r, 58 ≤ r → M r = fun _ => 0) (q : Q none (SH.take 59, apR R [(57, 2, 58)], M)) : CW G d jX4_init [.ref 57] (SH.take 58, R, M) Q := by
  refine CW_wp fX4_init rfl rfl rfl ?_
  refine And.intro ⟨by decide, by decide, by decide, by decide, by decide⟩ ?_
  have hq : Q none ((SH.take 58 ++ [(0, 40)]), (xrup (nwR 58 R) 57 2 (some 58)), (xrow M 58 (fun _ => 0))) := by
    rw [nwR_id (L := 58) (R := R) (show apR R [] 58 = fun _ => none from apR_fr _ R (by decide) (hR _ (by decide)))]
    rw [zr_id (L := 58) (M := M) (hM _ (by decide))]
    exact q
  exact hq
end C0
