/-! THE LAW. -/
section LX
variable {G : xG} {LE : Nat → xL → List Value → xH → Nat → Nat → Prop}
set_option maxRecDepth 20000 in
theorem lw_out {M : xM} {i : Nat} (hG : gN G ≤ 3072) (hi : i + 6 ≤ gN G) (k : Nat) (h64 : k < 64) (h47 : 47 ≤ k) (hk : gX G i &&& 63 = nI k) (nx : LE 18 [some (.ref 1000), some (.ref 0), some (.ref 59), some (.int (nI i + 6))] [] (HH M) 73 5035) : wpI (xX (gN G) (gX G)) (CW G 11) xal 600000 7302250 2 (fun w _ => w = some (.int 1)) LE kL_law 400 true (xseek 18 kL_law) [some (.ref 1000), some (.ref 0), some (.ref 59), some (.int (nI i))] [] (HH M) 73 5035 := by
  refine xelse (fun z => absurd hi ((lw_ex hG (by omega)).mp z)) ?_
  refine xix (n := gN G) i rfl (by omega) (by omega) (fun e => ?_)
  refine xif (by rw [e, hk, nI_toInt (by omega)]; omega) ?_
  exact nx
set_option maxRecDepth 20000 in
theorem lw_loop (hG : gN G ≤ 3072) (hLE : ∀ (pc : Nat) (ls : xL) (st : List Value) (h : xH) (cs ss : Nat), wpI (xX (gN G) (gX G)) (CW G 11) xal 600000 7302250 2 (fun w _ => w = some (.int 1)) LE kL_law 400 true (xseek pc kL_law) ls st h cs ss → LE pc ls st h cs ss) : ∀ (n i : Nat), gN G ≤ n + i → i ≤ 3100 → ∀ M, Iv 0 M → LE 18 [some (.ref 1000), some (.ref 0), some (.ref 59), some (.int (nI i))] [] (HH M) 73 5035 := by
  intro n
  induction n using Nat.strongRecOn with
  | _ n ih =>
    intro i hn hi M I
    refine hLE 18 _ _ _ _ _ ?_
    by_cases c : i + 6 ≤ gN G
    · have nx : ∀ M2, Iv 0 M2 → LE 18 [some (.ref 1000), some (.ref 0), some (.ref 59), some (.int (nI i + 6))] [] (HH M2) 73 5035 := fun M2 I2 => by
        rw [show nI i + 6 = nI (i + 6) from ia rfl rfl]
        exact ih (n - 6) (by omega) (i + 6) (by omega) (by omega) M2 I2
      obtain ⟨k, hk, e⟩ := pk_andE (gX G i) (m := 63) 6 (by decide)
      match k, hk, e with
      | 0, _, e => exact lw_0 hG c I e nx
      | 1, _, e => exact lw_1 hG c I e nx
      | 2, _, e => exact lw_2 hG c I e nx
      | 3, _, e => exact lw_3 hG c I e nx
      | 4, _, e => exact lw_4 hG c I e nx
      | 5, _, e => exact lw_5 hG c I e nx
      | 6, _, e => exact lw_6 hG c I e nx
      | 7, _, e => exact lw_7 hG c I e nx
      | 8, _, e => exact lw_8 hG c I e nx
      | 9, _, e => exact lw_9 hG c I e nx
      | 10, _, e => exact lw_10 hG c I e nx
      | 11, _, e => exact lw_11 hG c I e nx
      | 12, _, e => exact lw_12 hG c I e nx
      | 13, _, e => exact lw_13 hG c I e nx
      | 14, _, e => exact lw_14 hG c I e nx
      | 15, _, e => exact lw_15 hG c I e nx
      | 16, _, e => exact lw_16 hG c I e nx
      | 17, _, e => exact lw_17 hG c I e nx
      | 18, _, e => exact lw_18 hG c I e nx
      | 19, _, e => exact lw_19 hG c I e nx
      | 20, _, e => exact lw_20 hG c I e nx
      | 21, _, e => exact lw_21 hG c I e nx
      | 22, _, e => exact lw_22 hG c I e nx
      | 23, _, e => exact lw_23 hG c I e nx
      | 24, _, e => exact lw_24 hG c I e nx
      | 25, _, e => exact lw_25 hG c I e nx
      | 26, _, e => exact lw_26 hG c I e nx
      | 27, _, e => exact lw_27 hG c I e nx
      | 28, _, e => exact lw_28 hG c I e nx
      | 29, _, e => exact lw_29 hG c I e nx
      | 30, _, e => exact lw_30 hG c I e nx
      | 31, _, e => exact lw_31 hG c I e nx
      | 32, _, e => exact lw_32 hG c I e nx
      | 33, _, e => exact lw_33 hG c I e nx
      | 34, _, e => exact lw_34 hG c I e nx
      | 35, _, e => exact lw_35 hG c I e nx
      | 36, _, e => exact lw_36 hG c I e nx
      | 37, _, e => exact lw_37 hG c I e nx
      | 38, _, e => exact lw_38 hG c I e nx
      | 39, _, e => exact lw_39 hG c I e nx
      | 40, _, e => exact lw_40 hG c I e nx
      | 41, _, e => exact lw_41 hG c I e nx
      | 42, _, e => exact lw_42 hG c I e nx
      | 43, _, e => exact lw_43 hG c I e nx
      | 44, _, e => exact lw_44 hG c I e nx
      | 45, _, e => exact lw_45 hG c I e nx
      | 46, _, e => exact lw_46 hG c I e nx
      | k + 47, hk, e => exact lw_out hG c (k + 47) hk (by omega) e (nx M I)
    · refine xif ((lw_ex hG hi).mpr c) ?_
      rfl
end LX
set_option maxRecDepth 20000 in
theorem law_pure : LawPure := by
  intro G hG LE hLE
  refine hLE 0 _ _ _ _ _ ?_
  refine And.intro ⟨by decide, by decide, by decide⟩ ?_
  refine cw_h (h2 := (SH.take 1, fun _ _ => none, fun _ _ => 0)) ?_ (i_cls (fun _ _ => rfl) (fun _ _ => rfl) (fun f1 g1 f2 g2 f3 g3 hf hg => ?_))
  · show ([] ++ [(10, 8)], nwR 0 (fun _ _ => none), xrow (fun _ _ => 0) 0 (fun _ => 0)) = _
    rw [nwR_id rfl, zr_id rfl]
    rfl
  refine And.intro ⟨by decide, by decide, by decide⟩ ?_
  have fR : ∀ r, 59 ≤ r → apR (fun _ _ => none) [(2, 0, 3), (1, 0, 2), (4, 1, 5), (4, 2, 6), (4, 3, 7), (4, 4, 8), (4, 5, 9), (4, 6, 10), (1, 1, 4), (11, 0, 12), (1, 2, 11), (1, 3, 13), (1, 4, 14), (0, 0, 1), (16, 0, 17), (15, 0, 16), (18, 1, 19), (18, 2, 20), (18, 3, 21), (18, 4, 22), (18, 5, 23), (18, 6, 24), (15, 1, 18), (25, 0, 26), (15, 2, 25), (15, 3, 27), (15, 4, 28), (0, 1, 15), (30, 0, 31), (29, 0, 30), (32, 1, 33), (32, 2, 34), (32, 3, 35), (32, 4, 36), (32, 5, 37), (32, 6, 38), (29, 1, 32), (39, 0, 40), (29, 2, 39), (29, 3, 41), (29, 4, 42), (0, 2, 29), (43, 1, 44), (0, 4, 43), (0, 5, 45), (46, 1, 47), (46, 2, 48), (46, 3, 49), (0, 6, 46), (0, 7, 50), (51, 2, 52), (45, 0, 51), (53, 2, 54), (45, 1, 53), (55, 2, 56), (45, 2, 55), (57, 2, 58), (45, 3, 57)] r = fun _ => none := fun r hr => apR_frL hr _ _ (by decide) rfl
  have fM : ∀ r, 59 ≤ r → vlM (vlM (vlM (fun _ _ => 0) 1 f1 g1) 15 f2 g2) 29 f3 g3 r = fun _ => 0 := fun r hr => vl_fr (by omega) (vl_fr (by omega) (vl_fr (by omega) rfl))
  refine cw_h (h2 := (SH.take 60, apR (fun _ _ => none) [(2, 0, 3), (1, 0, 2), (4, 1, 5), (4, 2, 6), (4, 3, 7), (4, 4, 8), (4, 5, 9), (4, 6, 10), (1, 1, 4), (11, 0, 12), (1, 2, 11), (1, 3, 13), (1, 4, 14), (0, 0, 1), (16, 0, 17), (15, 0, 16), (18, 1, 19), (18, 2, 20), (18, 3, 21), (18, 4, 22), (18, 5, 23), (18, 6, 24), (15, 1, 18), (25, 0, 26), (15, 2, 25), (15, 3, 27), (15, 4, 28), (0, 1, 15), (30, 0, 31), (29, 0, 30), (32, 1, 33), (32, 2, 34), (32, 3, 35), (32, 4, 36), (32, 5, 37), (32, 6, 38), (29, 1, 32), (39, 0, 40), (29, 2, 39), (29, 3, 41), (29, 4, 42), (0, 2, 29), (43, 1, 44), (0, 4, 43), (0, 5, 45), (46, 1, 47), (46, 2, 48), (46, 3, 49), (0, 6, 46), (0, 7, 50), (51, 2, 52), (45, 0, 51), (53, 2, 54), (45, 1, 53), (55, 2, 56), (45, 2, 55), (57, 2, 58), (45, 3, 57)], vlM (vlM (vlM (fun _ _ => 0) 1 f1 g1) 15 f2 g2) 29 f3 g3)) ?_ (i_mdl (fun r hr => fR r (by omega)) (fun r hr => fM r (by omega)) (fun f h0 h1 h2 h3 h4 h5 h6 => ?_))
  · show (SH.take 59 ++ [(11, 24)], nwR 59 (apR (fun _ _ => none) [(2, 0, 3), (1, 0, 2), (4, 1, 5), (4, 2, 6), (4, 3, 7), (4, 4, 8), (4, 5, 9), (4, 6, 10), (1, 1, 4), (11, 0, 12), (1, 2, 11), (1, 3, 13), (1, 4, 14), (0, 0, 1), (16, 0, 17), (15, 0, 16), (18, 1, 19), (18, 2, 20), (18, 3, 21), (18, 4, 22), (18, 5, 23), (18, 6, 24), (15, 1, 18), (25, 0, 26), (15, 2, 25), (15, 3, 27), (15, 4, 28), (0, 1, 15), (30, 0, 31), (29, 0, 30), (32, 1, 33), (32, 2, 34), (32, 3, 35), (32, 4, 36), (32, 5, 37), (32, 6, 38), (29, 1, 32), (39, 0, 40), (29, 2, 39), (29, 3, 41), (29, 4, 42), (0, 2, 29), (43, 1, 44), (0, 4, 43), (0, 5, 45), (46, 1, 47), (46, 2, 48), (46, 3, 49), (0, 6, 46), (0, 7, 50), (51, 2, 52), (45, 0, 51), (53, 2, 54), (45, 1, 53), (55, 2, 56), (45, 2, 55), (57, 2, 58), (45, 3, 57)]), xrow (vlM (vlM (vlM (fun _ _ => 0) 1 f1 g1) 15 f2 g2) 29 f3 g3) 59 (fun _ => 0)) = _
    rw [nwR_id (fR 59 (by decide)), zr_id (fM 59 (by decide))]
    rfl
  have hm := lw_loop (G := G) hG hLE (gN G) 0 (by omega) (by decide) (mk0 f1 g1 f2 g2 f3 g3 f) (iv_init f1 g1 f2 g2 f3 g3 f hf hg h0 h1 h2 h3 h4 h5 h6)
  have eR : apR (apR (fun _ _ => none) [(2, 0, 3), (1, 0, 2), (4, 1, 5), (4, 2, 6), (4, 3, 7), (4, 4, 8), (4, 5, 9), (4, 6, 10), (1, 1, 4), (11, 0, 12), (1, 2, 11), (1, 3, 13), (1, 4, 14), (0, 0, 1), (16, 0, 17), (15, 0, 16), (18, 1, 19), (18, 2, 20), (18, 3, 21), (18, 4, 22), (18, 5, 23), (18, 6, 24), (15, 1, 18), (25, 0, 26), (15, 2, 25), (15, 3, 27), (15, 4, 28), (0, 1, 15), (30, 0, 31), (29, 0, 30), (32, 1, 33), (32, 2, 34), (32, 3, 35), (32, 4, 36), (32, 5, 37), (32, 6, 38), (29, 1, 32), (39, 0, 40), (29, 2, 39), (29, 3, 41), (29, 4, 42), (0, 2, 29), (43, 1, 44), (0, 4, 43), (0, 5, 45), (46, 1, 47), (46, 2, 48), (46, 3, 49), (0, 6, 46), (0, 7, 50), (51, 2, 52), (45, 0, 51), (53, 2, 54), (45, 1, 53), (55, 2, 56), (45, 2, 55), (57, 2, 58), (45, 3, 57)]) [(59, 0, 60), (59, 1, 61), (59, 3, 62), (59, 4, 63), (59, 6, 64), (59, 7, 65), (59, 9, 66), (67, 0, 1106), (67, 1, 1107), (67, 2, 1108), (67, 3, 1109), (67, 4, 1110), (67, 5, 1111), (67, 6, 1112), (59, 16, 67), (59, 17, 68), (59, 20, 69), (59, 21, 70), (59, 22, 71), (59, 23, 72)] = RR := by
    rw [apR_app, ← RR_eq]
    rfl
  rw [eR]
  exact hm
