/-! THE TAPE read by the class: all of it. -/
theorem bd_way (b : Nat → Nat) (T : Nat)  (e : Nat) (he : e ≤ T) : e ≤ (piWay b T e).2.1 ∧ (piWay b T e).2.1 ≤ T := by
  have h1 := en_b b T e he
  have s1 := st_b b T e he
  have h2 := en_b b T (enT b T e) h1.2.1
  have s2 := st_b b T (enT b T e) h1.2.1
  unfold piWay
  (repeat' split) <;> simp only [fR] <;> omega
theorem bd_keep (b : Nat → Nat) (T : Nat)  (e : Nat) (he : e ≤ T) : e ≤ (piKeep b T e).2.1 ∧ (piKeep b T e).2.1 ≤ T := by
  have h1 := en_b b T e he
  have s1 := st_b b T e he
  unfold piKeep
  (repeat' split) <;> simp only [fR] <;> omega
theorem bd_rain (b : Nat → Nat) (T : Nat)  (e : Nat) (he : e ≤ T) : e ≤ (piRain b T e).2.1 ∧ (piRain b T e).2.1 ≤ T := by
  have h1 := en_b b T e he
  have s1 := st_b b T e he
  unfold piRain
  (repeat' split) <;> simp only [fR] <;> omega
theorem bd_P3 (b : Nat → Nat) (T : Nat) (p a : Nat) (e : Nat) (he : e ≤ T) : e ≤ (piP3 b T p a e).2.1 ∧ (piP3 b T p a e).2.1 ≤ T := by
  have h1 := en_b b T e he
  have s1 := st_b b T e he
  have h2 := en_b b T (enT b T e) h1.2.1
  have s2 := st_b b T (enT b T e) h1.2.1
  have h3 := en_b b T (enT b T (enT b T e)) h2.2.1
  have s3 := st_b b T (enT b T (enT b T e)) h2.2.1
  unfold piP3
  (repeat' split) <;> simp only [fR] <;> omega
theorem bd_P2 (b : Nat → Nat) (T : Nat) (p : Nat) (e : Nat) (he : e ≤ T) : e ≤ (piP2 b T p e).2.1 ∧ (piP2 b T p e).2.1 ≤ T := by
  have h1 := en_b b T e he
  have s1 := st_b b T e he
  unfold piP2
  split
  · have h2 := bd_P3 b T p (vT b T e) (enT b T e) h1.2.1
    omega
  · exact ⟨Nat.le_refl _, he⟩
theorem bd_P1 (b : Nat → Nat) (T : Nat) (p : Nat) (e : Nat) (he : e ≤ T) : e ≤ (piP1 b T p e).2.1 ∧ (piP1 b T p e).2.1 ≤ T := by
  have h1 := en_b b T e he
  have s1 := st_b b T e he
  unfold piP1
  split
  · have h2 := bd_P2 b T p (enT b T e) h1.2.1
    omega
  · exact ⟨Nat.le_refl _, he⟩
theorem bd_Pers (b : Nat → Nat) (T : Nat)  (e : Nat) (he : e ≤ T) : e ≤ (piPers b T e).2.1 ∧ (piPers b T e).2.1 ≤ T := by
  have h1 := en_b b T e he
  have s1 := st_b b T e he
  unfold piPers
  split
  · have h2 := bd_P1 b T (vT b T e) (enT b T e) h1.2.1
    omega
  · exact ⟨Nat.le_refl _, he⟩
theorem bd_S5 (b : Nat → Nat) (T : Nat) (k w p h : Nat) (e : Nat) (he : e ≤ T) : e ≤ (piS5 b T k w p h e).2.1 ∧ (piS5 b T k w p h e).2.1 ≤ T := by
  have h1 := en_b b T e he
  have s1 := st_b b T e he
  have h2 := en_b b T (enT b T e) h1.2.1
  have s2 := st_b b T (enT b T e) h1.2.1
  unfold piS5
  (repeat' split) <;> simp only [fR] <;> omega
theorem bd_S4 (b : Nat → Nat) (T : Nat) (k w p : Nat) (e : Nat) (he : e ≤ T) : e ≤ (piS4 b T k w p e).2.1 ∧ (piS4 b T k w p e).2.1 ≤ T := by
  have h1 := en_b b T e he
  have s1 := st_b b T e he
  unfold piS4
  split
  · have h2 := bd_S5 b T k w p (vT b T e) (enT b T e) h1.2.1
    omega
  · exact ⟨Nat.le_refl _, he⟩
theorem bd_S3 (b : Nat → Nat) (T : Nat) (k w p : Nat) (e : Nat) (he : e ≤ T) : e ≤ (piS3 b T k w p e).2.1 ∧ (piS3 b T k w p e).2.1 ≤ T := by
  have h1 := en_b b T e he
  have s1 := st_b b T e he
  unfold piS3
  split
  · have h2 := bd_S4 b T k w p (enT b T e) h1.2.1
    omega
  · exact ⟨Nat.le_refl _, he⟩
theorem bd_S2 (b : Nat → Nat) (T : Nat) (k w : Nat) (e : Nat) (he : e ≤ T) : e ≤ (piS2 b T k w e).2.1 ∧ (piS2 b T k w e).2.1 ≤ T := by
  have h1 := en_b b T e he
  have s1 := st_b b T e he
  unfold piS2
  split
  · have h2 := bd_S3 b T k w (vT b T e) (enT b T e) h1.2.1
    omega
  · exact ⟨Nat.le_refl _, he⟩
theorem bd_S1 (b : Nat → Nat) (T : Nat) (k w : Nat) (e : Nat) (he : e ≤ T) : e ≤ (piS1 b T k w e).2.1 ∧ (piS1 b T k w e).2.1 ≤ T := by
  have h1 := en_b b T e he
  have s1 := st_b b T e he
  unfold piS1
  split
  · have h2 := bd_S2 b T k w (enT b T e) h1.2.1
    omega
  · exact ⟨Nat.le_refl _, he⟩
theorem bd_Say (b : Nat → Nat) (T : Nat) (k : Nat) (e : Nat) (he : e ≤ T) : e ≤ (piSay b T k e).2.1 ∧ (piSay b T k e).2.1 ≤ T := by
  have h1 := en_b b T e he
  have s1 := st_b b T e he
  unfold piSay
  split
  · have h2 := bd_S1 b T k (vT b T e) (enT b T e) h1.2.1
    omega
  · exact ⟨Nat.le_refl _, he⟩
theorem kd_1 {b : Nat → Nat} {T e k : Nat} (h : kdT b T e = some k) : tkT b T e = 1 := by
  unfold kdT at h
  repeat' (split at h)
  all_goals first | (rename_i c; exact wd_1 c) | cases h
theorem bd_Item (b : Nat → Nat) (T m e : Nat) (he : e ≤ T) : (e ≤ (piItem b T m e).2.1 ∧ (piItem b T m e).2.1 ≤ T) ∧ ((piItem b T m e).1 = true → e < (piItem b T m e).2.1) := by
  have h1 := en_b b T e he
  have s1 := st_b b T e he
  have a1 := bd_way b T (enT b T e) h1.2.1
  have a2 := bd_Pers b T (enT b T e) h1.2.1
  have a3 := bd_keep b T (enT b T e) h1.2.1
  have a4 := bd_rain b T (enT b T e) h1.2.1
  have a5 := fun k => bd_Say b T k (enT b T e) h1.2.1
  unfold piItem
  split
  · have := wd_1 (by assumption)
    exact ⟨by omega, fun _ => by omega⟩
  split
  · have := wd_1 (by assumption)
    exact ⟨by omega, fun _ => by omega⟩
  split
  · have := wd_1 (by assumption)
    exact ⟨by omega, fun _ => by omega⟩
  split
  · have := wd_1 (by assumption)
    exact ⟨by omega, fun _ => by omega⟩
  split
  · exact ⟨⟨Nat.le_refl _, he⟩, fun z => by cases z⟩
  · rename_i k hk
    have := kd_1 hk
    split
    · have := a5 k
      exact ⟨by omega, fun _ => by omega⟩
    · exact ⟨⟨Nat.le_refl _, he⟩, fun z => by cases z⟩
/-- THE TAPE from the TOKEN at e on, c ITEMS with the one at hand, N told so far -/
def rdT (b : Nat → Nat) (T : Nat) : Nat → Nat → Nat → (Nat → Int32) → Bool × Nat × (Nat → Int32)
  | 0, e, _, N => (false, stT b T e, N)
  | n + 1, e, c, N => if (piItem b T (sN N) e).1 = false then (false, stT b T (piItem b T (sN N) e).2.1, N) else if tkT b T (piItem b T (sN N) e).2.1 = 0 then (true, c, apI N (piItem b T (sN N) e)) else if tkT b T (piItem b T (sN N) e).2.1 = 3 then rdT b T n (enT b T (piItem b T (sN N) e).2.1) (c + 1) (apI N (piItem b T (sN N) e)) else (false, stT b T (piItem b T (sN N) e).2.1, N)
def RtQ (M : xM) (Q : Option Value → xH → Prop) (r : Bool × Nat × (Nat → Int32)) : Prop := (r.1 = true → ∀ M', DfM M M' → PV 29 r.2.2 M' → Wf r.2.2 → Q (some (.int (nI r.2.1))) (HH M')) ∧ (r.1 = false → ∀ M', DfM M M' → Q (some (.int (-1 - nI r.2.1))) (HH M'))
section LK
variable {G : xG} {d : Nat} {M : xM} {Q : Option Value → xH → Prop} {b : Nat → Nat} {T : Nat}
theorem c_readIntoL (tp : TpC b T M) : ∀ (n e c : Nat) (N : Nat → Int32) (M' : xM), e ≤ T → T < n + e → 2 * c ≤ e + 2 → DfM M M' → LxC b T e M' → Wf N → PV 29 N M' → RtQ M Q (rdT b T n e c N) → Ev G (d + 8) jX2_readInto 11 [some (.ref 43), some (.ref 29), some (.int (nI c))] [] (HH M') 0 0 Q := by
  intro n
  have hT := tp.2.1
  induction n with
  | zero => intro e c N M' he hn; omega
  | succ n ih =>
    intro e c N M' he hn hc hd lx w i2 q
    have tp' := tp.df hd
    obtain ⟨⟨b1, b2⟩, b3⟩ := bd_Item b T (sN N) e he
    rw [rdT] at q
    refine Ev_wp fX2_readInto rfl ?_
    refine xlt 120 c rfl rfl (by decide) (by omega) (fun z => absurd z (by omega)) (fun _ => ?_)
    refine c_readItem tp' e he lx w i2 ⟨fun h M1 hd1 lx1 pv1 w1 => ?_, fun h M1 hd1 lx1 => ?_⟩
    · rw [if_neg (by rw [h]; decide)] at q
      have b4 := b3 h
      have htk := tk_le b T (piItem b T (sN N) e).2.1
      have h5 := en_b b T _ b2
      have s5 := st_b b T _ b2
      refine xeq (tkT b T (piItem b T (sN N) e).2.1) 0 lx1.1 rfl (by omega) (by decide) (fun c0 => ?_) (fun c0 => ?_)
      · rw [if_pos c0] at q
        exact q.1 rfl _ (hd.trans hd1) pv1 w1
      · rw [if_neg c0] at q
        refine xeq (tkT b T (piItem b T (sN N) e).2.1) 3 lx1.1 rfl (by omega) (by decide) (fun c3 => ?_) (fun c3 => ?_)
        · rw [if_pos c3] at q
          refine c_next (tp'.df hd1) _ h5.2.1 lx1.2.2.1 (fun M2 hm2 lx2 => ?_)
          have h9 := ih (enT b T (piItem b T (sN N) e).2.1) (c + 1) (apI N (piItem b T (sN N) e)) M2 h5.2.1 (by omega) (by omega) ((hd.trans hd1).trans (DfM.cf hm2)) lx2 w1 (pv_cf pv1 hm2) q
          rw [nI_succ] at h9
          exact h9
        · rw [if_neg c3] at q
          have h9 := q.2 rfl _ (hd.trans hd1)
          rw [← show M1 43 3 = nI (stT b T (piItem b T (sN N) e).2.1) from lx1.2.1] at h9
          exact h9
    · rw [if_pos h] at q
      have h9 := q.2 rfl _ (hd.trans hd1)
      rw [← show M1 43 3 = nI (stT b T (piItem b T (sN N) e).2.1) from lx1.2.1] at h9
      exact h9
theorem c_readInto (tp : TpC b T M) {N : Nat → Int32} (w : Wf N) (i2 : PV 29 N M) (q : RtQ M Q (rdT b T (T + 1) 0 1 N)) : CW G (d + 8) jX2_readInto [.ref 43, .ref 29] (HH M) Q := by
  refine CW_wp fX2_readInto rfl rfl rfl ?_
  have h0 : CfM M (xup M 43 4 0) := (CfM.refl M).up 4 0 (by decide)
  refine c_next (M := xup M 43 4 0) (tp.cf h0) 0 (Nat.zero_le _) rfl (fun M1 hm lx1 => ?_)
  have hh := h0.trans hm
  exact c_readIntoL tp (T + 1) 0 1 N M1 (Nat.zero_le _) (by omega) (by omega) (DfM.cf hh) lx1 w (pv_cf i2 hh) q
end LK
