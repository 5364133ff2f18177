/-! What is HEARD: the class's side. -/
def drownK (k l dl : Nat) : Bool := decide (k = 3) || decide (k = 5) || (decide (k ≠ 2) && decide (k ≠ 6) && decide (dl ≤ l))
def yieldK (k dk : Nat) : Bool := decide (k ≠ 5) || decide (dk = 5)
theorem ovS_eq (N : Nat → Int32) (a b : Nat) : ovS N a b = (decide (sF N a 3 = sF N b 3) && decide (sF N a 4 = sF N b 4) && drownK (sF N b 0) (sF N b 2) (sF N a 2) && yieldK (sF N a 0) (sF N b 0)) := rfl
section CH
variable {G : xG} {d : Nat} {M : xM} {N : Nat → Int32} {Q : Option Value → xH → Prop}
theorem c_isKind (x : Int32) (q1 : ∀ p : Nat, p < 7 → x = nI p → Q (some (.int 1)) (HH M)) (q0 : (∀ p : Nat, p < 7 → x ≠ nI p) → Q (some (.int 0)) (HH M)) : CW G d jX0_isKind [.int x] (HH M) Q := by
  refine CW_wp fX0_isKind rfl rfl rfl ?_
  rcases n_ix x 7 (by decide) with ⟨p, hp, rfl⟩ | ⟨hx, hn⟩
  · refine xelse (nI_pos (by omega)) ?_
    refine xelse (nI_ge hp (by decide)) ?_
    exact q1 p hp rfl
  · refine xite (fun c => q0 hn) (fun c => ?_)
    exact xif (hx.resolve_left c) (q0 hn)
theorem c_canDrown (h : xH) {x y z : Int32} (k l dl : Nat) (hk : k < 7) (hl : l ≤ 9) (hdl : dl ≤ 9) (hx : x = nI k) (hy : y = nI l) (hz : z = nI dl) (q1 : drownK k l dl = true → Q (some (.int 1)) h) (q0 : drownK k l dl = false → Q (some (.int 0)) h) : CW G d jX0_canDrown [.int x, .int y, .int z] h Q := by
  subst hx hy hz
  have cmp : ∀ P1 P0 : Prop, (dl ≤ l → P1) → (¬ dl ≤ l → P0) → if nI l < nI dl then P0 else P1 := fun P1 P0 h1 h0 => xite (fun c => h0 (by rw [nI_ltI (by omega) (by omega)] at c; omega)) (fun c => h1 (by rw [nI_ltI (by omega) (by omega)] at c; omega))
  match k, hk, q1, q0 with
  | 0, _, q1, q0 => exact CW_wp fX0_canDrown rfl rfl rfl (cmp _ _ (fun c => q1 (by simp [drownK, c])) (fun c => q0 (by simp [drownK, c])))
  | 1, _, q1, q0 => exact CW_wp fX0_canDrown rfl rfl rfl (cmp _ _ (fun c => q1 (by simp [drownK, c])) (fun c => q0 (by simp [drownK, c])))
  | 2, _, q1, q0 => exact CW_wp fX0_canDrown rfl rfl rfl (q0 (by simp [drownK]))
  | 3, _, q1, q0 => exact CW_wp fX0_canDrown rfl rfl rfl (q1 (by simp [drownK]))
  | 4, _, q1, q0 => exact CW_wp fX0_canDrown rfl rfl rfl (cmp _ _ (fun c => q1 (by simp [drownK, c])) (fun c => q0 (by simp [drownK, c])))
  | 5, _, q1, q0 => exact CW_wp fX0_canDrown rfl rfl rfl (q1 (by simp [drownK]))
  | 6, _, q1, q0 => exact CW_wp fX0_canDrown rfl rfl rfl (q0 (by simp [drownK]))
  | k + 7, hk, _, _ => exact absurd hk (by omega)
theorem c_canYield (h : xH) {x y : Int32} (k dk : Nat) (hk : k < 7) (hdk : dk < 7) (hx : x = nI k) (hy : y = nI dk) (q1 : yieldK k dk = true → Q (some (.int 1)) h) (q0 : yieldK k dk = false → Q (some (.int 0)) h) : CW G d jX0_canYield [.int x, .int y] h Q := by
  subst hx hy
  refine CW_wp fX0_canYield rfl rfl rfl ?_
  refine xite (fun c => ?_) (fun c => ?_)
  · rw [show (5 : Int32) = nI 5 from rfl, nI_eq (by omega) (by omega)] at c
    refine xite (fun c2 => ?_) (fun c2 => ?_)
    · rw [show (5 : Int32) = nI 5 from rfl, nI_eq (by omega) (by omega)] at c2
      exact q1 (by simp [yieldK, c2])
    · rw [show (5 : Int32) = nI 5 from rfl, nI_eq (by omega) (by omega)] at c2
      exact q0 (by simp [yieldK, c, c2])
  · rw [show (5 : Int32) = nI 5 from rfl, nI_eq (by omega) (by omega)] at c
    exact q1 (by simp [yieldK, c])
theorem b1 {r : Int32} (h : r = 1) : ¬ r = 0 := by rw [h]; decide
theorem c_canDrownB (h : xH) {x y z : Int32} (k l dl : Nat) (hk : k < 7) (hl : l ≤ 9) (hdl : dl ≤ 9) (hx : x = nI k) (hy : y = nI l) (hz : z = nI dl) (q1 : drownK k l dl = true → ∀ r, r = 1 → Q (some (.int r)) h) (q0 : drownK k l dl = false → ∀ r, r = 0 → Q (some (.int r)) h) : CW G d jX0_canDrown [.int x, .int y, .int z] h Q := c_canDrown h k l dl hk hl hdl hx hy hz (fun e => q1 e 1 rfl) (fun e => q0 e 0 rfl)
theorem c_isOver (hp : PV 1 N M) (hw : Wf N) {x y : Int32} (b a : Nat) (hb : b < sN N) (ha : a < sN N) (hx : x = nI b) (hy : y = nI a) (q1 : ovS N a b = true → Q (some (.int 1)) (HH M)) (q0 : ovS N a b = false → Q (some (.int 0)) (HH M)) : CW G (d + 1) jX3_isOver [.ref 4, .int x, .int y] (HH M) Q := by
  subst hx hy
  have hn := hw.2.1.2
  have wa := hw.2.2.2.2.2.2.2.1 a ha
  have wb := hw.2.2.2.2.2.2.2.1 b hb
  have ra : ∀ f, f < 6 → M (5 + f) a = nI (sF N a f) := fun f hf => hp.say hw ha hf
  have rb : ∀ f, f < 6 → M (5 + f) b = nI (sF N b f) := fun f hf => hp.say hw hb hf
  refine CW_wp fX3_isOver rfl rfl rfl ?_
  refine xelse (nin (n := 40) (by omega) (by decide)) ?_
  refine xelse (nin (n := 40) (by omega) (by decide)) ?_
  rw [nI_clamp (by omega), nI_clamp (by omega), show M 8 b = _ from rb 3 (by decide), show M 8 a = _ from ra 3 (by decide)]
  refine xite (fun c => ?_) (fun c => q0 ?_)
  · rw [nI_eq (by omega) (by omega)] at c
    refine xelse (nin (n := 40) (by omega) (by decide)) ?_
    refine xelse (nin (n := 40) (by omega) (by decide)) ?_
    rw [nI_clamp (by omega), nI_clamp (by omega), show M 9 b = _ from rb 4 (by decide), show M 9 a = _ from ra 4 (by decide)]
    refine xite (fun c2 => ?_) (fun c2 => q0 ?_)
    · rw [nI_eq (by omega) (by omega)] at c2
      refine xelse (nin (n := 40) (by omega) (by decide)) ?_
      refine xelse (nin (n := 40) (by omega) (by decide)) ?_
      refine xelse (nin (n := 40) (by omega) (by decide)) ?_
      rw [nI_clamp (by omega), nI_clamp (by omega)]
      refine c_canDrownB (HH M) (sF N b 0) (sF N b 2) (sF N a 2) wb.1 wb.2.2.2.1 wa.2.2.2.1 (rb 0 (by decide)) (rb 2 (by decide)) (ra 2 (by decide)) (fun e3 r3 h3 => ?_) (fun e3 r3 h3 => xif h3 (q0 (by rw [ovS_eq, e3]; simp)))
      refine xelse (b1 h3) ?_
      refine xelse (nin (n := 40) (by omega) (by decide)) ?_
      refine xelse (nin (n := 40) (by omega) (by decide)) ?_
      rw [nI_clamp (by omega), nI_clamp (by omega)]
      refine c_canYield (HH M) (sF N a 0) (sF N b 0) wa.1 wb.1 (ra 0 (by decide)) (rb 0 (by decide)) (fun e4 => ?_) (fun e4 => q0 (by rw [ovS_eq, e4]; simp))
      exact q1 (by rw [ovS_eq, e3, e4, c, c2]; simp)
    · rw [nI_eq (by omega) (by omega)] at c2
      rw [ovS_eq]
      simp [Ne.symm c2]
  · rw [nI_eq (by omega) (by omega)] at c
    rw [ovS_eq]
    simp [Ne.symm c]
end CH
