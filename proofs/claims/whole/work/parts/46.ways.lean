/-! way, say, weather: the class beside the model. -/
def wyF (N : Nat → Int32) (a b : Nat) (v : Int32) : Nat → Int32 := upd (upd N (104 + 10 * a + b) v) (104 + 10 * b + a) v
theorem wyF_un {N : Nat → Int32} {a b j : Nat} {v : Int32} (h1 : j ≠ 104 + 10 * a + b) (h2 : j ≠ 104 + 10 * b + a) : wyF N a b v j = N j := (pk_un h2).trans (pk_un h1)
theorem wyF_at (N : Nat → Int32) {a b : Nat} (v : Int32) (ha : a < 10) (hb : b < 10) {i j : Nat} (hi : i < 10) (hj : j < 10) : wyF N a b v (104 + 10 * i + j) = if (i = a ∧ j = b) ∨ (i = b ∧ j = a) then v else N (104 + 10 * i + j) := by
  by_cases h : (i = a ∧ j = b) ∨ (i = b ∧ j = a)
  · rw [if_pos h]
    rcases h with ⟨rfl, rfl⟩ | ⟨rfl, rfl⟩
    · unfold wyF
      by_cases e : i = j
      · subst e; exact pk_us
      · rw [pk_un (by omega)]; exact pk_us
    · exact pk_us
  · rw [if_neg h]
    exact wyF_un (by omega) (by omega)
theorem wyF_wy (N : Nat → Int32) {a b u : Nat} {v : Int32} (hv : v = nI u) (hu : u ≤ 1) (ha : a < 10) (hb : b < 10) {i j : Nat} (hi : i < 10) (hj : j < 10) : wy (wyF N a b v) i j = if (i = a ∧ j = b) ∨ (i = b ∧ j = a) then decide (u = 1) else wy N i j := by
  unfold wy vN
  rw [wyF_at N v ha hb hi hj]
  by_cases h : (i = a ∧ j = b) ∨ (i = b ∧ j = a)
  · rw [if_pos h, if_pos h, hv, nI_clamp (by omega)]
  · rw [if_neg h, if_neg h]
section W1
variable {G : xG} {M : xM} {Q : Option Value → xH → Prop}
theorem wf_way {N : Nat → Int32} (w : Wf N) (a b u : Nat) (ha : a < 10) (hb : b < 10) (hab : a ≠ b) (hu : u ≤ 1) (v : Int32) (hv : v = nI u) : Wf (wyF N a b v) := by
  have h40 := w.2.1.2
  exact ⟨wc1 (wyF_un (by omega) (by omega)) w, wc2 (wyF_un (by omega) (by omega)) w, wc3 (wyF_un (by omega) (by omega)) w, wc4 (fun j hj => (wyF_un (by omega) (by omega))) w, fun i j hi hj => by
    have e1 := wyF_at N v ha hb hi hj
    have e2 := wyF_at N v ha hb hj hi
    have h5 := w.2.2.2.2.1 i j hi hj
    unfold vN
    rw [e1, e2]
    by_cases h : (i = a ∧ j = b) ∨ (i = b ∧ j = a)
    · rw [if_pos h, if_pos (by omega), hv, nI_clamp (by omega)]
      exact ⟨rfl, hu, rfl⟩
    · rw [if_neg h, if_neg (by omega)]
      exact h5, fun i hi => by
    have e1 := wyF_at N v ha hb hi hi
    unfold vN
    rw [e1, if_neg (by omega)]
    exact w.2.2.2.2.2.1 i hi, wc7 (wyF_un (by omega) (by omega)) (fun s f hs hf => (wyF_un (by omega) (by omega))) w, wc8 (Nat.le_of_eq (vN_e (wyF_un (by omega) (by omega))).symm) (wyF_un (by omega) (by omega)) (fun s f hs hf => (wyF_un (by omega) (by omega))) w, wc9 (wyF_un (by omega) (by omega)) (fun s f hs hf => (wyF_un (by omega) (by omega))) w, wc10 (fun q hq => (wyF_un (by omega) (by omega))) w, wc11 (wyF_un (by omega) (by omega)) (fun j hj => (wyF_un (by omega) (by omega))) w⟩
theorem bt_set {a n : Nat} (P : Nat → Bool) (h : a < n) : nI (bts P n) ||| nI (2 ^ a) = nI (bts (fun q => P q || decide (a = q)) n) := by
  rw [nx_or, bts_one a n h, bts_or]
theorem bt_clr {a : Nat} (P : Nat → Bool) (h : a < 10) : nI (bts P 10) &&& (nI (2 ^ a) ^^^ (-1)) = nI (bts (fun q => P q && !decide (a = q)) 10) := by
  refine nx_andn (by decide) _ (fun i hi => ?_)
  rw [tb_bts, tb_p]
  cases decide (i < 10) <;> simp
theorem pv_way1 {N : Nat → Int32} (w : Wf N) (i2 : PV 1 N M) (a b u : Nat) (ha : a < 10) (hb : b < 10) (v : Int32) (hv : v = nI u) (hu : u ≤ 1) (f : Nat → Int32) (hf : ∀ p, p < 10 → f p = nI (bts (wy (wyF N a b v) p) 10)) : PV 1 (wyF N a b v) (xrow M 3 f) := by
  have h40 := w.2.1.2
  exact ⟨i2.1.trans (wyF_un (by omega) (by omega)).symm, i2.2.1.trans (wyF_un (by omega) (by omega)).symm, i2.2.2.1.trans (wyF_un (by omega) (by omega)).symm, i2.2.2.2.1.trans (wyF_un (by omega) (by omega)).symm, fun j hj => (i2.2.2.2.2.1 j hj).trans (wyF_un (by omega) (by omega)).symm, fun p hp => hf p hp, fun s hs f hf => by rw [sN_e (wyF_un (by omega) (by omega))] at hs; exact (row_ne (by omega)).trans ((i2.2.2.2.2.2.2.1 s hs f hf).trans (wyF_un (by omega) (by omega)).symm), fun q hq => (i2.2.2.2.2.2.2.2.1 q hq).trans (wyF_un (by omega) (by omega)).symm, fun j hj => (i2.2.2.2.2.2.2.2.2 j hj).trans (wyF_un (by omega) (by omega)).symm⟩
theorem c_half1 {d : Nat} {x y v : Int32} (P : Nat → Bool) (a b u : Nat) (ha : a < 10) (hb : b < 10) (hx : x = nI a) (hy : y = nI b) (hv : v = nI u) (hu : u ≤ 1) (hP : M 3 a = nI (bts P 10)) (q : Q none (HH (xup M 3 a (nI (bts (fun q => if q = b then decide (u = 1) else P q) 10))))) : CW G d jX7_putHalf [.ref 2, .int x, .int y, .int v] (HH M) Q := by
  refine CW_wp fX7_putHalf rfl rfl rfl ?_
  refine xeq u 0 hv rfl (by omega) (by decide) (fun c => ?_) (fun c => ?_)
  · refine xix (n := 10) a hx ha (by decide) (fun e => ?_)
    refine xix (n := 10) a hx ha (by decide) (fun e2 => ?_)
    rw [e, hP]
    have e3 : nI (bts P 10) &&& ((1 : Int32) <<< (y &&& 31) ^^^ (-1)) = nI (bts (fun q => if q = b then decide (u = 1) else P q) 10) := by
      rw [ish hy (by omega), bt_clr P hb]
      congr 1
      exact bts_congr (fun q _ => by
        by_cases z : q = b
        · subst z; simp [c]
        · simp [z, Ne.symm z])
    rw [← e3] at q
    exact q
  · refine xix (n := 10) a hx ha (by decide) (fun e => ?_)
    refine xix (n := 10) a hx ha (by decide) (fun e2 => ?_)
    rw [e, hP]
    have e3 : nI (bts P 10) ||| (1 : Int32) <<< (y &&& 31) = nI (bts (fun q => if q = b then decide (u = 1) else P q) 10) := by
      rw [ish hy (by omega), bt_set P hb]
      congr 1
      exact bts_congr (fun q _ => by
        by_cases z : q = b
        · subst z; simp; omega
        · simp [z, Ne.symm z])
    rw [← e3] at q
    exact q
theorem c_wput1 {d : Nat} {N : Nat → Int32} {x y v : Int32} (a b u : Nat) (ha : a < 10) (hb : b < 10) (hab : a ≠ b) (hx : x = nI a) (hy : y = nI b) (hv : v = nI u) (hu : u ≤ 1) (hn : ∀ p, p < 10 → M 3 p = nI (bts (wy N p) 10)) (q : ∀ f, (∀ p, p < 10 → f p = nI (bts (wy (wyF N a b v) p) 10)) → Q none (HH (xrow M 3 f))) : CW G (d + 1) jX7_put [.ref 2, .int x, .int y, .int v] (HH M) Q := by
  refine CW_wp fX7_put rfl rfl rfl ?_
  refine c_half1 (wy N a) a b u ha hb hx hy hv hu (hn a ha) ?_
  refine c_half1 (wy N b) b a u hb ha hy hx hv hu ((pk_un (Ne.symm hab)).trans (hn b hb)) ?_
  rw [show ∀ A B : Int32, xup (xup M 3 a A) 3 b B = xrow M 3 (upd (upd (M 3) a A) b B) from fun A B => xup_row _ _ _ _ _]
  refine q (upd (upd (M 3) a (nI (bts (fun q => if q = b then decide (u = 1) else wy N a q) 10))) b (nI (bts (fun q => if q = a then decide (u = 1) else wy N b q) 10))) (fun p hp => ?_)
  by_cases z1 : p = b
  · subst z1
    rw [pk_us]
    congr 1
    exact bts_congr (fun q hq => by
      rw [wyF_wy N hv hu ha hb hp hq]
      by_cases z : q = a
      · rw [if_pos z, if_pos (Or.inr ⟨rfl, z⟩)]
      · rw [if_neg z, if_neg (by omega)])
  · rw [pk_un z1]
    by_cases z2 : p = a
    · subst z2
      rw [pk_us]
      congr 1
      exact bts_congr (fun q hq => by
        rw [wyF_wy N hv hu ha hb hp hq]
        by_cases z : q = b
        · rw [if_pos z, if_pos (Or.inl ⟨rfl, z⟩)]
        · rw [if_neg z, if_neg (by omega)])
    · rw [pk_un z2, hn p hp]
      congr 1
      exact bts_congr (fun q hq => by rw [wyF_wy N hv hu ha hb hp hq, if_neg (by omega)])
theorem pv_way29 {N : Nat → Int32} (w : Wf N) (i2 : PV 29 N M) (a b u : Nat) (ha : a < 10) (hb : b < 10) (v : Int32) (hv : v = nI u) (hu : u ≤ 1) (f : Nat → Int32) (hf : ∀ p, p < 10 → f p = nI (bts (wy (wyF N a b v) p) 10)) : PV 29 (wyF N a b v) (xrow M 31 f) := by
  have h40 := w.2.1.2
  exact ⟨i2.1.trans (wyF_un (by omega) (by omega)).symm, i2.2.1.trans (wyF_un (by omega) (by omega)).symm, i2.2.2.1.trans (wyF_un (by omega) (by omega)).symm, i2.2.2.2.1.trans (wyF_un (by omega) (by omega)).symm, fun j hj => (i2.2.2.2.2.1 j hj).trans (wyF_un (by omega) (by omega)).symm, fun p hp => hf p hp, fun s hs f hf => by rw [sN_e (wyF_un (by omega) (by omega))] at hs; exact (row_ne (by omega)).trans ((i2.2.2.2.2.2.2.1 s hs f hf).trans (wyF_un (by omega) (by omega)).symm), fun q hq => (i2.2.2.2.2.2.2.2.1 q hq).trans (wyF_un (by omega) (by omega)).symm, fun j hj => (i2.2.2.2.2.2.2.2.2 j hj).trans (wyF_un (by omega) (by omega)).symm⟩
theorem c_half29 {d : Nat} {x y v : Int32} (P : Nat → Bool) (a b u : Nat) (ha : a < 10) (hb : b < 10) (hx : x = nI a) (hy : y = nI b) (hv : v = nI u) (hu : u ≤ 1) (hP : M 31 a = nI (bts P 10)) (q : Q none (HH (xup M 31 a (nI (bts (fun q => if q = b then decide (u = 1) else P q) 10))))) : CW G d jX7_putHalf [.ref 30, .int x, .int y, .int v] (HH M) Q := by
  refine CW_wp fX7_putHalf rfl rfl rfl ?_
  refine xeq u 0 hv rfl (by omega) (by decide) (fun c => ?_) (fun c => ?_)
  · refine xix (n := 10) a hx ha (by decide) (fun e => ?_)
    refine xix (n := 10) a hx ha (by decide) (fun e2 => ?_)
    rw [e, hP]
    have e3 : nI (bts P 10) &&& ((1 : Int32) <<< (y &&& 31) ^^^ (-1)) = nI (bts (fun q => if q = b then decide (u = 1) else P q) 10) := by
      rw [ish hy (by omega), bt_clr P hb]
      congr 1
      exact bts_congr (fun q _ => by
        by_cases z : q = b
        · subst z; simp [c]
        · simp [z, Ne.symm z])
    rw [← e3] at q
    exact q
  · refine xix (n := 10) a hx ha (by decide) (fun e => ?_)
    refine xix (n := 10) a hx ha (by decide) (fun e2 => ?_)
    rw [e, hP]
    have e3 : nI (bts P 10) ||| (1 : Int32) <<< (y &&& 31) = nI (bts (fun q => if q = b then decide (u = 1) else P q) 10) := by
      rw [ish hy (by omega), bt_set P hb]
      congr 1
      exact bts_congr (fun q _ => by
        by_cases z : q = b
        · subst z; simp; omega
        · simp [z, Ne.symm z])
    rw [← e3] at q
    exact q
theorem c_wput29 {d : Nat} {N : Nat → Int32} {x y v : Int32} (a b u : Nat) (ha : a < 10) (hb : b < 10) (hab : a ≠ b) (hx : x = nI a) (hy : y = nI b) (hv : v = nI u) (hu : u ≤ 1) (hn : ∀ p, p < 10 → M 31 p = nI (bts (wy N p) 10)) (q : ∀ f, (∀ p, p < 10 → f p = nI (bts (wy (wyF N a b v) p) 10)) → Q none (HH (xrow M 31 f))) : CW G (d + 1) jX7_put [.ref 30, .int x, .int y, .int v] (HH M) Q := by
  refine CW_wp fX7_put rfl rfl rfl ?_
  refine c_half29 (wy N a) a b u ha hb hx hy hv hu (hn a ha) ?_
  refine c_half29 (wy N b) b a u hb ha hy hx hv hu ((pk_un (Ne.symm hab)).trans (hn b hb)) ?_
  rw [show ∀ A B : Int32, xup (xup M 31 a A) 31 b B = xrow M 31 (upd (upd (M 31) a A) b B) from fun A B => xup_row _ _ _ _ _]
  refine q (upd (upd (M 31) a (nI (bts (fun q => if q = b then decide (u = 1) else wy N a q) 10))) b (nI (bts (fun q => if q = a then decide (u = 1) else wy N b q) 10))) (fun p hp => ?_)
  by_cases z1 : p = b
  · subst z1
    rw [pk_us]
    congr 1
    exact bts_congr (fun q hq => by
      rw [wyF_wy N hv hu ha hb hp hq]
      by_cases z : q = a
      · rw [if_pos z, if_pos (Or.inr ⟨rfl, z⟩)]
      · rw [if_neg z, if_neg (by omega)])
  · rw [pk_un z1]
    by_cases z2 : p = a
    · subst z2
      rw [pk_us]
      congr 1
      exact bts_congr (fun q hq => by
        rw [wyF_wy N hv hu ha hb hp hq]
        by_cases z : q = b
        · rw [if_pos z, if_pos (Or.inl ⟨rfl, z⟩)]
        · rw [if_neg z, if_neg (by omega)])
    · rw [pk_un z2, hn p hp]
      congr 1
      exact bts_congr (fun q hq => by rw [wyF_wy N hv hu ha hb hp hq, if_neg (by omega)])
theorem m_ways {d : Nat} {x y v : Int32} (a b : Nat) (ha : a < 10) (hb : b < 10) (hx : x = nI a) (hy : y = nI b) (q : Q none (HH (xup (xrow M 60 (wyF (M 60) a b v)) 59 5 0))) : CW G d jX9_ways [.ref 59, .int x, .int y, .int v] (HH M) Q := by
  refine CW_wp fX9_ways rfl rfl rfl ?_
  refine xix (n := 598) (104 + 10 * a + b) (ia (ia rfl (im rfl hx)) hy) (by omega) (by decide) (fun e => ?_)
  refine xix (n := 598) (104 + 10 * b + a) (ia (ia rfl (im rfl hy)) hx) (by omega) (by decide) (fun e2 => ?_)
  rw [e, e2, show xup (xup M 60 (104 + 10 * a + b) v) 60 (104 + 10 * b + a) v = xrow M 60 (wyF (M 60) a b v) from xup_row _ _ _ _ _]
  exact q
theorem iv_way (I : Iv 0 M) (a b u : Nat) (ha : a < 10) (hb : b < 10) (hab : a ≠ b) (hu : u ≤ 1) (v : Int32) (hv : v = nI u) (f : Nat → Int32) (hf : ∀ p, p < 10 → f p = nI (bts (wy (wyF (M 60) a b v) p) 10)) : Iv 0 (xup (xrow (xrow M 3 f) 60 (wyF (M 60) a b v)) 59 5 0) := by
  obtain ⟨i1, i2, i3, i4, i5, i6, i7, i8⟩ := I
  refine ⟨wf_way i1 a b u ha hb hab hu v hv, ((pv_way1 i1 i2 a b u ha hb v hv hu f hf).row (by decide)).up (by decide), ?_, i4, Or.inl rfl, i6, i7, i8⟩
  rcases i3 with i3 | ⟨a, b, c, d⟩
  · exact Or.inl i3
  · exact Or.inr ⟨a, b, c, ((d.row (by decide)).row (by decide)).up (by decide)⟩
theorem st_way (I : Iv 0 M) (x y z : Int32) (hz : z = 0 ∨ z = 1) (q : ∀ r M1, Aft G jX9_way [.ref 59, .int x, .int y, .int z] r M1 → Q (some (.int r)) (HH M1)) : CW G 11 jX8_way [.ref 0, .int x, .int y, .int z] (HH M) Q := by
  have hw := I.1
  have hp := I.2.1
  have hsr := I.2.2.2.2.1
  have h40 := hw.2.1.2
  have hn : M 60 = M 60 := rfl
  refine CW_wp fX8_way rfl rfl rfl ?_
  refine c_isPlace x (fun a ha ea => ?_) (fun na => ?_)
  · refine c_isPlace y (fun b hb eb => ?_) (fun nb => ?_)
    · refine xite (fun c => ?_) (fun hne => ?_)
      · refine c_fin0 ?_
        refine q _ _ (fun Q1 q1 => ?_)
        refine CW_wp fX9_way rfl rfl rfl ?_
        refine m_isPlace_t a ha ea ?_
        refine m_isPlace_t b hb eb ?_
        refine xif c ?_
        exact m_fin0 (iv_fc I) q1
      have hab : a ≠ b := fun z => hne (by rw [ea, eb, z])
      rcases hz with rfl | rfl
      · refine c_has hp a b ha hb ea eb (fun c => ?_) (fun c => ?_)
        · refine c_wput1 a b 0 ha hb hab ea eb rfl (by decide) hp.2.2.2.2.2.1 (fun f hf => ?_)
          refine q _ _ (fun Q1 q1 => ?_)
          refine CW_wp fX9_way rfl rfl rfl ?_
          refine m_isPlace_t a ha ea ?_
          refine m_isPlace_t b hb eb ?_
          refine xelse hne ?_
          refine m_isWay (show (xrow M 3 f) 60 = M 60 from rfl) hw a b ha hb ea eb (fun c2 => ?_) (fun c2 => by rw [c] at c2; cases c2)
          refine m_ways a b ha hb ea eb ?_
          exact q1 _ (iv_way I a b 0 ha hb hab (by decide) 0 rfl f hf)
        · refine c_wput1 a b 0 ha hb hab ea eb rfl (by decide) hp.2.2.2.2.2.1 (fun f hf => ?_)
          refine q _ _ (fun Q1 q1 => ?_)
          refine CW_wp fX9_way rfl rfl rfl ?_
          refine m_isPlace_t a ha ea ?_
          refine m_isPlace_t b hb eb ?_
          refine xelse hne ?_
          refine m_isWay (show (xrow M 3 f) 60 = M 60 from rfl) hw a b ha hb ea eb (fun c2 => by rw [c] at c2; cases c2) (fun c2 => ?_)
          refine m_ways a b ha hb ea eb ?_
          exact q1 _ (iv_way I a b 0 ha hb hab (by decide) 0 rfl f hf)
      · refine c_has hp a b ha hb ea eb (fun c => ?_) (fun c => ?_)
        · refine c_wput1 a b 1 ha hb hab ea eb rfl (by decide) hp.2.2.2.2.2.1 (fun f hf => ?_)
          refine q _ _ (fun Q1 q1 => ?_)
          refine CW_wp fX9_way rfl rfl rfl ?_
          refine m_isPlace_t a ha ea ?_
          refine m_isPlace_t b hb eb ?_
          refine xelse hne ?_
          refine m_isWay (show (xrow M 3 f) 60 = M 60 from rfl) hw a b ha hb ea eb (fun c2 => ?_) (fun c2 => by rw [c] at c2; cases c2)
          refine m_ways a b ha hb ea eb ?_
          exact q1 _ (iv_way I a b 1 ha hb hab (by decide) 1 rfl f hf)
        · refine c_wput1 a b 1 ha hb hab ea eb rfl (by decide) hp.2.2.2.2.2.1 (fun f hf => ?_)
          refine q _ _ (fun Q1 q1 => ?_)
          refine CW_wp fX9_way rfl rfl rfl ?_
          refine m_isPlace_t a ha ea ?_
          refine m_isPlace_t b hb eb ?_
          refine xelse hne ?_
          refine m_isWay (show (xrow M 3 f) 60 = M 60 from rfl) hw a b ha hb ea eb (fun c2 => by rw [c] at c2; cases c2) (fun c2 => ?_)
          refine m_ways a b ha hb ea eb ?_
          exact q1 _ (iv_way I a b 1 ha hb hab (by decide) 1 rfl f hf)
    · refine c_fin0 ?_
      refine q _ _ (fun Q1 q1 => ?_)
      refine CW_wp fX9_way rfl rfl rfl ?_
      refine m_isPlace_t a ha ea ?_
      refine m_isPlace_f nb ?_
      exact m_fin0 (iv_fc I) q1
  · refine c_fin0 ?_
    refine q _ _ (fun Q1 q1 => ?_)
    refine CW_wp fX9_way rfl rfl rfl ?_
    refine m_isPlace_f na ?_
    exact m_fin0 (iv_fc I) q1
def syF (N : Nat → Int32) (s : Nat) (k w l p h t m : Int32) : Nat → Int32 := upd (upd (upd (upd (upd (upd (upd N (204 + 6 * s + 0) k) (204 + 6 * s + 1) w) (204 + 6 * s + 2) l) (204 + 6 * s + 3) p) (204 + 6 * s + 4) h) (204 + 6 * s + 5) t) 1 m
theorem syF_un {N : Nat → Int32} {s j : Nat} {k w l p h t m : Int32} (h1 : j ≠ 1) (h2 : j < 204 + 6 * s ∨ 204 + 6 * s + 6 ≤ j) : syF N s k w l p h t m j = N j := by
  unfold syF
  rw [pk_un h1, pk_un (by omega), pk_un (by omega), pk_un (by omega), pk_un (by omega), pk_un (by omega), pk_un (by omega)]
theorem syF_1 {N : Nat → Int32} {s : Nat} {k w l p h t m : Int32} : syF N s k w l p h t m 1 = m := pk_us
def syv (k w l p h t : Int32) : Nat → Int32
  | 0 => k
  | 1 => w
  | 2 => l
  | 3 => p
  | 4 => h
  | _ => t
theorem syF_at {N : Nat → Int32} {s f : Nat} {k w l p h t m : Int32} (hf : f < 6) : syF N s k w l p h t m (204 + 6 * s + f) = syv k w l p h t f := by
  unfold syF
  match f, hf with
  | 0, _ => rw [pk_un (by omega), pk_un (by omega), pk_un (by omega), pk_un (by omega), pk_un (by omega), pk_un (by omega), pk_us]; rfl
  | 1, _ => rw [pk_un (by omega), pk_un (by omega), pk_un (by omega), pk_un (by omega), pk_un (by omega), pk_us]; rfl
  | 2, _ => rw [pk_un (by omega), pk_un (by omega), pk_un (by omega), pk_un (by omega), pk_us]; rfl
  | 3, _ => rw [pk_un (by omega), pk_un (by omega), pk_un (by omega), pk_us]; rfl
  | 4, _ => rw [pk_un (by omega), pk_un (by omega), pk_us]; rfl
  | 5, _ => rw [pk_un (by omega), pk_us]; rfl
  | f + 6, hf => exact absurd hf (by omega)
theorem wf_say {N : Nat → Int32} (w : Wf N) (k o l p h : Nat) (hk : k < 7) (ho : o < 16) (hl : 1 ≤ l ∧ l ≤ 9) (hp : p < 10) (hh : h < 24) (hs40 : sN N < 40) : Wf (syF N (sN N) (nI k) (nI o) (nI l) (nI p) (nI h) (nI (vN N 0)) (nI (sN N + 1))) := by
  have h40 := w.2.1.2
  have es : sN (syF N (sN N) (nI k) (nI o) (nI l) (nI p) (nI h) (nI (vN N 0)) (nI (sN N + 1))) = sN N + 1 := by
    show (syF N (sN N) (nI k) (nI o) (nI l) (nI p) (nI h) (nI (vN N 0)) (nI (sN N + 1)) 1).toNatClampNeg = _
    rw [syF_1, nI_clamp (by omega)]
  have eo : ∀ s f, s < sN N → f < 6 → (syF N (sN N) (nI k) (nI o) (nI l) (nI p) (nI h) (nI (vN N 0)) (nI (sN N + 1))) (204 + 6 * s + f) = N (204 + 6 * s + f) := fun s f hs hf => syF_un (by omega) (by omega)
  have eF : ∀ s f, s < sN N → f < 6 → sF (syF N (sN N) (nI k) (nI o) (nI l) (nI p) (nI h) (nI (vN N 0)) (nI (sN N + 1))) s f = sF N s f := fun s f hs hf => vN_e (eo s f hs hf)
  have e0 : vN (syF N (sN N) (nI k) (nI o) (nI l) (nI p) (nI h) (nI (vN N 0)) (nI (sN N + 1))) 0 = vN N 0 := vN_e (syF_un (by omega) (by omega))
  have en : ∀ f, f < 6 → sF (syF N (sN N) (nI k) (nI o) (nI l) (nI p) (nI h) (nI (vN N 0)) (nI (sN N + 1))) (sN N) f = (syv (nI k) (nI o) (nI l) (nI p) (nI h) (nI (vN N 0)) f).toNatClampNeg := fun f hf => by
    show ((syF N (sN N) (nI k) (nI o) (nI l) (nI p) (nI h) (nI (vN N 0)) (nI (sN N + 1))) (204 + 6 * sN N + f)).toNatClampNeg = _
    rw [syF_at hf]
  have hT := w.1.2
  have c0 : sF (syF N (sN N) (nI k) (nI o) (nI l) (nI p) (nI h) (nI (vN N 0)) (nI (sN N + 1))) (sN N) 0 = k := (en 0 (by decide)).trans (nI_clamp (by omega))
  have c1 : sF (syF N (sN N) (nI k) (nI o) (nI l) (nI p) (nI h) (nI (vN N 0)) (nI (sN N + 1))) (sN N) 1 = o := (en 1 (by decide)).trans (nI_clamp (by omega))
  have c2 : sF (syF N (sN N) (nI k) (nI o) (nI l) (nI p) (nI h) (nI (vN N 0)) (nI (sN N + 1))) (sN N) 2 = l := (en 2 (by decide)).trans (nI_clamp (by omega))
  have c3 : sF (syF N (sN N) (nI k) (nI o) (nI l) (nI p) (nI h) (nI (vN N 0)) (nI (sN N + 1))) (sN N) 3 = p := (en 3 (by decide)).trans (nI_clamp (by omega))
  have c4 : sF (syF N (sN N) (nI k) (nI o) (nI l) (nI p) (nI h) (nI (vN N 0)) (nI (sN N + 1))) (sN N) 4 = h := (en 4 (by decide)).trans (nI_clamp (by omega))
  have c5 : sF (syF N (sN N) (nI k) (nI o) (nI l) (nI p) (nI h) (nI (vN N 0)) (nI (sN N + 1))) (sN N) 5 = vN N 0 := (en 5 (by decide)).trans (nI_clamp (by omega))
  exact ⟨wc1 (syF_un (by omega) (by omega)) w, by rw [es, syF_1]; exact ⟨rfl, by omega⟩, wc3 (syF_un (by omega) (by omega)) w, wc4 (fun j hj => (syF_un (by omega) (by omega))) w, wc5 (fun a b ha hb => (syF_un (by omega) (by omega))) w, wc6 (fun a b ha hb => (syF_un (by omega) (by omega))) w, fun s hs f hf => by
    rw [es] at hs
    by_cases z : s = sN N
    · subst z
      match f, hf with
      | 0, _ => rw [c0]; exact syF_at (by decide)
      | 1, _ => rw [c1]; exact syF_at (by decide)
      | 2, _ => rw [c2]; exact syF_at (by decide)
      | 3, _ => rw [c3]; exact syF_at (by decide)
      | 4, _ => rw [c4]; exact syF_at (by decide)
      | 5, _ => rw [c5]; exact syF_at (by decide)
      | f + 6, hf => exact absurd hf (by omega)
    · rw [eF s f (by omega) hf, eo s f (by omega) hf]
      exact w.2.2.2.2.2.2.1 s (by omega) f hf, fun s hs => by
    rw [es] at hs
    rw [e0]
    by_cases z : s = sN N
    · subst z
      rw [c0, c1, c2, c3, c4, c5]
      exact ⟨hk, ho, hl.1, hl.2, hp, hh, Nat.le_refl _⟩
    · rw [eF s 0 (by omega) (by decide), eF s 1 (by omega) (by decide), eF s 2 (by omega) (by decide), eF s 3 (by omega) (by decide), eF s 4 (by omega) (by decide), eF s 5 (by omega) (by decide)]
      exact w.2.2.2.2.2.2.2.1 s (by omega), fun s t hst ht => by
    rw [es] at ht
    by_cases z : t = sN N
    · subst z
      rw [c5]
      by_cases z2 : s = sN N
      · subst z2; rw [c5]; exact Nat.le_refl _
      · rw [eF s 5 (by omega) (by decide)]
        exact (w.2.2.2.2.2.2.2.1 s (by omega)).2.2.2.2.2.2
    · rw [eF s 5 (by omega) (by decide), eF t 5 (by omega) (by decide)]
      exact w.2.2.2.2.2.2.2.2.1 s t hst (by omega), wc10 (fun q hq => (syF_un (by omega) (by omega))) w, fun j hj => by
    rw [es, show (syF N (sN N) (nI k) (nI o) (nI l) (nI p) (nI h) (nI (vN N 0)) (nI (sN N + 1))) (588 + j) = N (588 + j) from syF_un (by omega) (by omega)]
    rcases w.2.2.2.2.2.2.2.2.2.2 j hj with z | ⟨s, z1, z2⟩
    · exact Or.inl z
    · exact Or.inr ⟨s, by omega, z2⟩⟩
theorem pv_say1 {N : Nat → Int32} (w : Wf N) (i2 : PV 1 N M) (k o l p h : Nat) (hk : k < 7) (ho : o < 16) (hl : 1 ≤ l ∧ l ≤ 9) (hp : p < 10) (hh : h < 24) (hs40 : sN N < 40) : PV 1 (syF N (sN N) (nI k) (nI o) (nI l) (nI p) (nI h) (nI (vN N 0)) (nI (sN N + 1))) (xup (xup (xup (xup (xup (xup (xup M 5 (sN N) (nI k)) 6 (sN N) (nI o)) 7 (sN N) (nI l)) 8 (sN N) (nI p)) 9 (sN N) (nI h)) 10 (sN N) (nI (vN N 0))) 4 0 (nI (sN N + 1))) := by
  have h40 := w.2.1.2
  have es : sN (syF N (sN N) (nI k) (nI o) (nI l) (nI p) (nI h) (nI (vN N 0)) (nI (sN N + 1))) = sN N + 1 := by
    show (syF N (sN N) (nI k) (nI o) (nI l) (nI p) (nI h) (nI (vN N 0)) (nI (sN N + 1)) 1).toNatClampNeg = _
    rw [syF_1, nI_clamp (by omega)]
  have eo : ∀ s f, s < sN N → f < 6 → (syF N (sN N) (nI k) (nI o) (nI l) (nI p) (nI h) (nI (vN N 0)) (nI (sN N + 1))) (204 + 6 * s + f) = N (204 + 6 * s + f) := fun s f hs hf => syF_un (by omega) (by omega)
  have eF : ∀ s f, s < sN N → f < 6 → sF (syF N (sN N) (nI k) (nI o) (nI l) (nI p) (nI h) (nI (vN N 0)) (nI (sN N + 1))) s f = sF N s f := fun s f hs hf => vN_e (eo s f hs hf)
  have e0 : vN (syF N (sN N) (nI k) (nI o) (nI l) (nI p) (nI h) (nI (vN N 0)) (nI (sN N + 1))) 0 = vN N 0 := vN_e (syF_un (by omega) (by omega))
  have en : ∀ f, f < 6 → sF (syF N (sN N) (nI k) (nI o) (nI l) (nI p) (nI h) (nI (vN N 0)) (nI (sN N + 1))) (sN N) f = (syv (nI k) (nI o) (nI l) (nI p) (nI h) (nI (vN N 0)) f).toNatClampNeg := fun f hf => by
    show ((syF N (sN N) (nI k) (nI o) (nI l) (nI p) (nI h) (nI (vN N 0)) (nI (sN N + 1))) (204 + 6 * sN N + f)).toNatClampNeg = _
    rw [syF_at hf]
  have hT := w.1.2
  have c0 : sF (syF N (sN N) (nI k) (nI o) (nI l) (nI p) (nI h) (nI (vN N 0)) (nI (sN N + 1))) (sN N) 0 = k := (en 0 (by decide)).trans (nI_clamp (by omega))
  have c1 : sF (syF N (sN N) (nI k) (nI o) (nI l) (nI p) (nI h) (nI (vN N 0)) (nI (sN N + 1))) (sN N) 1 = o := (en 1 (by decide)).trans (nI_clamp (by omega))
  have c2 : sF (syF N (sN N) (nI k) (nI o) (nI l) (nI p) (nI h) (nI (vN N 0)) (nI (sN N + 1))) (sN N) 2 = l := (en 2 (by decide)).trans (nI_clamp (by omega))
  have c3 : sF (syF N (sN N) (nI k) (nI o) (nI l) (nI p) (nI h) (nI (vN N 0)) (nI (sN N + 1))) (sN N) 3 = p := (en 3 (by decide)).trans (nI_clamp (by omega))
  have c4 : sF (syF N (sN N) (nI k) (nI o) (nI l) (nI p) (nI h) (nI (vN N 0)) (nI (sN N + 1))) (sN N) 4 = h := (en 4 (by decide)).trans (nI_clamp (by omega))
  have c5 : sF (syF N (sN N) (nI k) (nI o) (nI l) (nI p) (nI h) (nI (vN N 0)) (nI (sN N + 1))) (sN N) 5 = vN N 0 := (en 5 (by decide)).trans (nI_clamp (by omega))
  exact ⟨i2.1.trans (syF_un (by omega) (by omega)).symm, (syF_1).symm, i2.2.2.1.trans (syF_un (by omega) (by omega)).symm, i2.2.2.2.1.trans (syF_un (by omega) (by omega)).symm, fun j hj => (i2.2.2.2.2.1 j hj).trans (syF_un (by omega) (by omega)).symm, fun p hp => (i2.2.2.2.2.2.1 p hp).trans (congrArg nI (bts_congr (fun q hq => (wy_e (fun a b ha hb => (syF_un (by omega) (by omega))) hp hq).symm))), fun s hs f hf => by
    rw [es] at hs
    have hn0 : ∀ (r s' : Nat) (v : Int32) (M0 : xM), s ≠ s' → xup M0 r s' v r s = M0 r s := fun r s' v M0 h => by
      unfold xup
      rw [xrow_at]
      exact pk_un h
    have hn1 : ∀ (r r' s' : Nat) (v : Int32) (M0 : xM), r' ≠ r → xup M0 r s' v r' s = M0 r' s := fun r r' s' v M0 h => row_ne h
    by_cases z : s = sN N
    · subst z
      rw [syF_at hf]
      match f, hf with
      | 0, _ => exact pk_us
      | 1, _ => exact pk_us
      | 2, _ => exact pk_us
      | 3, _ => exact pk_us
      | 4, _ => exact pk_us
      | 5, _ => exact pk_us
      | f + 6, hf => exact absurd hf (by omega)
    · rw [eo s f (by omega) hf, ← i2.2.2.2.2.2.2.1 s (by omega) f hf]
      match f, hf with
      | 0, _ => exact pk_un z
      | 1, _ => exact pk_un z
      | 2, _ => exact pk_un z
      | 3, _ => exact pk_un z
      | 4, _ => exact pk_un z
      | 5, _ => exact pk_un z
      | f + 6, hf => exact absurd hf (by omega), fun q hq => (i2.2.2.2.2.2.2.2.1 q hq).trans (syF_un (by omega) (by omega)).symm, fun j hj => (i2.2.2.2.2.2.2.2.2 j hj).trans (syF_un (by omega) (by omega)).symm⟩
theorem c_isFull1 {d : Nat} {N : Nat → Int32} (w : Wf N) (e4 : M 4 0 = nI (sN N)) (q1 : sN N = 40 → Q (some (.int 1)) (HH M)) (q0 : sN N < 40 → Q (some (.int 0)) (HH M)) : CW G d jX3_isFull [.ref 4] (HH M) Q := by
  have h40 := w.2.1.2
  refine CW_wp fX3_isFull rfl rfl rfl ?_
  exact xlt (sN N) 40 e4 rfl (by omega) (by decide) (fun c => q0 c) (fun c => q1 (by omega))
theorem c_add1 {d : Nat} {N : Nat → Int32} (w : Wf N) (e40 : M 4 0 = nI (sN N)) (hs40 : sN N < 40) {x y z u t v : Int32} (k o l p h : Nat) (hx : x = nI k) (hy : y = nI o) (hz : z = nI l) (hu : u = nI p) (ht : t = nI h) (hv : v = nI (vN N 0)) (q : Q (some (.int (nI (sN N)))) (HH (xup (xup (xup (xup (xup (xup (xup M 5 (sN N) (nI k)) 6 (sN N) (nI o)) 7 (sN N) (nI l)) 8 (sN N) (nI p)) 9 (sN N) (nI h)) 10 (sN N) (nI (vN N 0))) 4 0 (nI (sN N + 1))))) : CW G d jX3_add [.ref 4, .int x, .int y, .int z, .int u, .int t, .int v] (HH M) Q := by
  subst hx hy hz hu ht hv
  have hc : (nI (sN N)).toNatClampNeg = sN N := nI_clamp (by omega)
  refine CW_wp fX3_add rfl rfl rfl ?_
  refine xix (n := 40) (sN N) e40 hs40 (by decide) (fun e0 => ?_)
  refine xix (n := 40) (sN N) e40 hs40 (by decide) (fun e1 => ?_)
  refine xix (n := 40) (sN N) e40 hs40 (by decide) (fun e2 => ?_)
  refine xix (n := 40) (sN N) e40 hs40 (by decide) (fun e3 => ?_)
  refine xix (n := 40) (sN N) e40 hs40 (by decide) (fun e4 => ?_)
  refine xix (n := 40) (sN N) e40 hs40 (by decide) (fun e5 => ?_)
  rw [e0]
  have hq : Q (some (.int (M 4 0))) (HH (xup (xup (xup (xup (xup (xup (xup M 5 (sN N) (nI k)) 6 (sN N) (nI o)) 7 (sN N) (nI l)) 8 (sN N) (nI p)) 9 (sN N) (nI h)) 10 (sN N) (nI (vN N 0))) 4 0 (M 4 0 + 1))) := by
    rw [e40, ← nI_succ]
    exact q
  exact hq
theorem pv_say29 {N : Nat → Int32} (w : Wf N) (i2 : PV 29 N M) (k o l p h : Nat) (hk : k < 7) (ho : o < 16) (hl : 1 ≤ l ∧ l ≤ 9) (hp : p < 10) (hh : h < 24) (hs40 : sN N < 40) : PV 29 (syF N (sN N) (nI k) (nI o) (nI l) (nI p) (nI h) (nI (vN N 0)) (nI (sN N + 1))) (xup (xup (xup (xup (xup (xup (xup M 33 (sN N) (nI k)) 34 (sN N) (nI o)) 35 (sN N) (nI l)) 36 (sN N) (nI p)) 37 (sN N) (nI h)) 38 (sN N) (nI (vN N 0))) 32 0 (nI (sN N + 1))) := by
  have h40 := w.2.1.2
  have es : sN (syF N (sN N) (nI k) (nI o) (nI l) (nI p) (nI h) (nI (vN N 0)) (nI (sN N + 1))) = sN N + 1 := by
    show (syF N (sN N) (nI k) (nI o) (nI l) (nI p) (nI h) (nI (vN N 0)) (nI (sN N + 1)) 1).toNatClampNeg = _
    rw [syF_1, nI_clamp (by omega)]
  have eo : ∀ s f, s < sN N → f < 6 → (syF N (sN N) (nI k) (nI o) (nI l) (nI p) (nI h) (nI (vN N 0)) (nI (sN N + 1))) (204 + 6 * s + f) = N (204 + 6 * s + f) := fun s f hs hf => syF_un (by omega) (by omega)
  have eF : ∀ s f, s < sN N → f < 6 → sF (syF N (sN N) (nI k) (nI o) (nI l) (nI p) (nI h) (nI (vN N 0)) (nI (sN N + 1))) s f = sF N s f := fun s f hs hf => vN_e (eo s f hs hf)
  have e0 : vN (syF N (sN N) (nI k) (nI o) (nI l) (nI p) (nI h) (nI (vN N 0)) (nI (sN N + 1))) 0 = vN N 0 := vN_e (syF_un (by omega) (by omega))
  have en : ∀ f, f < 6 → sF (syF N (sN N) (nI k) (nI o) (nI l) (nI p) (nI h) (nI (vN N 0)) (nI (sN N + 1))) (sN N) f = (syv (nI k) (nI o) (nI l) (nI p) (nI h) (nI (vN N 0)) f).toNatClampNeg := fun f hf => by
    show ((syF N (sN N) (nI k) (nI o) (nI l) (nI p) (nI h) (nI (vN N 0)) (nI (sN N + 1))) (204 + 6 * sN N + f)).toNatClampNeg = _
    rw [syF_at hf]
  have hT := w.1.2
  have c0 : sF (syF N (sN N) (nI k) (nI o) (nI l) (nI p) (nI h) (nI (vN N 0)) (nI (sN N + 1))) (sN N) 0 = k := (en 0 (by decide)).trans (nI_clamp (by omega))
  have c1 : sF (syF N (sN N) (nI k) (nI o) (nI l) (nI p) (nI h) (nI (vN N 0)) (nI (sN N + 1))) (sN N) 1 = o := (en 1 (by decide)).trans (nI_clamp (by omega))
  have c2 : sF (syF N (sN N) (nI k) (nI o) (nI l) (nI p) (nI h) (nI (vN N 0)) (nI (sN N + 1))) (sN N) 2 = l := (en 2 (by decide)).trans (nI_clamp (by omega))
  have c3 : sF (syF N (sN N) (nI k) (nI o) (nI l) (nI p) (nI h) (nI (vN N 0)) (nI (sN N + 1))) (sN N) 3 = p := (en 3 (by decide)).trans (nI_clamp (by omega))
  have c4 : sF (syF N (sN N) (nI k) (nI o) (nI l) (nI p) (nI h) (nI (vN N 0)) (nI (sN N + 1))) (sN N) 4 = h := (en 4 (by decide)).trans (nI_clamp (by omega))
  have c5 : sF (syF N (sN N) (nI k) (nI o) (nI l) (nI p) (nI h) (nI (vN N 0)) (nI (sN N + 1))) (sN N) 5 = vN N 0 := (en 5 (by decide)).trans (nI_clamp (by omega))
  exact ⟨i2.1.trans (syF_un (by omega) (by omega)).symm, (syF_1).symm, i2.2.2.1.trans (syF_un (by omega) (by omega)).symm, i2.2.2.2.1.trans (syF_un (by omega) (by omega)).symm, fun j hj => (i2.2.2.2.2.1 j hj).trans (syF_un (by omega) (by omega)).symm, fun p hp => (i2.2.2.2.2.2.1 p hp).trans (congrArg nI (bts_congr (fun q hq => (wy_e (fun a b ha hb => (syF_un (by omega) (by omega))) hp hq).symm))), fun s hs f hf => by
    rw [es] at hs
    have hn0 : ∀ (r s' : Nat) (v : Int32) (M0 : xM), s ≠ s' → xup M0 r s' v r s = M0 r s := fun r s' v M0 h => by
      unfold xup
      rw [xrow_at]
      exact pk_un h
    have hn1 : ∀ (r r' s' : Nat) (v : Int32) (M0 : xM), r' ≠ r → xup M0 r s' v r' s = M0 r' s := fun r r' s' v M0 h => row_ne h
    by_cases z : s = sN N
    · subst z
      rw [syF_at hf]
      match f, hf with
      | 0, _ => exact pk_us
      | 1, _ => exact pk_us
      | 2, _ => exact pk_us
      | 3, _ => exact pk_us
      | 4, _ => exact pk_us
      | 5, _ => exact pk_us
      | f + 6, hf => exact absurd hf (by omega)
    · rw [eo s f (by omega) hf, ← i2.2.2.2.2.2.2.1 s (by omega) f hf]
      match f, hf with
      | 0, _ => exact pk_un z
      | 1, _ => exact pk_un z
      | 2, _ => exact pk_un z
      | 3, _ => exact pk_un z
      | 4, _ => exact pk_un z
      | 5, _ => exact pk_un z
      | f + 6, hf => exact absurd hf (by omega), fun q hq => (i2.2.2.2.2.2.2.2.1 q hq).trans (syF_un (by omega) (by omega)).symm, fun j hj => (i2.2.2.2.2.2.2.2.2 j hj).trans (syF_un (by omega) (by omega)).symm⟩
theorem c_isFull29 {d : Nat} {N : Nat → Int32} (w : Wf N) (e4 : M 32 0 = nI (sN N)) (q1 : sN N = 40 → Q (some (.int 1)) (HH M)) (q0 : sN N < 40 → Q (some (.int 0)) (HH M)) : CW G d jX3_isFull [.ref 32] (HH M) Q := by
  have h40 := w.2.1.2
  refine CW_wp fX3_isFull rfl rfl rfl ?_
  exact xlt (sN N) 40 e4 rfl (by omega) (by decide) (fun c => q0 c) (fun c => q1 (by omega))
theorem c_add29 {d : Nat} {N : Nat → Int32} (w : Wf N) (e40 : M 32 0 = nI (sN N)) (hs40 : sN N < 40) {x y z u t v : Int32} (k o l p h : Nat) (hx : x = nI k) (hy : y = nI o) (hz : z = nI l) (hu : u = nI p) (ht : t = nI h) (hv : v = nI (vN N 0)) (q : Q (some (.int (nI (sN N)))) (HH (xup (xup (xup (xup (xup (xup (xup M 33 (sN N) (nI k)) 34 (sN N) (nI o)) 35 (sN N) (nI l)) 36 (sN N) (nI p)) 37 (sN N) (nI h)) 38 (sN N) (nI (vN N 0))) 32 0 (nI (sN N + 1))))) : CW G d jX3_add [.ref 32, .int x, .int y, .int z, .int u, .int t, .int v] (HH M) Q := by
  subst hx hy hz hu ht hv
  have hc : (nI (sN N)).toNatClampNeg = sN N := nI_clamp (by omega)
  refine CW_wp fX3_add rfl rfl rfl ?_
  refine xix (n := 40) (sN N) e40 hs40 (by decide) (fun e0 => ?_)
  refine xix (n := 40) (sN N) e40 hs40 (by decide) (fun e1 => ?_)
  refine xix (n := 40) (sN N) e40 hs40 (by decide) (fun e2 => ?_)
  refine xix (n := 40) (sN N) e40 hs40 (by decide) (fun e3 => ?_)
  refine xix (n := 40) (sN N) e40 hs40 (by decide) (fun e4 => ?_)
  refine xix (n := 40) (sN N) e40 hs40 (by decide) (fun e5 => ?_)
  rw [e0]
  have hq : Q (some (.int (M 32 0))) (HH (xup (xup (xup (xup (xup (xup (xup M 33 (sN N) (nI k)) 34 (sN N) (nI o)) 35 (sN N) (nI l)) 36 (sN N) (nI p)) 37 (sN N) (nI h)) 38 (sN N) (nI (vN N 0))) 32 0 (M 32 0 + 1))) := by
    rw [e40, ← nI_succ]
    exact q
  exact hq
end W1
