/-! ONE INSTRUCTION of the small machine is one of the machine. -/
def xCx (G : xG) (p : Program) (R : Room) (s : State) (m : MethodId) (args : Array Value) (c : Code) (cc : ByteArray) (nL : Nat) (own : String) : Prop :=
  p.tables.exec = Jvm.exec ∧ c.code = cc ∧ c.maxLocals = nL ∧ s.vm.findClass own = some m.cls ∧ (∀ w ∈ xGood, w.before args s = true) ∧ xGX G s ∧ (gB G ≤ s.heap.size ∧ ∀ q : Nat, q < gB G → s.heap[q]? = (gH G)[q]?) ∧ 1 ≤ R.frames ∧ 30 ≤ R.locals
def xSt (G : xG) (s : State) (nL mc ms : Nat) (h : xH) (ls : xL) (cs ss : Nat) (H : Heap) (locs : List Loc) (LS : Array Slot) : Prop :=
  xRep G h H ∧ lv_has LS nL (xprs G ls) ∧ (∀ q ∈ locs, gB G ≤ q.base) ∧ s.heap.size ≤ H.size ∧ cs ≤ mc ∧ ss ≤ ms
def xGo (G : xG) (p : Program) (e : Env) (R : Room) (s : State) (m : MethodId) (args : Array Value) (below : List Frame) (meth : Method) (c : Code) (nL mc ms : Nat) (Qf : State → Prop) (pc : Nat) (nx : xL → List Value → xH → Nat → Nat → Prop) : Prop :=
  ∀ (ls : xL) (st : List Value) (h : xH) (cs ss : Nat) (H : Heap) (locs : List Loc) (LS : Array Slot), nx ls st h cs ss → xSt G s nL mc ms h ls cs ss H locs LS → W p (gL G) e R s m args below meth c H locs cs ss Qf (F0 m pc LS (st.map (xcv G)))
theorem x_old {G : xG} {h : xH} {H : Heap} {locs : List Loc} (hr : xRep G h H) (hH : (gH G).size = gB G) (hl : ∀ q ∈ locs, gB G ≤ q.base) : va_S (xA G) (gH G) H locs :=
  ⟨by rw [hH, hr.2.1]; omega, fun q h1 _ => hr.2.2.2.2 q (by rw [← hH]; exact h1), hl⟩
theorem x_oldS {G : xG} {s : State} {h : xH} {H : Heap} {locs : List Loc} (hr : xRep G h H) (hs : gB G ≤ s.heap.size ∧ ∀ q : Nat, q < gB G → s.heap[q]? = (gH G)[q]?) (hz : s.heap.size ≤ H.size) (hl : ∀ q ∈ locs, gB G ≤ q.base) : va_S (xA G) s.heap H locs :=
  ⟨hz, fun q _ h2 => by
    have h3 : q < gB G := Nat.not_le.mp h2
    rw [hr.2.2.2.2 q h3, hs.2 q h3], hl⟩
theorem x_keptS {G : xG} {s : State} (hH : (gH G).size = gB G) (hs : gB G ≤ s.heap.size ∧ ∀ q : Nat, q < gB G → s.heap[q]? = (gH G)[q]?) : ∀ a : Nat, a < (gH G).size → ¬ xA G a → s.heap[a]? = (gH G)[a]? := fun a h1 _ => hs.2 a (by rw [← hH]; exact h1)
/-- a cell of the picture -/
theorem x_cell {G : xG} {sh : List (Nat × Nat)} {Rf : Nat → Nat → Option Nat} {M : xM} {H : Heap} (hr : xRep G (sh, Rf, M) H) {o : Nat} {q : Nat × Nat} (ho : sh[o]? = some q) : va_at (gD G) vwCl (gB G + o, xce G Rf M o q) H ∧ xad G o = gB G + o ∧ o < sh.length := by
  have hl := (List.getElem?_eq_some_iff.mp ho).1
  have h1 := hr.1.1
  simp only at h1
  refine ⟨hr.2.2.1 o q ho, ?_, hl⟩
  unfold xad
  rw [if_pos (by omega)]
theorem x_ref {G : xG} {o : Nat} (h : o < 1000) : xcv G (.ref o) = .ref (gB G + o) := by
  show (if o = 1300 then gO G else Value.ref (if o < 1000 then gB G + o else gE G o)) = _
  rw [if_neg (by omega), if_pos h]
theorem x_refX {G : xG} {o : Nat} (h : 1000 ≤ o) (h2 : o < 1300) : xcv G (.ref o) = .ref (gE G o) := by
  show (if o = 1300 then gO G else Value.ref (if o < 1000 then gB G + o else gE G o)) = _
  rw [if_neg (by omega), if_neg (by omega)]
theorem x_sh {G : xG} {h : xH} {H : Heap} (hr : xRep G h H) {o : Nat} {q : Nat × Nat} (ho : h.1[o]? = some q) : xcv G (.ref o) = .ref (gB G + o) := x_ref (by
  have hl := (List.getElem?_eq_some_iff.mp ho).1
  have h1 := hr.1.1
  omega)
/-- a picture in which one cell has changed -/
theorem x_repU {G : xG} {sh : List (Nat × Nat)} {Rf R1 : Nat → Nat → Option Nat} {M M1 : xM} {H H1 : Heap} (hr : xRep G (sh, Rf, M) H) {o : Nat} {q : Nat × Nat} (ho : sh[o]? = some q) (hc : va_at (gD G) vwCl (gB G + o, xce G R1 M1 o q) H1) (hz : H1.size = H.size) (hq : ∀ a : Nat, a ≠ gB G + o → H1[a]? = H[a]?)
    (hR : ∀ i, i ≠ o → R1 i = Rf i) (hM : ∀ i, i ≠ o → M1 i = M i) (hN : ∀ (k j q : Nat), R1 k j = some q → q ≠ 1300) : xRep G (sh, R1, M1) H1 := by
  refine ⟨⟨hr.1.1, hN⟩, by rw [hz]; exact hr.2.1, fun k q' hk => ?_, hr.2.2.2.1, fun a ha => ?_⟩
  · by_cases e : k = o
    · subst e
      cases hk.symm.trans ho
      exact hc
    · have h1 := hr.2.2.1 k q' hk
      have e1 : xce G R1 M1 k q' = xce G Rf M k q' := by
        unfold xce
        rw [hR k e, hM k e]
      show va_at (gD G) vwCl (gB G + k, xce G R1 M1 k q') H1
      rw [e1]
      exact h1.kept (hq _ (by show gB G + k ≠ gB G + o; omega))
  · rw [hq a (by omega)]
    exact hr.2.2.2.2 a ha
/-- a picture with one more cell -/
theorem x_repN {G : xG} {sh : List (Nat × Nat)} {Rf R1 : Nat → Nat → Option Nat} {M M1 : xM} {H H1 : Heap} (hr : xRep G (sh, Rf, M) H) {q : Nat × Nat} (hlt : sh.length < 1000) (hc : va_at (gD G) vwCl (H.size, xce G R1 M1 sh.length q) H1) (hz : H1.size = H.size + 1) (hq : ∀ a : Nat, a < H.size → H1[a]? = H[a]?)
    (hR : ∀ i, i ≠ sh.length → R1 i = Rf i) (hM : ∀ i, i ≠ sh.length → M1 i = M i) (hk : ∀ ci, q.1 = ci + 3 → ∃ (C : String) (T : u_T), vwCl[ci]? = some (C, T, q.2)) (hN : ∀ (k j q : Nat), R1 k j = some q → q ≠ 1300) : xRep G (sh ++ [q], R1, M1) H1 := by
  have hs := hr.2.1
  simp only at hs
  have key : ∀ (k : Nat) (q' : Nat × Nat), (sh ++ [q])[k]? = some q' → (k < sh.length ∧ sh[k]? = some q') ∨ (k = sh.length ∧ q' = q) := by
    intro k q' h
    by_cases hl : k < sh.length
    · rw [List.getElem?_append_left hl] at h
      exact Or.inl ⟨hl, h⟩
    · rw [List.getElem?_append_right (by omega)] at h
      have hz : k - sh.length < 1 := (List.getElem?_eq_some_iff.mp h).1
      have hk0 : k = sh.length := by omega
      subst hk0
      rw [Nat.sub_self] at h
      cases h
      exact Or.inr ⟨rfl, rfl⟩
  refine ⟨⟨by simp; omega, hN⟩, by rw [hz, hs]; simp; omega, fun k q' h => ?_, fun k q' ci h hci => ?_, fun a ha => ?_⟩
  · rcases key k q' h with ⟨hl, h1⟩ | ⟨hl, h1⟩
    · have h2 := hr.2.2.1 k q' h1
      have e1 : xce G R1 M1 k q' = xce G Rf M k q' := by
        unfold xce
        rw [hR k (by omega), hM k (by omega)]
      show va_at (gD G) vwCl (gB G + k, xce G R1 M1 k q') H1
      rw [e1]
      exact h2.kept (hq _ (by show gB G + k < H.size; omega))
    · subst hl; subst h1
      rw [← hs]
      exact hc
  · rcases key k q' h with ⟨hl, h1⟩ | ⟨hl, h1⟩
    · exact hr.2.2.2.1 k q' ci h1 hci
    · subst h1
      exact hk ci hci
  · rw [hq a (by rw [hs]; omega)]
    exact hr.2.2.2.2 a ha
theorem xcat_eq {G : xG} (hO : xOk1 (gO G)) : ∀ st : List Value, ((st.map (xcv G)).map fun v => v.category).sum = xcat st
  | [] => rfl
  | v :: l => by
    have ih := xcat_eq hO l
    rw [List.map_cons, List.map_cons, List.sum_cons, ih, xcv_cat hO]
    cases v <;> simp [xcat, Value.category] <;> omega
theorem xpop_eq : ∀ (n : Nat) (st acc as r : List Value), xpop n st acc = some (as, r) → as.reverse ++ r = acc.reverse ++ st ∧ as.length = n + acc.length
  | 0, st, acc, as, r, h => by cases h; exact ⟨rfl, by omega⟩
  | n + 1, [], acc, as, r, h => by cases h
  | n + 1, v :: st, acc, as, r, h => by
    obtain ⟨h1, h2⟩ := xpop_eq n st (v :: acc) as r h
    refine ⟨by rw [h1]; simp, by rw [h2]; simp; omega⟩
def xClsOk (ci : Nat) (q : vw_C) : Prop := (∀ w ∈ u_ws q.1 q.2.1 q.2.2, w ∈ xGood) ∧ (∃ ty0 : Nat → FieldType, (∀ k, k < q.2.2 → parseFieldDescriptor (q.2.1 k).2.2.1 = some (ty0 k)) ∧ ∀ k, k < q.2.2 → defaultValue (ty0 k) = if xisI ci k then .int 0 else .null) ∧ (∀ a, a < q.2.2 → ∀ b, b < q.2.2 → a ≠ b → (q.2.1 a).2.1 ≠ (q.2.1 b).2.1) ∧ Cond.instantiable q.1 q.2.2 ∈ xGood ∧ Cond.initialized q.1 ∈ xGood

theorem xcls_0 : xClsOk 0 (RX1, TX1, 1) := ⟨by decide +kernel, ⟨tyX1, tyX1_ok, by decide +kernel⟩, nmX1, by decide +kernel, by decide +kernel⟩
theorem xcls_1 : xClsOk 1 (RX2, TX2, 6) := ⟨by decide +kernel, ⟨tyX2, tyX2_ok, by decide +kernel⟩, nmX2, by decide +kernel, by decide +kernel⟩
theorem xcls_2 : xClsOk 2 (RX3, TX3, 7) := ⟨by decide +kernel, ⟨tyX3, tyX3_ok, by decide +kernel⟩, nmX3, by decide +kernel, by decide +kernel⟩
theorem xcls_3 : xClsOk 3 (RX4, TX4, 3) := ⟨by decide +kernel, ⟨tyX4, tyX4_ok, by decide +kernel⟩, nmX4, by decide +kernel, by decide +kernel⟩
theorem xcls_4 : xClsOk 4 (RX5, TX5, 8) := ⟨by decide +kernel, ⟨tyX5, tyX5_ok, by decide +kernel⟩, nmX5, by decide +kernel, by decide +kernel⟩
theorem xcls_5 : xClsOk 5 (RX6, TX6, 4) := ⟨by decide +kernel, ⟨tyX6, tyX6_ok, by decide +kernel⟩, nmX6, by decide +kernel, by decide +kernel⟩
theorem xcls_6 : xClsOk 6 (RX7, TX7, 1) := ⟨by decide +kernel, ⟨tyX7, tyX7_ok, by decide +kernel⟩, nmX7, by decide +kernel, by decide +kernel⟩
theorem xcls_7 : xClsOk 7 (RX8, TX8, 8) := ⟨by decide +kernel, ⟨tyX8, tyX8_ok, by decide +kernel⟩, nmX8, by decide +kernel, by decide +kernel⟩
theorem xcls_8 : xClsOk 8 (RX9, TX9, 24) := ⟨by decide +kernel, ⟨tyX9, tyX9_ok, by decide +kernel⟩, nmX9, by decide +kernel, by decide +kernel⟩
theorem xcls_ok {ci : Nat} {q : vw_C} (h : vwCl[ci]? = some q) : xClsOk ci q := by
  match ci, h with
  | 0, h => cases h; exact xcls_0
  | 1, h => cases h; exact xcls_1
  | 2, h => cases h; exact xcls_2
  | 3, h => cases h; exact xcls_3
  | 4, h => cases h; exact xcls_4
  | 5, h => cases h; exact xcls_5
  | 6, h => cases h; exact xcls_6
  | 7, h => cases h; exact xcls_7
  | 8, h => cases h; exact xcls_8
  | n + 9, h => simp [vwCl] at h

def xPc (G : xG) (as : List Value) (h : xH) : Array Value → State → Prop := fun v U => v = (as.map (xcv G)).toArray ∧ xGX G U ∧ xRep G h U.heap
def xQc (G : xG) (Q : Option Value → xH → Prop) : Array Value → State → Outcome → State → Prop := fun _ st o t => st.heap.size ≤ t.heap.size ∧ ∃ (w : Option Value) (h : xH), o = .returned (w.map (xcv G)) ∧ Q w h ∧ xRep G h t.heap
def xrm (d a : Nat) : Room := { frames := d + 1, cells := (xal a).1, slots := (xal a).2, locals := 30 * (d + 1) }
/-- a callee, by its number, at the depth d -/
def xMt (G : xG) (d a : Nat) (as : List Value) (h : xH) (Q : Option Value → xH → Prop) : Prop := ∃ (y : MethodName) (bytes : ByteArray) (maxL : Nat) (ret : Option FieldType), xT[a]? = some (y, bytes, maxL, ret) ∧ Met (gL G) y (.code y bytes maxL ret :: xGood) (xrm d a) (xPc G as h) (xQc G Q) (xal a).1 (xal a).2 (xA G)
theorem xPc_blind {G : xG} {as : List Value} {h : xH} : FrameBlind (xPc G as h) := fun a U g mk q => ⟨q.1, q.2.1.warm (State.WarmedH.refl U), q.2.2⟩
def xTok (i : Nat) (q : MethodName × ByteArray × Nat × Option FieldType) (r : Nat × Nat × Nat × Nat) : Bool :=
  decide (lw_tbl[r.2.1]? = some (.initialized q.1.cls)) && decide (q.2.2.1 ≤ 9) && decide (q.1.cls ≠ "java/lang/invoke/MethodHandle" ∧ q.1.cls ≠ "java/lang/invoke/VarHandle") && goodWord (.initialized q.1.cls) && (match i with
    | 0 => decide (lw_tbl[r.2.2.1]? = some (.static q.1)) && goodWord (.static q.1)
    | 1 => decide (lw_tbl[r.2.2.1]? = some (.instanceMethod q.1)) && goodWord (.instanceMethod q.1) && decide (lw_tbl[r.2.2.2]? = some (.selects q.1.cls q.1 q.1)) && goodWord (.selects q.1.cls q.1 q.1)
    | 2 => decide (lw_tbl[r.2.2.1]? = some (.instanceMethod q.1)) && goodWord (.instanceMethod q.1) && decide (q.1.name = "<init>") && decide (q.2.2.2 = none)
    | _ => false)
def xTall (n : Nat) : Nat → Bool
  | 0 => true
  | k + 1 => xTall n k && (match xT[n + k]?, xMp[n + k]? with
    | some q, some r => xTok (xnth 9 xKd (n + k)) q r
    | _, _ => true)
set_option maxRecDepth 100000 in
theorem xTall_0 : xTall 0 60 = true := by decide +kernel
set_option maxRecDepth 100000 in
theorem xTall_1 : xTall 60 60 = true := by decide +kernel
set_option maxRecDepth 100000 in
theorem xTall_2 : xTall 120 60 = true := by decide +kernel
set_option maxRecDepth 100000 in
theorem xTall_3 : xTall 180 59 = true := by decide +kernel
theorem xTall_at (n : Nat) : ∀ (k : Nat), xTall n k = true → ∀ i, n ≤ i → i < n + k → ∀ q r, xT[i]? = some q → xMp[i]? = some r → xTok (xnth 9 xKd i) q r = true
  | 0, _, i, h1, h2, _, _, _, _ => absurd h1 (by omega)
  | k + 1, h, i, h1, h2, q, r, hq, hr => by
    simp only [xTall, Bool.and_eq_true] at h
    rcases Nat.lt_or_ge i (n + k) with h3 | h3
    · exact xTall_at n k h.1 i h1 h3 q r hq hr
    · have e : i = n + k := by omega
      subst e
      have h2 := h.2
      rw [hq, hr] at h2
      exact h2
theorem xT_len : xT.length = 239 := by decide +kernel
theorem xMp_len : xMp.length = 239 := by decide +kernel
theorem xTc : xMp.map (fun r => lw_tbl[r.1]?) = xT.map (fun q => some (.code q.1 q.2.1 q.2.2.1 q.2.2.2)) := by
  unfold xMp xT
  simp only [List.map_append, xTc_0, xTc_1, xTc_2, xTc_3]
theorem xT_at {a : Nat} {q : MethodName × ByteArray × Nat × Option FieldType} (h : xT[a]? = some q) : ∃ r, xTok (xnth 9 xKd a) q r = true ∧ lw_tbl[r.1]? = some (.code q.1 q.2.1 q.2.2.1 q.2.2.2) := by
  have hl := (List.getElem?_eq_some_iff.mp h).1
  rw [xT_len] at hl
  have h2 : xMp[a]? = some (xMp[a]'(by rw [xMp_len]; exact hl)) := List.getElem?_eq_getElem _
  generalize (xMp[a]'(by rw [xMp_len]; exact hl)) = r at h2
  refine ⟨r, ?_, ?_⟩
  · rcases Nat.lt_or_ge a 60 with h3 | h3
    · exact xTall_at 0 60 xTall_0 a (by omega) (by omega) _ _ h h2
    · rcases Nat.lt_or_ge a 120 with h4 | h4
      · exact xTall_at 60 60 xTall_1 a h3 (by omega) _ _ h h2
      · rcases Nat.lt_or_ge a 180 with h5 | h5
        · exact xTall_at 120 60 xTall_2 a h4 (by omega) _ _ h h2
        · exact xTall_at 180 59 xTall_3 a h5 (by omega) _ _ h h2
  · have h3 : (xMp.map (fun r => lw_tbl[r.1]?))[a]? = (xT.map (fun q => some (Cond.code q.1 q.2.1 q.2.2.1 q.2.2.2)))[a]? := by rw [xTc]
    rw [List.getElem?_map, List.getElem?_map, h, h2] at h3
    exact Option.some.inj h3
theorem xgood_mem {p : Nat} {w : Cond} (h : lw_tbl[p]? = some w) (hg : goodWord w = true) : w ∈ xGood := List.mem_filter.mpr ⟨List.mem_of_getElem? h, hg⟩
theorem xgood_in {w : Cond} (h : w ∈ xGood) : GoodIn xGood (w :: xGood) := by
  have key : ∀ v ∈ xGood, v ∈ xGood ∧ ((v.onTables && v.keeps) = true ∨ ∃ ty, v = .arrayClass ty) := fun v hv => ⟨hv, good_of_word (List.mem_filter.mp hv).2⟩
  intro v hv
  rcases List.mem_cons.mp hv with rfl | hv
  · exact key _ h
  · exact key _ hv
theorem xpush_map {G : xG} (w : Option Value) (r : List Value) : (xpush w r).map (xcv G) = (w.map (xcv G)).toList ++ r.map (xcv G) := by
  cases w <;> rfl
section XS
variable {G : xG} {p : Program} {e : Env} {R : Room} {s : State} {m : MethodId} {args : Array Value} {below : List Frame} {meth : Method} {c : Code} {cc : ByteArray} {nL mc ms : Nat} {own : String} {Qf : State → Prop} {pc : Nat} {ls : xL} {h : xH} {cs ss : Nat} {H : Heap} {locs : List Loc} {LS : Array Slot}
/-- behind a call -/
theorem x_after {d a : Nat} {r : List Value} {avs : Array Value} {Q : Option Value → xH → Prop} {st0 : List Value} {nx : xL → List Value → xH → Nat → Nat → Prop} (hS : xSt G s nL mc ms h ls cs ss H locs LS) (hb1 : cs + (xal a).1 ≤ mc) (hb2 : ss + (xal a).2 ≤ ms) (hnx : xGo G p e R s m args below meth c nL mc ms Qf (pc + 3) nx)
    (hQ : Q = fun w h' => nx ls (xpush w r) h' (cs + (xal a).1) (ss + (xal a).2))
    (hr : va_Run p (gL G) e R s m args below meth c H locs cs ss (xal a).1 (xal a).2 (F0 m pc LS st0) (r.map (xcv G)) (xQc G Q avs) (xA G)) : W p (gL G) e R s m args below meth c H locs cs ss Qf (F0 m pc LS st0) := by
  subst hQ
  intro T hT X
  obtain ⟨v, st₀, t, T', L, h0, X', hL, e1, e2, ⟨hz, w, h', hv, hq, hrep⟩, st⟩ := hr T hT X
  cases hv
  have hk := hnx ls (xpush w r) h' (cs + (xal a).1) (ss + (xal a).2) T'.heap (locs ++ L) LS hq ⟨by rw [e1]; exact hrep, hS.2.1, fun q hq' => by
      rcases List.mem_append.mp hq' with h1 | h1
      · exact hS.2.2.1 q h1
      · exact hL q h1, by rw [e1]; rw [h0] at hz; exact Nat.le_trans hS.2.2.2.1 hz, hb1, hb2⟩
  obtain ⟨t2, a1, b1⟩ := hk T' rfl X'
  refine ⟨t2, st t2 ?_, b1⟩
  rw [xpush_map] at a1
  exact a1
theorem x_room {d a maxL : Nat} (hR : d + 2 ≤ R.frames ∧ 28 + 30 * (d + 1) ≤ R.locals) (hm : maxL ≤ 9) : (xrm d a).frames + 1 ≤ R.frames ∧ 8 + (maxL + 11) + (xrm d a).locals ≤ R.locals := ⟨by show d + 1 + 1 ≤ _; omega, by show 8 + (maxL + 11) + 30 * (d + 1) ≤ _; omega⟩
theorem x_callS {d a b idx : Nat} {pp : List (Nat × Nat)} {st as r : List Value} {Q : Option Value → xH → Prop} {nx : xL → List Value → xH → Nat → Nat → Prop} (C : xCx G p R s m args c cc nL own) (hR : d + 2 ≤ R.frames ∧ 28 + 30 * (d + 1) ≤ R.locals) (hRc : R.cells = mc ∧ R.slots = ms) (hS : xSt G s nL mc ms h ls cs ss H locs LS) (hb1 : cs + (xal a).1 ≤ mc) (hb2 : ss + (xal a).2 ≤ ms) (hnx : xGo G p e R s m args below meth c nL mc ms Qf (pc + 3) nx)
    (hok : xcal pp own idx a 0 b = true) (hdg : decode cc pc = .ok (.invokestatic idx, 3)) (hp : xpop b st [] = some (as, r)) (hcat : xcat r ≤ 8) (hK : xMt G d a as h Q) (hQ : Q = fun w h' => nx ls (xpush w r) h' (cs + (xal a).1) (ss + (xal a).2)) :
    W p (gL G) e R s m args below meth c H locs cs ss Qf (F0 m pc LS (st.map (xcv G))) := by
  obtain ⟨hx, hb, hml, hown, hts, hG, hso, -, -⟩ := C
  obtain ⟨y, bytes, maxL, ret, hT, hM⟩ := hK
  unfold xcal at hok
  rw [hT] at hok
  simp only [Bool.and_eq_true, decide_eq_true_eq, Bool.or_eq_true] at hok
  obtain ⟨⟨hkd, hpar⟩, hlink⟩ := hok
  have hkd : xnth 9 xKd a = 0 := Nat.eq_of_beq_eq_true hkd
  obtain ⟨rr, hrr, w1⟩ := xT_at hT
  rw [hkd] at hrr
  simp only [xTok, Bool.and_eq_true, decide_eq_true_eq] at hrr
  obtain ⟨⟨⟨⟨w2, hmx⟩, hcl⟩, g2⟩, w3, g3⟩ := hrr
  have hcode := xgood_mem w1 rfl
  have hini := hts _ (xgood_mem w2 g2)
  have hstat := hts _ (xgood_mem w3 g3)
  obtain ⟨e1, e2⟩ := xpop_eq _ _ _ _ _ hp
  have hO := hG.2.2.2.2.2.2.2.2.2.2.2.1
  have est : st.map (xcv G) = (as.map (xcv G)).reverse ++ r.map (xcv G) := by
    simp only [List.reverse_nil, List.nil_append] at e1
    rw [← e1]; simp
  have hlen : (as.map (xcv G)).length = b := by simp at e2 ⊢; exact e2
  have hpre : PreS s H (xPc G as h) (as.map (xcv G)) := ⟨xPc_blind, fun U hU hW => ⟨rfl, hG.warm hW, by rw [hU]; exact hS.1⟩⟩
  have hf : cs + (xal a).1 ≤ R.cells ∧ ss + (xal a).2 ≤ R.slots := ⟨by rw [hRc.1]; exact hb1, by rw [hRc.2]; exact hb2⟩
  have hW : 2 * (F0 m pc LS (st.map (xcv G))).monitorRoom + ((r.map (xcv G)).map fun v => v.category).sum ≤ 8 := lv_room (by rw [xcat_eq hO]; exact hcat)
  rcases hlink with hlink | hlink
  · have hl := hts _ (xisw_mem hlink)
    refine x_after (d := d) (a := a) hS hb1 hb2 hnx hQ (va_runS (As := as.map (xcv G)) (n := b) ⟨hx, hb, hml, hown, hts⟩ hM ⟨callB_of b hts (xgood_in hcode) rfl rfl rfl hini hl ⟨hcl.1, hcl.2, hpar⟩ (x_room hR hmx), hstat⟩ hpre rfl hlen hS.2.1.1 est hW hdg hf)
  · have hl := hG.2.1 _ (xisn_mem hlink)
    refine x_after (d := d) (a := a) hS hb1 hb2 hnx hQ (va_runSN (As := as.map (xcv G)) (n := b) ⟨hx, hb, hml, hown, hts⟩ hM ⟨va_cnB b hts (xgood_in hcode) rfl rfl rfl hl hini ⟨hcl.1, hcl.2, hpar⟩ (x_room hR hmx), hstat, trivial⟩ hpre rfl hlen hS.2.1.1 est hW hdg hf)
theorem x_callI {d a b idx : Nat} {pp : List (Nat × Nat)} {st as r : List Value} {Q : Option Value → xH → Prop} {nx : xL → List Value → xH → Nat → Nat → Prop} (C : xCx G p R s m args c cc nL own) (hR : d + 2 ≤ R.frames ∧ 28 + 30 * (d + 1) ≤ R.locals) (hRc : R.cells = mc ∧ R.slots = ms) (hS : xSt G s nL mc ms h ls cs ss H locs LS) (hb1 : cs + (xal a).1 ≤ mc) (hb2 : ss + (xal a).2 ≤ ms) (hnx : xGo G p e R s m args below meth c nL mc ms Qf (pc + 3) nx)
    (hok : xcal pp own idx a 2 (b - 1) = true) (hb0 : 0 < b) (hdg : decode cc pc = .ok (.invokespecial idx, 3)) (hp : xpop b st [] = some (as, r)) (hcat : xcat r ≤ 8) (hrc : ∃ o ar, as = .ref o :: ar ∧ o < 1000) (hK : xMt G d a as h Q) (hQ : Q = fun w h' => nx ls (xpush w r) h' (cs + (xal a).1) (ss + (xal a).2)) :
    W p (gL G) e R s m args below meth c H locs cs ss Qf (F0 m pc LS (st.map (xcv G))) := by
  obtain ⟨hx, hb, hml, hown, hts, hG, hso, -, -⟩ := C
  obtain ⟨y, bytes, maxL, ret, hT, hM⟩ := hK
  unfold xcal at hok
  rw [hT] at hok
  simp only [Bool.and_eq_true, decide_eq_true_eq, Bool.or_eq_true] at hok
  obtain ⟨⟨hkd, hpar⟩, hlink⟩ := hok
  have hkd : xnth 9 xKd a = 2 := Nat.eq_of_beq_eq_true hkd
  obtain ⟨rr, hrr, w1⟩ := xT_at hT
  rw [hkd] at hrr
  simp only [xTok, Bool.and_eq_true, decide_eq_true_eq] at hrr
  obtain ⟨⟨⟨⟨w2, hmx⟩, hcl⟩, g2⟩, ⟨⟨w3, g3⟩, hnm⟩, hret⟩ := hrr
  have hcode := xgood_mem w1 rfl
  have hini := hts _ (xgood_mem w2 g2)
  have hinst := hts _ (xgood_mem w3 g3)
  obtain ⟨e1, e2⟩ := xpop_eq _ _ _ _ _ hp
  have hO := hG.2.2.2.2.2.2.2.2.2.2.2.1
  obtain ⟨o, ar, rfl, ho⟩ := hrc
  have est : st.map (xcv G) = (ar.map (xcv G)).reverse ++ .ref (gB G + o) :: r.map (xcv G) := by
    simp only [List.reverse_nil, List.nil_append] at e1
    rw [← e1, ← x_ref ho]; simp
  have hlen : (ar.map (xcv G)).length = b - 1 := by simp at e2 ⊢; omega
  have hpre : PreS s H (xPc G (.ref o :: ar) h) (.ref (gB G + o) :: ar.map (xcv G)) := ⟨xPc_blind, fun U hU hW => ⟨by rw [List.map_cons, x_ref ho], hG.warm hW, by rw [hU]; exact hS.1⟩⟩
  have hf : cs + (xal a).1 ≤ R.cells ∧ ss + (xal a).2 ≤ R.slots := ⟨by rw [hRc.1]; exact hb1, by rw [hRc.2]; exact hb2⟩
  have hW : 2 * (F0 m pc LS (st.map (xcv G))).monitorRoom + ((r.map (xcv G)).map fun v => v.category).sum ≤ 8 := lv_room (by rw [xcat_eq hO]; exact hcat)
  subst hret
  rcases hlink with hlink | hlink
  · have hl := hts _ (xisw_mem hlink)
    refine x_after (d := d) (a := a) hS hb1 hb2 hnx hQ (va_runI (As := ar.map (xcv G)) (n := b - 1) ⟨hx, hb, hml, hown, hts⟩ hM ⟨callB_of (b - 1) hts (xgood_in hcode) rfl rfl rfl hini hl ⟨hcl.1, hcl.2, hpar⟩ (x_room hR hmx), hnm, hinst⟩ hpre rfl hlen hS.2.1.1 est hW hdg hf)
  · have hl := hG.2.1 _ (xisn_mem hlink)
    refine x_after (d := d) (a := a) hS hb1 hb2 hnx hQ (va_runIN (As := ar.map (xcv G)) (n := b - 1) ⟨hx, hb, hml, hown, hts⟩ hM ⟨va_cnB (b - 1) hts (xgood_in hcode) rfl rfl rfl hl hini ⟨hcl.1, hcl.2, hpar⟩ (x_room hR hmx), hnm, hinst⟩ hpre rfl hlen hS.2.1.1 est hW hdg hf)
theorem x_callV {d a b idx : Nat} {pp : List (Nat × Nat)} {st as r : List Value} {v : Value} {Q : Option Value → xH → Prop} {nx : xL → List Value → xH → Nat → Nat → Prop} (C : xCx G p R s m args c cc nL own) (hR : d + 2 ≤ R.frames ∧ 28 + 30 * (d + 1) ≤ R.locals) (hRc : R.cells = mc ∧ R.slots = ms) (hS : xSt G s nL mc ms h ls cs ss H locs LS) (hb1 : cs + (xal a).1 ≤ mc) (hb2 : ss + (xal a).2 ≤ ms) (hnx : xGo G p e R s m args below meth c nL mc ms Qf (pc + 3) nx)
    (hok : xcal pp own idx a 1 (b - 1) = true) (hb0 : 0 < b) (hv : xrcT v a = true) (hrecv : xrecv h.1 v as = true) (hdg : decode cc pc = .ok (.invokevirtual idx, 3)) (hp : xpop b st [] = some (as, r)) (hcat : xcat r ≤ 8) (hK : xMt G d a as h Q) (hQ : Q = fun w h' => nx ls (xpush w r) h' (cs + (xal a).1) (ss + (xal a).2)) :
    W p (gL G) e R s m args below meth c H locs cs ss Qf (F0 m pc LS (st.map (xcv G))) := by
  obtain ⟨hx, hb, hml, hown, hts, hG, hso, -, -⟩ := C
  obtain ⟨y, bytes, maxL, ret, hT, hM⟩ := hK
  unfold xrcT at hv
  rw [hT] at hv
  unfold xcal at hok
  rw [hT] at hok
  simp only [Bool.and_eq_true, decide_eq_true_eq, Bool.or_eq_true] at hok
  obtain ⟨⟨hkd, hpar⟩, hlink⟩ := hok
  have hkd : xnth 9 xKd a = 1 := Nat.eq_of_beq_eq_true hkd
  obtain ⟨rr, hrr, w1⟩ := xT_at hT
  rw [hkd] at hrr
  simp only [xTok, Bool.and_eq_true, decide_eq_true_eq] at hrr
  obtain ⟨⟨⟨⟨w2, hmx⟩, hcl⟩, g2⟩, ⟨⟨w3, g3⟩, w4⟩, g4⟩ := hrr
  have hcode := xgood_mem w1 rfl
  have hini := hts _ (xgood_mem w2 g2)
  have hinst := hts _ (xgood_mem w3 g3)
  have hsel := hts _ (xgood_mem w4 g4)
  obtain ⟨e1, e2⟩ := xpop_eq _ _ _ _ _ hp
  have hO := hG.2.2.2.2.2.2.2.2.2.2.2.1
  have hrc : ∃ (o : Nat) (ar : List Value) (A : Nat), as = .ref o :: ar ∧ xcv G (.ref o) = .ref A ∧ ∃ cellB : Cell, H[A]? = some cellB ∧ cellB.vm.isStatics = false ∧ s.vm.findClass y.cls = some cellB.cls := by
    unfold xrecv at hrecv
    split at hrecv
    · rename_i ci o ar
      split at hrecv
      · rename_i h99
        simp only [Bool.and_eq_true, Nat.ble_eq, Nat.blt_eq] at hrecv
        simp only [h99, decide_eq_true_eq] at hv
        obtain ⟨i, rfl⟩ : ∃ i : Nat, @Eq Nat o (1100 + i) := ⟨@HSub.hSub Nat Nat Nat _ o 1100, by omega⟩
        obtain ⟨cell, c1, c2, c3, -⟩ := ((hG.2.2.2.2.1 i (by omega)).1).kept (x_keptS hG.2.2.2.2.2.2.2.2.2.2.2.2 hso)
        have hH : H[gE G (1100 + i)]? = some cell := by
          have hlt : gE G (1100 + i) < gB G := by
            obtain ⟨cell', c1', -, -, c4'⟩ := (hG.2.2.2.2.1 i (by omega)).1
            have := (Array.getElem?_eq_some_iff.mp c1').1
            rw [hG.2.2.2.2.2.2.2.2.2.2.2.2] at this
            exact this
          rw [hS.1.2.2.2.2 _ hlt, ← hso.2 _ hlt]
          exact c1
        exact ⟨_, _, _, rfl, x_refX (by omega) (by omega), cell, hH, c2, by rw [hv]; exact c3⟩
      · rename_i h99
        simp only [h99] at hv
        split at hrecv
        · rename_i kd n hsh
          have hkd' : kd = 3 + ci := Nat.eq_of_beq_eq_true hrecv
          subst hkd'
          obtain ⟨C1, T1, hvw⟩ := hS.1.2.2.2.1 o _ ci hsh (Nat.add_comm 3 ci)
          rw [hvw] at hv
          simp only [decide_eq_true_eq] at hv
          have hat := hS.1.2.2.1 o _ hsh
          have hce : xce G h.2.1 h.2.2 o (3 + ci, n) = .inr (ci, (List.range n).map (fun j => if xisI ci j then .int (h.2.2 o j) else va_rf ((h.2.1 o j).map (xad G)))) := by
            unfold xce
            rw [Nat.add_comm 3 ci]
          rw [hce] at hat
          obtain ⟨q', r1, cell, c1, c2, c3, -⟩ := hat
          have hq' : q' = (C1, T1, n) := Option.some.inj (r1.symm.trans hvw)
          subst hq'
          exact ⟨o, ar, gB G + o, rfl, x_sh hS.1 hsh, cell, c1, by rw [c3]; rfl, by rw [c2, hv]; exact (hG.1.1 ci _ hvw).2.1⟩
        · cases hrecv
    · cases hrecv
  obtain ⟨o, ar, A, rfl, hA, hcell⟩ := hrc
  have est : st.map (xcv G) = (ar.map (xcv G)).reverse ++ .ref A :: r.map (xcv G) := by
    simp only [List.reverse_nil, List.nil_append] at e1
    rw [← e1, ← hA]; simp
  have hlen : (ar.map (xcv G)).length = b - 1 := by simp at e2 ⊢; omega
  have hpre : PreV s H y.cls A (xPc G (.ref o :: ar) h) (ar.map (xcv G)) := ⟨xPc_blind, hcell, fun U hU hW => ⟨by rw [List.map_cons, hA], hG.warm hW, by rw [hU]; exact hS.1⟩⟩
  have hf : cs + (xal a).1 ≤ R.cells ∧ ss + (xal a).2 ≤ R.slots := ⟨by rw [hRc.1]; exact hb1, by rw [hRc.2]; exact hb2⟩
  have hW : 2 * (F0 m pc LS (st.map (xcv G))).monitorRoom + ((r.map (xcv G)).map fun v => v.category).sum ≤ 8 := lv_room (by rw [xcat_eq hO]; exact hcat)
  rcases hlink with hlink | hlink
  · have hl := hts _ (xisw_mem hlink)
    refine x_after (d := d) (a := a) hS hb1 hb2 hnx hQ (va_runV (As := ar.map (xcv G)) (n := b - 1) (C := y.cls) ⟨hx, hb, hml, hown, hts⟩ hM ⟨callB_of (b - 1) hts (xgood_in hcode) rfl rfl rfl hini hl ⟨hcl.1, hcl.2, hpar⟩ (x_room hR hmx), hinst, hsel⟩ hpre rfl hlen hS.2.1.1 est hW hdg hf)
  · have hl := hG.2.1 _ (xisn_mem hlink)
    refine x_after (d := d) (a := a) hS hb1 hb2 hnx hQ (va_runVN (As := ar.map (xcv G)) (n := b - 1) (C := y.cls) ⟨hx, hb, hml, hown, hts⟩ hM ⟨va_cnB (b - 1) hts (xgood_in hcode) rfl rfl rfl hl hini ⟨hcl.1, hcl.2, hpar⟩ (x_room hR hmx), hinst, hsel⟩ hpre rfl hlen hS.2.1.1 est hW hdg hf)
end XS

