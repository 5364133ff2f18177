/-! ONE STEP: what x1 says of the next states, the machine does. -/
theorem xcv_ok1 {G : xG} (hO : xOk1 (gO G)) (r : Nat) : xOk1 (xcv G (.ref r)) := by
  show xOk1 (if r = 1300 then gO G else .ref (xad G r))
  split
  · exact hO
  · exact Or.inr ⟨_, rfl⟩
theorem xtab_at {x : Int32} {jp : Nat → Prop} {pc : Nat} : ∀ {os : List Int} {lo : Int}, xtab x jp pc lo os → ∀ (i : Nat) (o : Int), os[i]? = some o → x.toInt = lo + i → jp ((pc : Int) + o).toNat
  | [], _, _, i, o, h, _ => by simp at h
  | o' :: os, lo, ht, 0, o, h, hx => by
    simp at h
    subst h
    exact xite_t ht (by simpa using hx)
  | o' :: os, lo, ht, i + 1, o, h, hx => by
    simp only [List.getElem?_cons_succ] at h
    exact xtab_at (os := os) (lo := lo + 1) (xite_f ht (by rw [hx]; push_cast; omega)) i o h (by rw [hx]; push_cast; omega)
def xretok (rt : Nat) (ins : Instr) (w : Option Value) : Prop := (ins = .ireturn ∧ ∃ (x : Int32) (ty : FieldType), w = some (.int x) ∧ xrt rt = some ty ∧ narrow ty (.int x) = .int x) ∨ (ins = .lreturn ∧ xrt rt = some .long ∧ ∃ x : Int64, w = some (.long x)) ∨ (ins = .return_ ∧ xrt rt = none ∧ w = none)
def xRet (G : xG) (p : Program) (e : Env) (R : Room) (s : State) (m : MethodId) (args : Array Value) (below : List Frame) (meth : Method) (c : Code) (cc : ByteArray) (mc ms rt : Nat) (Qf : State → Prop) (Q : Option Value → xH → Prop) : Prop :=
  ∀ (w : Option Value) (h : xH) (H : Heap) (locs : List Loc) (cs ss pc : Nat) (LS : Array Slot) (ins : Instr), Q w h → xRep G h H → (∀ q ∈ locs, gB G ≤ q.base) → s.heap.size ≤ H.size → cs ≤ mc → ss ≤ ms → xretok rt ins w → decode cc pc = .ok (ins, 1) → W p (gL G) e R s m args below meth c H locs cs ss Qf (F0 m pc LS (w.toList.map (xcv G)))
theorem narrow_z {x : Int32} (h : x = 0 ∨ x = 1) : narrow .boolean (.int x) = .int x := by
  rcases h with rfl | rfl <;> decide +kernel
set_option maxRecDepth 100000 in
theorem x_objw : Cond.instanceMethod objectInit ∈ xGood ∧ Cond.code objectInit ⟨#[0xb1]⟩ 1 none ∈ xGood ∧ Cond.arrayClass .int ∈ xGood ∧ Cond.native arraycopyName ∈ xGood ∧ Cond.static arraycopyName ∈ xGood ∧ Cond.initialized "java/lang/System" ∈ xGood :=
  ⟨xgood_mem (p := 83) (by rfl) rfl, xgood_mem (p := 84) (by rfl) rfl, xgood_mem (p := 101) (by rfl) rfl, xgood_mem (p := 681) (by rfl) rfl, xgood_mem (p := 680) (by rfl) rfl, xgood_mem (p := 72) (by rfl) rfl⟩
set_option maxRecDepth 100000 in
theorem x_mathw : Cond.static Lib.Math.max.name ∈ xGood ∧ Cond.static Lib.Math.min.name ∈ xGood ∧ Cond.initialized "java/lang/Math" ∈ xGood ∧ Cond.code Lib.Math.max.name Lib.Math.max.code 2 (some .int) ∈ xGood ∧ Cond.code Lib.Math.min.name Lib.Math.min.code 2 (some .int) ∈ xGood :=
  ⟨xgood_mem (p := 404) (by rfl) rfl, xgood_mem (p := 876) (by rfl) rfl, xgood_mem (p := 68) (by rfl) rfl, xgood_mem (p := 405) (by rfl) rfl, xgood_mem (p := 877) (by rfl) rfl⟩
theorem x_ldcwS {p : Program} {l : Launch} {e : Env} {R : Room} {s : State} {m : MethodId} {args : Array Value} {below : List Frame} {meth : Method} {c : Code} {H : Heap} {locs : List Loc} {cells slots : Nat} {Q : State → Prop} {cc : ByteArray} {pc : Nat} {ls : Array Slot} {rest : List Value} (hexec : p.tables.exec = Jvm.exec) (hb : c.code = cc) {own tx : String} {index q : Nat} (hown : s.vm.findClass own = some m.cls) (hZ : vk_R own index tx q s) (hdg : decode cc pc = .ok (.ldc_w index, 3))
    (k : W p l e R s m args below meth c H locs cells slots Q (F0 m (pc + 3) ls (.ref q :: rest))) : W p l e R s m args below meth c H locs cells slots Q (F0 m pc ls rest) := by
  intro T hT X
  subst hb
  obtain ⟨t, a1, b1⟩ := k T hT X
  refine ⟨t, ?_, b1⟩
  obtain ⟨k, cf, i, a', hk, hcf, hcp, -, hr, hev'⟩ := Cond.stringRef_spec hown hZ.1
  cases hZ.2.symm.trans hev'
  obtain ⟨k', hk', he⟩ := X.warmed.alike.2.2 _ _ hk
  have hr' : k'.resolved[index]? = some (some (.string q)) := by
    rcases X.warmed.entry hk hk' index with h | ⟨h, -⟩
    · rw [h]; exact hr
    · rw [hr] at h; cases h
  jvm_step X.here [hexec, hdg, ldc_w.wp_string (e := e) (s := T) (f := F0 m pc ls rest) X.here.top hk' (by rw [he]; exact hcf) hcp hr']
  exact a1
section XT
variable {G : xG} {p : Program} {e : Env} {R : Room} {s : State} {m : MethodId} {args : Array Value} {below : List Frame} {meth : Method} {c : Code} {cc : ByteArray} {nL mc ms rt : Nat} {own : String} {Qf : State → Prop} {pc : Nat} {ls : xL} {st : List Value} {h : xH} {cs ss : Nat} {H : Heap} {locs : List Loc} {LS : Array Slot}
variable {d : Nat} {pp : List (Nat × Nat)} {ini : Bool} {Q : Option Value → xH → Prop} {K : Nat → List Value → xH → (Option Value → xH → Prop) → Prop} {nx : xL → List Value → xH → Nat → Nat → Prop} {jp : Nat → xL → List Value → xH → Nat → Nat → Prop} {mk : List Bool} {a b : Nat} {v : Value}

theorem y_iconst {n : Int} (C : xCx G p R s m args c cc nL own) (hR : d + 2 ≤ R.frames ∧ 28 + 30 * (d + 1) ≤ R.locals ∨ ∀ a as h Q, ¬ K a as h Q) (hRc : R.cells = mc ∧ R.slots = ms) (hini : ini = true → meth.name = "<init>") (hjp : ∀ t, xGo G p e R s m args below meth c nL mc ms Qf t (jp t)) (hret : xRet G p e R s m args below meth c cc mc ms rt Qf Q) (hK : ∀ a as h Q, K a as h Q → xMt G d a as h Q) (S : xSt G s nL mc ms h ls cs ss H locs LS) (hdg : decode cc pc = .ok (.iconst n, 1)) (hok : xokI pp own ini nL (pc, mk, .iconst n, a, b, v) = true) (hnx : xGo G p e R s m args below meth c nL mc ms Qf (pc + 1) nx) (hx : x1 (xX (gN G) (gX G)) K xal mc ms rt Q nx jp (pc, mk, .iconst n, a, b, v) ls st h cs ss) : W p (gL G) e R s m args below meth c H locs cs ss Qf (F0 m pc LS (st.map (xcv G))) := by
  obtain ⟨hx0, hb, hml, hown, hts, hG, hso, hfr, hlo⟩ := id C
  have hO := hG.2.2.2.2.2.2.2.2.2.2.2.1
  have hv : v = .int (Int32.ofInt n) := of_decide_eq_true hok
  subst hv
  exact lv_iconst (v := Int32.ofInt n) hx0 hb hdg rfl (hnx _ _ _ _ _ _ _ _ hx S)
theorem y_bipush {n : Int} (C : xCx G p R s m args c cc nL own) (hR : d + 2 ≤ R.frames ∧ 28 + 30 * (d + 1) ≤ R.locals ∨ ∀ a as h Q, ¬ K a as h Q) (hRc : R.cells = mc ∧ R.slots = ms) (hini : ini = true → meth.name = "<init>") (hjp : ∀ t, xGo G p e R s m args below meth c nL mc ms Qf t (jp t)) (hret : xRet G p e R s m args below meth c cc mc ms rt Qf Q) (hK : ∀ a as h Q, K a as h Q → xMt G d a as h Q) (S : xSt G s nL mc ms h ls cs ss H locs LS) (hdg : decode cc pc = .ok (.bipush n, 2)) (hok : xokI pp own ini nL (pc, mk, .bipush n, a, b, v) = true) (hnx : xGo G p e R s m args below meth c nL mc ms Qf (pc + 2) nx) (hx : x1 (xX (gN G) (gX G)) K xal mc ms rt Q nx jp (pc, mk, .bipush n, a, b, v) ls st h cs ss) : W p (gL G) e R s m args below meth c H locs cs ss Qf (F0 m pc LS (st.map (xcv G))) := by
  obtain ⟨hx0, hb, hml, hown, hts, hG, hso, hfr, hlo⟩ := id C
  have hO := hG.2.2.2.2.2.2.2.2.2.2.2.1
  have hv : v = .int (Int8.ofInt n).toInt32 := of_decide_eq_true hok
  subst hv
  exact lv_bipush (v := (Int8.ofInt n).toInt32) hx0 hb hdg rfl (hnx _ _ _ _ _ _ _ _ hx S)
theorem y_sipush {n : Int} (C : xCx G p R s m args c cc nL own) (hR : d + 2 ≤ R.frames ∧ 28 + 30 * (d + 1) ≤ R.locals ∨ ∀ a as h Q, ¬ K a as h Q) (hRc : R.cells = mc ∧ R.slots = ms) (hini : ini = true → meth.name = "<init>") (hjp : ∀ t, xGo G p e R s m args below meth c nL mc ms Qf t (jp t)) (hret : xRet G p e R s m args below meth c cc mc ms rt Qf Q) (hK : ∀ a as h Q, K a as h Q → xMt G d a as h Q) (S : xSt G s nL mc ms h ls cs ss H locs LS) (hdg : decode cc pc = .ok (.sipush n, 3)) (hok : xokI pp own ini nL (pc, mk, .sipush n, a, b, v) = true) (hnx : xGo G p e R s m args below meth c nL mc ms Qf (pc + 3) nx) (hx : x1 (xX (gN G) (gX G)) K xal mc ms rt Q nx jp (pc, mk, .sipush n, a, b, v) ls st h cs ss) : W p (gL G) e R s m args below meth c H locs cs ss Qf (F0 m pc LS (st.map (xcv G))) := by
  obtain ⟨hx0, hb, hml, hown, hts, hG, hso, hfr, hlo⟩ := id C
  have hO := hG.2.2.2.2.2.2.2.2.2.2.2.1
  have hv : v = .int (Int16.ofInt n).toInt32 := of_decide_eq_true hok
  subst hv
  exact lv_sipush (v := (Int16.ofInt n).toInt32) hx0 hb hdg rfl (hnx _ _ _ _ _ _ _ _ hx S)
theorem y_lconst {n : Fin 2} (C : xCx G p R s m args c cc nL own) (hR : d + 2 ≤ R.frames ∧ 28 + 30 * (d + 1) ≤ R.locals ∨ ∀ a as h Q, ¬ K a as h Q) (hRc : R.cells = mc ∧ R.slots = ms) (hini : ini = true → meth.name = "<init>") (hjp : ∀ t, xGo G p e R s m args below meth c nL mc ms Qf t (jp t)) (hret : xRet G p e R s m args below meth c cc mc ms rt Qf Q) (hK : ∀ a as h Q, K a as h Q → xMt G d a as h Q) (S : xSt G s nL mc ms h ls cs ss H locs LS) (hdg : decode cc pc = .ok (.lconst n, 1)) (hok : xokI pp own ini nL (pc, mk, .lconst n, a, b, v) = true) (hnx : xGo G p e R s m args below meth c nL mc ms Qf (pc + 1) nx) (hx : x1 (xX (gN G) (gX G)) K xal mc ms rt Q nx jp (pc, mk, .lconst n, a, b, v) ls st h cs ss) : W p (gL G) e R s m args below meth c H locs cs ss Qf (F0 m pc LS (st.map (xcv G))) := by
  obtain ⟨hx0, hb, hml, hown, hts, hG, hso, hfr, hlo⟩ := id C
  have hO := hG.2.2.2.2.2.2.2.2.2.2.2.1
  have hv : v = .long (Int64.ofNat (n : Nat)) := of_decide_eq_true hok
  subst hv
  exact lv_lconst (v := Int64.ofNat (n : Nat)) hx0 hb hdg rfl (hnx _ _ _ _ _ _ _ _ hx S)
theorem y_ldc {i : Nat} (C : xCx G p R s m args c cc nL own) (hR : d + 2 ≤ R.frames ∧ 28 + 30 * (d + 1) ≤ R.locals ∨ ∀ a as h Q, ¬ K a as h Q) (hRc : R.cells = mc ∧ R.slots = ms) (hini : ini = true → meth.name = "<init>") (hjp : ∀ t, xGo G p e R s m args below meth c nL mc ms Qf t (jp t)) (hret : xRet G p e R s m args below meth c cc mc ms rt Qf Q) (hK : ∀ a as h Q, K a as h Q → xMt G d a as h Q) (S : xSt G s nL mc ms h ls cs ss H locs LS) (hdg : decode cc pc = .ok (.ldc i, 2)) (hok : xokI pp own ini nL (pc, mk, .ldc i, a, b, v) = true) (hnx : xGo G p e R s m args below meth c nL mc ms Qf (pc + 2) nx) (hx : x1 (xX (gN G) (gX G)) K xal mc ms rt Q nx jp (pc, mk, .ldc i, a, b, v) ls st h cs ss) : W p (gL G) e R s m args below meth c H locs cs ss Qf (F0 m pc LS (st.map (xcv G))) := by
  obtain ⟨hx0, hb, hml, hown, hts, hG, hso, hfr, hlo⟩ := id C
  have hO := hG.2.2.2.2.2.2.2.2.2.2.2.1
  cases v with
  | int x => exact lv_ldc hx0 hb hown (hts _ (xisw_mem hok)) hdg (hnx _ _ _ _ _ _ _ _ hx S)
  | ref r =>
    have h1 : (xStr.any (fun q => decide (q.1 = own ∧ q.2.1 = i ∧ q.2.2.2 = r)) && Nat.ble 1100 r && Nat.blt r 1115) = true := hok
    simp only [Bool.and_eq_true, List.any_eq_true, decide_eq_true_eq, Nat.ble_eq, Nat.blt_eq] at h1
    obtain ⟨⟨⟨q, hq, q1, q2, q3⟩, h2⟩, h3⟩ := h1
    have h4 := hG.2.2.2.1 q hq
    rw [q1, q2, q3] at h4
    have h5 := hnx _ _ _ _ _ _ _ _ hx S
    rw [List.map_cons, x_refX (by omega) (by omega)] at h5
    exact va_ldcS hx0 hb hown h4 hdg h5
  | _ => exact (Bool.false_ne_true hok).elim
theorem y_ldc_w {i : Nat} (C : xCx G p R s m args c cc nL own) (hR : d + 2 ≤ R.frames ∧ 28 + 30 * (d + 1) ≤ R.locals ∨ ∀ a as h Q, ¬ K a as h Q) (hRc : R.cells = mc ∧ R.slots = ms) (hini : ini = true → meth.name = "<init>") (hjp : ∀ t, xGo G p e R s m args below meth c nL mc ms Qf t (jp t)) (hret : xRet G p e R s m args below meth c cc mc ms rt Qf Q) (hK : ∀ a as h Q, K a as h Q → xMt G d a as h Q) (S : xSt G s nL mc ms h ls cs ss H locs LS) (hdg : decode cc pc = .ok (.ldc_w i, 3)) (hok : xokI pp own ini nL (pc, mk, .ldc_w i, a, b, v) = true) (hnx : xGo G p e R s m args below meth c nL mc ms Qf (pc + 3) nx) (hx : x1 (xX (gN G) (gX G)) K xal mc ms rt Q nx jp (pc, mk, .ldc_w i, a, b, v) ls st h cs ss) : W p (gL G) e R s m args below meth c H locs cs ss Qf (F0 m pc LS (st.map (xcv G))) := by
  obtain ⟨hx0, hb, hml, hown, hts, hG, hso, hfr, hlo⟩ := id C
  have hO := hG.2.2.2.2.2.2.2.2.2.2.2.1
  cases v with
  | int x => exact lv_ldcw hx0 hb hown (hts _ (xisw_mem hok)) hdg (hnx _ _ _ _ _ _ _ _ hx S)
  | ref r =>
    have h1 : (xStr.any (fun q => decide (q.1 = own ∧ q.2.1 = i ∧ q.2.2.2 = r)) && Nat.ble 1100 r && Nat.blt r 1115) = true := hok
    simp only [Bool.and_eq_true, List.any_eq_true, decide_eq_true_eq, Nat.ble_eq, Nat.blt_eq] at h1
    obtain ⟨⟨⟨q, hq, q1, q2, q3⟩, h2⟩, h3⟩ := h1
    have h4 := hG.2.2.2.1 q hq
    rw [q1, q2, q3] at h4
    have h5 := hnx _ _ _ _ _ _ _ _ hx S
    rw [List.map_cons, x_refX (by omega) (by omega)] at h5
    exact x_ldcwS hx0 hb hown h4 hdg h5
  | _ => exact (Bool.false_ne_true hok).elim
theorem y_ldc2_w {i : Nat} (C : xCx G p R s m args c cc nL own) (hR : d + 2 ≤ R.frames ∧ 28 + 30 * (d + 1) ≤ R.locals ∨ ∀ a as h Q, ¬ K a as h Q) (hRc : R.cells = mc ∧ R.slots = ms) (hini : ini = true → meth.name = "<init>") (hjp : ∀ t, xGo G p e R s m args below meth c nL mc ms Qf t (jp t)) (hret : xRet G p e R s m args below meth c cc mc ms rt Qf Q) (hK : ∀ a as h Q, K a as h Q → xMt G d a as h Q) (S : xSt G s nL mc ms h ls cs ss H locs LS) (hdg : decode cc pc = .ok (.ldc2_w i, 3)) (hok : xokI pp own ini nL (pc, mk, .ldc2_w i, a, b, v) = true) (hnx : xGo G p e R s m args below meth c nL mc ms Qf (pc + 3) nx) (hx : x1 (xX (gN G) (gX G)) K xal mc ms rt Q nx jp (pc, mk, .ldc2_w i, a, b, v) ls st h cs ss) : W p (gL G) e R s m args below meth c H locs cs ss Qf (F0 m pc LS (st.map (xcv G))) := by
  obtain ⟨hx0, hb, hml, hown, hts, hG, hso, hfr, hlo⟩ := id C
  have hO := hG.2.2.2.2.2.2.2.2.2.2.2.1
  cases v with
  | long x => exact lv_ldc2 hx0 hb hown (hts _ (xisw_mem hok)) hdg (hnx _ _ _ _ _ _ _ _ hx S)
  | _ => exact (Bool.false_ne_true hok).elim
theorem y_getstatic {i : Nat} (C : xCx G p R s m args c cc nL own) (hR : d + 2 ≤ R.frames ∧ 28 + 30 * (d + 1) ≤ R.locals ∨ ∀ a as h Q, ¬ K a as h Q) (hRc : R.cells = mc ∧ R.slots = ms) (hini : ini = true → meth.name = "<init>") (hjp : ∀ t, xGo G p e R s m args below meth c nL mc ms Qf t (jp t)) (hret : xRet G p e R s m args below meth c cc mc ms rt Qf Q) (hK : ∀ a as h Q, K a as h Q → xMt G d a as h Q) (S : xSt G s nL mc ms h ls cs ss H locs LS) (hdg : decode cc pc = .ok (.getstatic i, 3)) (hok : xokI pp own ini nL (pc, mk, .getstatic i, a, b, v) = true) (hnx : xGo G p e R s m args below meth c nL mc ms Qf (pc + 3) nx) (hx : x1 (xX (gN G) (gX G)) K xal mc ms rt Q nx jp (pc, mk, .getstatic i, a, b, v) ls st h cs ss) : W p (gL G) e R s m args below meth c H locs cs ss Qf (F0 m pc LS (st.map (xcv G))) := by
  obtain ⟨hx0, hb, hml, hown, hts, hG, hso, hfr, hlo⟩ := id C
  have hO := hG.2.2.2.2.2.2.2.2.2.2.2.1
  have hS := x_oldS S.1 hso S.2.2.2.1 S.2.2.1
  have hk := x_keptS hG.2.2.2.2.2.2.2.2.2.2.2.2 hso
  match a, hok with
  | 0, hok =>
    have h1 : (decide (v = .ref 1001) && xisw pp i (.fieldLink own i "EchoValley$Kinds" "ABOVE" "[I")) = true := hok
    simp only [Bool.and_eq_true, decide_eq_true_eq] at h1
    obtain ⟨rfl, h2⟩ := h1
    have h5 := hnx _ _ _ _ _ _ _ _ hx S
    rw [List.map_cons, x_refX (by omega) (by omega)] at h5
    exact va_gets hx0 hb (hG.2.2.2.2.2.1.kept hk) hS hown (hts _ (xisw_mem h2)) (fun _ h => h) hdg h5
  | 1, hok =>
    have h1 : (decide (v = .int 1) && xisw pp i (.fieldLink own i "java/lang/String" "COMPACT_STRINGS" "Z")) = true := hok
    simp only [Bool.and_eq_true, decide_eq_true_eq] at h1
    obtain ⟨rfl, h2⟩ := h1
    exact va_gets hx0 hb (hG.2.2.2.2.2.2.2.1.kept hk) hS hown (hts _ (xisw_mem h2)) (fun _ h => h) hdg (hnx _ _ _ _ _ _ _ _ hx S)
  | n + 2, hok =>
    have h1 : (decide (v = .ref 1300) && xisw pp i (.fieldLink own i "jdk/internal/util/Preconditions" "SIOOBE_FORMATTER" "Ljava/util/function/BiFunction;")) = true := hok
    simp only [Bool.and_eq_true, decide_eq_true_eq] at h1
    obtain ⟨rfl, h2⟩ := h1
    exact va_gets hx0 hb (hG.2.2.2.2.2.2.2.2.1.kept hk) hS hown (hts _ (xisw_mem h2)) (fun _ h => h) hdg (hnx _ _ _ _ _ _ _ _ hx S)
theorem y_iload_n {k : Fin 4} (C : xCx G p R s m args c cc nL own) (hR : d + 2 ≤ R.frames ∧ 28 + 30 * (d + 1) ≤ R.locals ∨ ∀ a as h Q, ¬ K a as h Q) (hRc : R.cells = mc ∧ R.slots = ms) (hini : ini = true → meth.name = "<init>") (hjp : ∀ t, xGo G p e R s m args below meth c nL mc ms Qf t (jp t)) (hret : xRet G p e R s m args below meth c cc mc ms rt Qf Q) (hK : ∀ a as h Q, K a as h Q → xMt G d a as h Q) (S : xSt G s nL mc ms h ls cs ss H locs LS) (hdg : decode cc pc = .ok (.iload_n k, 1)) (hok : xokI pp own ini nL (pc, mk, .iload_n k, a, b, v) = true) (hnx : xGo G p e R s m args below meth c nL mc ms Qf (pc + 1) nx) (hx : x1 (xX (gN G) (gX G)) K xal mc ms rt Q nx jp (pc, mk, .iload_n k, a, b, v) ls st h cs ss) : W p (gL G) e R s m args below meth c H locs cs ss Qf (F0 m pc LS (st.map (xcv G))) := by
  obtain ⟨hx0, hb, hml, hown, hts, hG, hso, hfr, hlo⟩ := id C
  have hO := hG.2.2.2.2.2.2.2.2.2.2.2.1
  have hk : (k : Nat) = a := of_decide_eq_true hok
  dsimp only [x1] at hx
  split at hx
  · rename_i x hg
    exact lv_iload_n hx0 hb hdg hk (x_at S.2.1 hg) (hnx _ _ _ _ _ _ _ _ hx S)
  · exact hx.elim
theorem y_iload {k : Nat} (C : xCx G p R s m args c cc nL own) (hR : d + 2 ≤ R.frames ∧ 28 + 30 * (d + 1) ≤ R.locals ∨ ∀ a as h Q, ¬ K a as h Q) (hRc : R.cells = mc ∧ R.slots = ms) (hini : ini = true → meth.name = "<init>") (hjp : ∀ t, xGo G p e R s m args below meth c nL mc ms Qf t (jp t)) (hret : xRet G p e R s m args below meth c cc mc ms rt Qf Q) (hK : ∀ a as h Q, K a as h Q → xMt G d a as h Q) (S : xSt G s nL mc ms h ls cs ss H locs LS) (hdg : decode cc pc = .ok (.iload k, 2)) (hok : xokI pp own ini nL (pc, mk, .iload k, a, b, v) = true) (hnx : xGo G p e R s m args below meth c nL mc ms Qf (pc + 2) nx) (hx : x1 (xX (gN G) (gX G)) K xal mc ms rt Q nx jp (pc, mk, .iload k, a, b, v) ls st h cs ss) : W p (gL G) e R s m args below meth c H locs cs ss Qf (F0 m pc LS (st.map (xcv G))) := by
  obtain ⟨hx0, hb, hml, hown, hts, hG, hso, hfr, hlo⟩ := id C
  have hO := hG.2.2.2.2.2.2.2.2.2.2.2.1
  have hk : k = a := of_decide_eq_true hok
  subst hk
  dsimp only [x1] at hx
  split at hx
  · rename_i x hg
    exact lv_iload hx0 hb hdg (x_at S.2.1 hg) (hnx _ _ _ _ _ _ _ _ hx S)
  · exact hx.elim
theorem y_lload_n {k : Fin 4} (C : xCx G p R s m args c cc nL own) (hR : d + 2 ≤ R.frames ∧ 28 + 30 * (d + 1) ≤ R.locals ∨ ∀ a as h Q, ¬ K a as h Q) (hRc : R.cells = mc ∧ R.slots = ms) (hini : ini = true → meth.name = "<init>") (hjp : ∀ t, xGo G p e R s m args below meth c nL mc ms Qf t (jp t)) (hret : xRet G p e R s m args below meth c cc mc ms rt Qf Q) (hK : ∀ a as h Q, K a as h Q → xMt G d a as h Q) (S : xSt G s nL mc ms h ls cs ss H locs LS) (hdg : decode cc pc = .ok (.lload_n k, 1)) (hok : xokI pp own ini nL (pc, mk, .lload_n k, a, b, v) = true) (hnx : xGo G p e R s m args below meth c nL mc ms Qf (pc + 1) nx) (hx : x1 (xX (gN G) (gX G)) K xal mc ms rt Q nx jp (pc, mk, .lload_n k, a, b, v) ls st h cs ss) : W p (gL G) e R s m args below meth c H locs cs ss Qf (F0 m pc LS (st.map (xcv G))) := by
  obtain ⟨hx0, hb, hml, hown, hts, hG, hso, hfr, hlo⟩ := id C
  have hO := hG.2.2.2.2.2.2.2.2.2.2.2.1
  have hk : (k : Nat) = a := of_decide_eq_true hok
  dsimp only [x1] at hx
  split at hx
  · rename_i x hg
    exact lv_lload_n hx0 hb hdg hk (x_at S.2.1 hg) (hnx _ _ _ _ _ _ _ _ hx S)
  · exact hx.elim
theorem y_lload {k : Nat} (C : xCx G p R s m args c cc nL own) (hR : d + 2 ≤ R.frames ∧ 28 + 30 * (d + 1) ≤ R.locals ∨ ∀ a as h Q, ¬ K a as h Q) (hRc : R.cells = mc ∧ R.slots = ms) (hini : ini = true → meth.name = "<init>") (hjp : ∀ t, xGo G p e R s m args below meth c nL mc ms Qf t (jp t)) (hret : xRet G p e R s m args below meth c cc mc ms rt Qf Q) (hK : ∀ a as h Q, K a as h Q → xMt G d a as h Q) (S : xSt G s nL mc ms h ls cs ss H locs LS) (hdg : decode cc pc = .ok (.lload k, 2)) (hok : xokI pp own ini nL (pc, mk, .lload k, a, b, v) = true) (hnx : xGo G p e R s m args below meth c nL mc ms Qf (pc + 2) nx) (hx : x1 (xX (gN G) (gX G)) K xal mc ms rt Q nx jp (pc, mk, .lload k, a, b, v) ls st h cs ss) : W p (gL G) e R s m args below meth c H locs cs ss Qf (F0 m pc LS (st.map (xcv G))) := by
  obtain ⟨hx0, hb, hml, hown, hts, hG, hso, hfr, hlo⟩ := id C
  have hO := hG.2.2.2.2.2.2.2.2.2.2.2.1
  have hk : k = a := of_decide_eq_true hok
  subst hk
  dsimp only [x1] at hx
  split at hx
  · rename_i x hg
    exact lv_lload hx0 hb hdg (x_at S.2.1 hg) (hnx _ _ _ _ _ _ _ _ hx S)
  · exact hx.elim
theorem y_aload_n {k : Fin 4} (C : xCx G p R s m args c cc nL own) (hR : d + 2 ≤ R.frames ∧ 28 + 30 * (d + 1) ≤ R.locals ∨ ∀ a as h Q, ¬ K a as h Q) (hRc : R.cells = mc ∧ R.slots = ms) (hini : ini = true → meth.name = "<init>") (hjp : ∀ t, xGo G p e R s m args below meth c nL mc ms Qf t (jp t)) (hret : xRet G p e R s m args below meth c cc mc ms rt Qf Q) (hK : ∀ a as h Q, K a as h Q → xMt G d a as h Q) (S : xSt G s nL mc ms h ls cs ss H locs LS) (hdg : decode cc pc = .ok (.aload_n k, 1)) (hok : xokI pp own ini nL (pc, mk, .aload_n k, a, b, v) = true) (hnx : xGo G p e R s m args below meth c nL mc ms Qf (pc + 1) nx) (hx : x1 (xX (gN G) (gX G)) K xal mc ms rt Q nx jp (pc, mk, .aload_n k, a, b, v) ls st h cs ss) : W p (gL G) e R s m args below meth c H locs cs ss Qf (F0 m pc LS (st.map (xcv G))) := by
  obtain ⟨hx0, hb, hml, hown, hts, hG, hso, hfr, hlo⟩ := id C
  have hO := hG.2.2.2.2.2.2.2.2.2.2.2.1
  have hk : (k : Nat) = a := of_decide_eq_true hok
  dsimp only [x1] at hx
  split at hx
  · rename_i x hg
    have h5 := hnx _ _ _ _ _ _ _ _ hx S
    have h6 := x_at S.2.1 hg
    rw [List.map_cons] at h5
    rcases xcv_ok1 hO x with h7 | ⟨A, h7⟩ <;> rw [h7] at h5 h6
    · exact lv_aload_nN hx0 hb hdg hk h6 h5
    · exact lv_aload_n hx0 hb hdg hk h6 h5
  · exact hx.elim
theorem y_aload {k : Nat} (C : xCx G p R s m args c cc nL own) (hR : d + 2 ≤ R.frames ∧ 28 + 30 * (d + 1) ≤ R.locals ∨ ∀ a as h Q, ¬ K a as h Q) (hRc : R.cells = mc ∧ R.slots = ms) (hini : ini = true → meth.name = "<init>") (hjp : ∀ t, xGo G p e R s m args below meth c nL mc ms Qf t (jp t)) (hret : xRet G p e R s m args below meth c cc mc ms rt Qf Q) (hK : ∀ a as h Q, K a as h Q → xMt G d a as h Q) (S : xSt G s nL mc ms h ls cs ss H locs LS) (hdg : decode cc pc = .ok (.aload k, 2)) (hok : xokI pp own ini nL (pc, mk, .aload k, a, b, v) = true) (hnx : xGo G p e R s m args below meth c nL mc ms Qf (pc + 2) nx) (hx : x1 (xX (gN G) (gX G)) K xal mc ms rt Q nx jp (pc, mk, .aload k, a, b, v) ls st h cs ss) : W p (gL G) e R s m args below meth c H locs cs ss Qf (F0 m pc LS (st.map (xcv G))) := by
  obtain ⟨hx0, hb, hml, hown, hts, hG, hso, hfr, hlo⟩ := id C
  have hO := hG.2.2.2.2.2.2.2.2.2.2.2.1
  have hk : k = a := of_decide_eq_true hok
  subst hk
  dsimp only [x1] at hx
  split at hx
  · rename_i x hg
    have h5 := hnx _ _ _ _ _ _ _ _ hx S
    have h6 := x_at S.2.1 hg
    rw [List.map_cons] at h5
    rcases xcv_ok1 hO x with h7 | ⟨A, h7⟩ <;> rw [h7] at h5 h6
    · exact lv_aloadN hx0 hb hdg h6 h5
    · exact lv_aload hx0 hb hdg h6 h5
  · exact hx.elim
theorem y_istore_n {k : Fin 4} (C : xCx G p R s m args c cc nL own) (hR : d + 2 ≤ R.frames ∧ 28 + 30 * (d + 1) ≤ R.locals ∨ ∀ a as h Q, ¬ K a as h Q) (hRc : R.cells = mc ∧ R.slots = ms) (hini : ini = true → meth.name = "<init>") (hjp : ∀ t, xGo G p e R s m args below meth c nL mc ms Qf t (jp t)) (hret : xRet G p e R s m args below meth c cc mc ms rt Qf Q) (hK : ∀ a as h Q, K a as h Q → xMt G d a as h Q) (S : xSt G s nL mc ms h ls cs ss H locs LS) (hdg : decode cc pc = .ok (.istore_n k, 1)) (hok : xokI pp own ini nL (pc, mk, .istore_n k, a, b, v) = true) (hnx : xGo G p e R s m args below meth c nL mc ms Qf (pc + 1) nx) (hx : x1 (xX (gN G) (gX G)) K xal mc ms rt Q nx jp (pc, mk, .istore_n k, a, b, v) ls st h cs ss) : W p (gL G) e R s m args below meth c H locs cs ss Qf (F0 m pc LS (st.map (xcv G))) := by
  obtain ⟨hx0, hb, hml, hown, hts, hG, hso, hfr, hlo⟩ := id C
  have hO := hG.2.2.2.2.2.2.2.2.2.2.2.1
  have h1 : (decide ((k : Nat) = a) && decide (a < nL)) = true := hok
  simp only [Bool.and_eq_true, decide_eq_true_eq] at h1
  dsimp only [x1] at hx
  split at hx
  · rename_i x r hn
    exact lv_istore_n hx0 hb hdg h1.1 S.2.1 h1.2 rfl (fun LS' hl => hnx _ _ _ _ _ _ _ _ hx ⟨S.1, x_store1 (v := .int x) hO hn hl, S.2.2⟩)
  · exact hx.elim
theorem y_istore {k : Nat} (C : xCx G p R s m args c cc nL own) (hR : d + 2 ≤ R.frames ∧ 28 + 30 * (d + 1) ≤ R.locals ∨ ∀ a as h Q, ¬ K a as h Q) (hRc : R.cells = mc ∧ R.slots = ms) (hini : ini = true → meth.name = "<init>") (hjp : ∀ t, xGo G p e R s m args below meth c nL mc ms Qf t (jp t)) (hret : xRet G p e R s m args below meth c cc mc ms rt Qf Q) (hK : ∀ a as h Q, K a as h Q → xMt G d a as h Q) (S : xSt G s nL mc ms h ls cs ss H locs LS) (hdg : decode cc pc = .ok (.istore k, 2)) (hok : xokI pp own ini nL (pc, mk, .istore k, a, b, v) = true) (hnx : xGo G p e R s m args below meth c nL mc ms Qf (pc + 2) nx) (hx : x1 (xX (gN G) (gX G)) K xal mc ms rt Q nx jp (pc, mk, .istore k, a, b, v) ls st h cs ss) : W p (gL G) e R s m args below meth c H locs cs ss Qf (F0 m pc LS (st.map (xcv G))) := by
  obtain ⟨hx0, hb, hml, hown, hts, hG, hso, hfr, hlo⟩ := id C
  have hO := hG.2.2.2.2.2.2.2.2.2.2.2.1
  have h1 : (decide (k = a) && decide (a < nL)) = true := hok
  simp only [Bool.and_eq_true, decide_eq_true_eq] at h1
  obtain ⟨rfl, h2⟩ := h1
  dsimp only [x1] at hx
  split at hx
  · rename_i x r hn
    exact lv_istore hx0 hb hdg S.2.1 h2 rfl (fun LS' hl => hnx _ _ _ _ _ _ _ _ hx ⟨S.1, x_store1 (v := .int x) hO hn hl, S.2.2⟩)
  · exact hx.elim
theorem y_lstore_n {k : Fin 4} (C : xCx G p R s m args c cc nL own) (hR : d + 2 ≤ R.frames ∧ 28 + 30 * (d + 1) ≤ R.locals ∨ ∀ a as h Q, ¬ K a as h Q) (hRc : R.cells = mc ∧ R.slots = ms) (hini : ini = true → meth.name = "<init>") (hjp : ∀ t, xGo G p e R s m args below meth c nL mc ms Qf t (jp t)) (hret : xRet G p e R s m args below meth c cc mc ms rt Qf Q) (hK : ∀ a as h Q, K a as h Q → xMt G d a as h Q) (S : xSt G s nL mc ms h ls cs ss H locs LS) (hdg : decode cc pc = .ok (.lstore_n k, 1)) (hok : xokI pp own ini nL (pc, mk, .lstore_n k, a, b, v) = true) (hnx : xGo G p e R s m args below meth c nL mc ms Qf (pc + 1) nx) (hx : x1 (xX (gN G) (gX G)) K xal mc ms rt Q nx jp (pc, mk, .lstore_n k, a, b, v) ls st h cs ss) : W p (gL G) e R s m args below meth c H locs cs ss Qf (F0 m pc LS (st.map (xcv G))) := by
  obtain ⟨hx0, hb, hml, hown, hts, hG, hso, hfr, hlo⟩ := id C
  have hO := hG.2.2.2.2.2.2.2.2.2.2.2.1
  have h1 : (decide ((k : Nat) = a) && decide (a + 1 < nL)) = true := hok
  simp only [Bool.and_eq_true, decide_eq_true_eq] at h1
  dsimp only [x1] at hx
  split at hx
  · rename_i x r hn
    exact lv_lstore_n hx0 hb hdg h1.1 S.2.1 h1.2 rfl (fun LS' hl => hnx _ _ _ _ _ _ _ _ hx ⟨S.1, x_store2 (v := .long x) hO hn hl, S.2.2⟩)
  · exact hx.elim
theorem y_lstore {k : Nat} (C : xCx G p R s m args c cc nL own) (hR : d + 2 ≤ R.frames ∧ 28 + 30 * (d + 1) ≤ R.locals ∨ ∀ a as h Q, ¬ K a as h Q) (hRc : R.cells = mc ∧ R.slots = ms) (hini : ini = true → meth.name = "<init>") (hjp : ∀ t, xGo G p e R s m args below meth c nL mc ms Qf t (jp t)) (hret : xRet G p e R s m args below meth c cc mc ms rt Qf Q) (hK : ∀ a as h Q, K a as h Q → xMt G d a as h Q) (S : xSt G s nL mc ms h ls cs ss H locs LS) (hdg : decode cc pc = .ok (.lstore k, 2)) (hok : xokI pp own ini nL (pc, mk, .lstore k, a, b, v) = true) (hnx : xGo G p e R s m args below meth c nL mc ms Qf (pc + 2) nx) (hx : x1 (xX (gN G) (gX G)) K xal mc ms rt Q nx jp (pc, mk, .lstore k, a, b, v) ls st h cs ss) : W p (gL G) e R s m args below meth c H locs cs ss Qf (F0 m pc LS (st.map (xcv G))) := by
  obtain ⟨hx0, hb, hml, hown, hts, hG, hso, hfr, hlo⟩ := id C
  have hO := hG.2.2.2.2.2.2.2.2.2.2.2.1
  have h1 : (decide (k = a) && decide (a + 1 < nL)) = true := hok
  simp only [Bool.and_eq_true, decide_eq_true_eq] at h1
  obtain ⟨rfl, h2⟩ := h1
  dsimp only [x1] at hx
  split at hx
  · rename_i x r hn
    exact lv_lstore hx0 hb hdg S.2.1 h2 rfl (fun LS' hl => hnx _ _ _ _ _ _ _ _ hx ⟨S.1, x_store2 (v := .long x) hO hn hl, S.2.2⟩)
  · exact hx.elim
theorem y_astore_n {k : Fin 4} (C : xCx G p R s m args c cc nL own) (hR : d + 2 ≤ R.frames ∧ 28 + 30 * (d + 1) ≤ R.locals ∨ ∀ a as h Q, ¬ K a as h Q) (hRc : R.cells = mc ∧ R.slots = ms) (hini : ini = true → meth.name = "<init>") (hjp : ∀ t, xGo G p e R s m args below meth c nL mc ms Qf t (jp t)) (hret : xRet G p e R s m args below meth c cc mc ms rt Qf Q) (hK : ∀ a as h Q, K a as h Q → xMt G d a as h Q) (S : xSt G s nL mc ms h ls cs ss H locs LS) (hdg : decode cc pc = .ok (.astore_n k, 1)) (hok : xokI pp own ini nL (pc, mk, .astore_n k, a, b, v) = true) (hnx : xGo G p e R s m args below meth c nL mc ms Qf (pc + 1) nx) (hx : x1 (xX (gN G) (gX G)) K xal mc ms rt Q nx jp (pc, mk, .astore_n k, a, b, v) ls st h cs ss) : W p (gL G) e R s m args below meth c H locs cs ss Qf (F0 m pc LS (st.map (xcv G))) := by
  obtain ⟨hx0, hb, hml, hown, hts, hG, hso, hfr, hlo⟩ := id C
  have hO := hG.2.2.2.2.2.2.2.2.2.2.2.1
  have h1 : (decide ((k : Nat) = a) && decide (a < nL)) = true := hok
  simp only [Bool.and_eq_true, decide_eq_true_eq] at h1
  dsimp only [x1] at hx
  split at hx
  · rename_i x r hn
    have h8 : ∀ LS', lv_has LS' nL ((a, xcv G (.ref x)) :: (xprs G ls).filter (fun q => !(q.1 == a) && !(q.1 + 1 == a && q.2.category == 2))) → W p (gL G) e R s m args below meth c H locs cs ss Qf (F0 m (pc + 1) LS' (r.map (xcv G))) := fun LS' hl => hnx _ _ _ _ _ _ _ _ hx ⟨S.1, x_store1 (v := .ref x) hO hn hl, S.2.2⟩
    rw [List.map_cons]
    rcases xcv_ok1 hO x with h7 | ⟨A, h7⟩ <;> rw [h7] at h8 ⊢
    · exact lv_astore_nN hx0 hb hdg h1.1 S.2.1 h1.2 rfl h8
    · exact lv_astore_n hx0 hb hdg h1.1 S.2.1 h1.2 rfl h8
  · exact hx.elim
theorem y_astore {k : Nat} (C : xCx G p R s m args c cc nL own) (hR : d + 2 ≤ R.frames ∧ 28 + 30 * (d + 1) ≤ R.locals ∨ ∀ a as h Q, ¬ K a as h Q) (hRc : R.cells = mc ∧ R.slots = ms) (hini : ini = true → meth.name = "<init>") (hjp : ∀ t, xGo G p e R s m args below meth c nL mc ms Qf t (jp t)) (hret : xRet G p e R s m args below meth c cc mc ms rt Qf Q) (hK : ∀ a as h Q, K a as h Q → xMt G d a as h Q) (S : xSt G s nL mc ms h ls cs ss H locs LS) (hdg : decode cc pc = .ok (.astore k, 2)) (hok : xokI pp own ini nL (pc, mk, .astore k, a, b, v) = true) (hnx : xGo G p e R s m args below meth c nL mc ms Qf (pc + 2) nx) (hx : x1 (xX (gN G) (gX G)) K xal mc ms rt Q nx jp (pc, mk, .astore k, a, b, v) ls st h cs ss) : W p (gL G) e R s m args below meth c H locs cs ss Qf (F0 m pc LS (st.map (xcv G))) := by
  obtain ⟨hx0, hb, hml, hown, hts, hG, hso, hfr, hlo⟩ := id C
  have hO := hG.2.2.2.2.2.2.2.2.2.2.2.1
  have h1 : (decide (k = a) && decide (a < nL)) = true := hok
  simp only [Bool.and_eq_true, decide_eq_true_eq] at h1
  obtain ⟨rfl, h2⟩ := h1
  dsimp only [x1] at hx
  split at hx
  · rename_i x r hn
    have h8 : ∀ LS', lv_has LS' nL ((k, xcv G (.ref x)) :: (xprs G ls).filter (fun q => !(q.1 == k) && !(q.1 + 1 == k && q.2.category == 2))) → W p (gL G) e R s m args below meth c H locs cs ss Qf (F0 m (pc + 2) LS' (r.map (xcv G))) := fun LS' hl => hnx _ _ _ _ _ _ _ _ hx ⟨S.1, x_store1 (v := .ref x) hO hn hl, S.2.2⟩
    rw [List.map_cons]
    rcases xcv_ok1 hO x with h7 | ⟨A, h7⟩ <;> rw [h7] at h8 ⊢
    · exact lv_astoreN hx0 hb hdg S.2.1 h2 rfl h8
    · exact lv_astore hx0 hb hdg S.2.1 h2 rfl h8
  · exact hx.elim
theorem y_iinc {k : Nat} {n : Int} (C : xCx G p R s m args c cc nL own) (hR : d + 2 ≤ R.frames ∧ 28 + 30 * (d + 1) ≤ R.locals ∨ ∀ a as h Q, ¬ K a as h Q) (hRc : R.cells = mc ∧ R.slots = ms) (hini : ini = true → meth.name = "<init>") (hjp : ∀ t, xGo G p e R s m args below meth c nL mc ms Qf t (jp t)) (hret : xRet G p e R s m args below meth c cc mc ms rt Qf Q) (hK : ∀ a as h Q, K a as h Q → xMt G d a as h Q) (S : xSt G s nL mc ms h ls cs ss H locs LS) (hdg : decode cc pc = .ok (.iinc k n, 3)) (hok : xokI pp own ini nL (pc, mk, .iinc k n, a, b, v) = true) (hnx : xGo G p e R s m args below meth c nL mc ms Qf (pc + 3) nx) (hx : x1 (xX (gN G) (gX G)) K xal mc ms rt Q nx jp (pc, mk, .iinc k n, a, b, v) ls st h cs ss) : W p (gL G) e R s m args below meth c H locs cs ss Qf (F0 m pc LS (st.map (xcv G))) := by
  obtain ⟨hx0, hb, hml, hown, hts, hG, hso, hfr, hlo⟩ := id C
  have hO := hG.2.2.2.2.2.2.2.2.2.2.2.1
  have h1 : (decide (k = a) && decide (a < nL) && decide (v = .int (Int32.ofInt n))) = true := hok
  simp only [Bool.and_eq_true, decide_eq_true_eq] at h1
  obtain ⟨⟨rfl, h2⟩, rfl⟩ := h1
  dsimp only [x1] at hx
  split at hx
  · rename_i x n' hg hn' hn
    cases hn'
    obtain ⟨i, hi⟩ := List.getElem?_of_mem (mem_xprs.mpr ⟨_, hg, rfl⟩ : (k, xcv G (.int x)) ∈ xprs G ls)
    exact lv_iinc (v := x + Int32.ofInt n) hx0 hb hdg S.2.1 hi rfl h2 rfl (fun LS' hl => hnx _ _ _ _ _ _ _ _ hx ⟨S.1, x_store1 (v := .int (x + Int32.ofInt n)) hO hn hl, S.2.2⟩)
  · exact hx.elim
theorem y_iadd (C : xCx G p R s m args c cc nL own) (hR : d + 2 ≤ R.frames ∧ 28 + 30 * (d + 1) ≤ R.locals ∨ ∀ a as h Q, ¬ K a as h Q) (hRc : R.cells = mc ∧ R.slots = ms) (hini : ini = true → meth.name = "<init>") (hjp : ∀ t, xGo G p e R s m args below meth c nL mc ms Qf t (jp t)) (hret : xRet G p e R s m args below meth c cc mc ms rt Qf Q) (hK : ∀ a as h Q, K a as h Q → xMt G d a as h Q) (S : xSt G s nL mc ms h ls cs ss H locs LS) (hdg : decode cc pc = .ok (.iadd, 1)) (hok : xokI pp own ini nL (pc, mk, .iadd, a, b, v) = true) (hnx : xGo G p e R s m args below meth c nL mc ms Qf (pc + 1) nx) (hx : x1 (xX (gN G) (gX G)) K xal mc ms rt Q nx jp (pc, mk, .iadd, a, b, v) ls st h cs ss) : W p (gL G) e R s m args below meth c H locs cs ss Qf (F0 m pc LS (st.map (xcv G))) := by
  obtain ⟨hx0, hb, hml, hown, hts, hG, hso, hfr, hlo⟩ := id C
  have hO := hG.2.2.2.2.2.2.2.2.2.2.2.1
  dsimp only [x1] at hx
  split at hx
  · exact lv_iadd hx0 hb hdg (hnx _ _ _ _ _ _ _ _ hx S)
  · exact hx.elim
theorem y_isub (C : xCx G p R s m args c cc nL own) (hR : d + 2 ≤ R.frames ∧ 28 + 30 * (d + 1) ≤ R.locals ∨ ∀ a as h Q, ¬ K a as h Q) (hRc : R.cells = mc ∧ R.slots = ms) (hini : ini = true → meth.name = "<init>") (hjp : ∀ t, xGo G p e R s m args below meth c nL mc ms Qf t (jp t)) (hret : xRet G p e R s m args below meth c cc mc ms rt Qf Q) (hK : ∀ a as h Q, K a as h Q → xMt G d a as h Q) (S : xSt G s nL mc ms h ls cs ss H locs LS) (hdg : decode cc pc = .ok (.isub, 1)) (hok : xokI pp own ini nL (pc, mk, .isub, a, b, v) = true) (hnx : xGo G p e R s m args below meth c nL mc ms Qf (pc + 1) nx) (hx : x1 (xX (gN G) (gX G)) K xal mc ms rt Q nx jp (pc, mk, .isub, a, b, v) ls st h cs ss) : W p (gL G) e R s m args below meth c H locs cs ss Qf (F0 m pc LS (st.map (xcv G))) := by
  obtain ⟨hx0, hb, hml, hown, hts, hG, hso, hfr, hlo⟩ := id C
  have hO := hG.2.2.2.2.2.2.2.2.2.2.2.1
  dsimp only [x1] at hx
  split at hx
  · exact lv_isub hx0 hb hdg (hnx _ _ _ _ _ _ _ _ hx S)
  · exact hx.elim
theorem y_imul (C : xCx G p R s m args c cc nL own) (hR : d + 2 ≤ R.frames ∧ 28 + 30 * (d + 1) ≤ R.locals ∨ ∀ a as h Q, ¬ K a as h Q) (hRc : R.cells = mc ∧ R.slots = ms) (hini : ini = true → meth.name = "<init>") (hjp : ∀ t, xGo G p e R s m args below meth c nL mc ms Qf t (jp t)) (hret : xRet G p e R s m args below meth c cc mc ms rt Qf Q) (hK : ∀ a as h Q, K a as h Q → xMt G d a as h Q) (S : xSt G s nL mc ms h ls cs ss H locs LS) (hdg : decode cc pc = .ok (.imul, 1)) (hok : xokI pp own ini nL (pc, mk, .imul, a, b, v) = true) (hnx : xGo G p e R s m args below meth c nL mc ms Qf (pc + 1) nx) (hx : x1 (xX (gN G) (gX G)) K xal mc ms rt Q nx jp (pc, mk, .imul, a, b, v) ls st h cs ss) : W p (gL G) e R s m args below meth c H locs cs ss Qf (F0 m pc LS (st.map (xcv G))) := by
  obtain ⟨hx0, hb, hml, hown, hts, hG, hso, hfr, hlo⟩ := id C
  have hO := hG.2.2.2.2.2.2.2.2.2.2.2.1
  dsimp only [x1] at hx
  split at hx
  · exact lv_imul hx0 hb hdg (hnx _ _ _ _ _ _ _ _ hx S)
  · exact hx.elim
theorem y_iand (C : xCx G p R s m args c cc nL own) (hR : d + 2 ≤ R.frames ∧ 28 + 30 * (d + 1) ≤ R.locals ∨ ∀ a as h Q, ¬ K a as h Q) (hRc : R.cells = mc ∧ R.slots = ms) (hini : ini = true → meth.name = "<init>") (hjp : ∀ t, xGo G p e R s m args below meth c nL mc ms Qf t (jp t)) (hret : xRet G p e R s m args below meth c cc mc ms rt Qf Q) (hK : ∀ a as h Q, K a as h Q → xMt G d a as h Q) (S : xSt G s nL mc ms h ls cs ss H locs LS) (hdg : decode cc pc = .ok (.iand, 1)) (hok : xokI pp own ini nL (pc, mk, .iand, a, b, v) = true) (hnx : xGo G p e R s m args below meth c nL mc ms Qf (pc + 1) nx) (hx : x1 (xX (gN G) (gX G)) K xal mc ms rt Q nx jp (pc, mk, .iand, a, b, v) ls st h cs ss) : W p (gL G) e R s m args below meth c H locs cs ss Qf (F0 m pc LS (st.map (xcv G))) := by
  obtain ⟨hx0, hb, hml, hown, hts, hG, hso, hfr, hlo⟩ := id C
  have hO := hG.2.2.2.2.2.2.2.2.2.2.2.1
  dsimp only [x1] at hx
  split at hx
  · exact lv_iand hx0 hb hdg (hnx _ _ _ _ _ _ _ _ hx S)
  · exact hx.elim
theorem y_ior (C : xCx G p R s m args c cc nL own) (hR : d + 2 ≤ R.frames ∧ 28 + 30 * (d + 1) ≤ R.locals ∨ ∀ a as h Q, ¬ K a as h Q) (hRc : R.cells = mc ∧ R.slots = ms) (hini : ini = true → meth.name = "<init>") (hjp : ∀ t, xGo G p e R s m args below meth c nL mc ms Qf t (jp t)) (hret : xRet G p e R s m args below meth c cc mc ms rt Qf Q) (hK : ∀ a as h Q, K a as h Q → xMt G d a as h Q) (S : xSt G s nL mc ms h ls cs ss H locs LS) (hdg : decode cc pc = .ok (.ior, 1)) (hok : xokI pp own ini nL (pc, mk, .ior, a, b, v) = true) (hnx : xGo G p e R s m args below meth c nL mc ms Qf (pc + 1) nx) (hx : x1 (xX (gN G) (gX G)) K xal mc ms rt Q nx jp (pc, mk, .ior, a, b, v) ls st h cs ss) : W p (gL G) e R s m args below meth c H locs cs ss Qf (F0 m pc LS (st.map (xcv G))) := by
  obtain ⟨hx0, hb, hml, hown, hts, hG, hso, hfr, hlo⟩ := id C
  have hO := hG.2.2.2.2.2.2.2.2.2.2.2.1
  dsimp only [x1] at hx
  split at hx
  · exact lv_ior hx0 hb hdg (hnx _ _ _ _ _ _ _ _ hx S)
  · exact hx.elim
theorem y_ixor (C : xCx G p R s m args c cc nL own) (hR : d + 2 ≤ R.frames ∧ 28 + 30 * (d + 1) ≤ R.locals ∨ ∀ a as h Q, ¬ K a as h Q) (hRc : R.cells = mc ∧ R.slots = ms) (hini : ini = true → meth.name = "<init>") (hjp : ∀ t, xGo G p e R s m args below meth c nL mc ms Qf t (jp t)) (hret : xRet G p e R s m args below meth c cc mc ms rt Qf Q) (hK : ∀ a as h Q, K a as h Q → xMt G d a as h Q) (S : xSt G s nL mc ms h ls cs ss H locs LS) (hdg : decode cc pc = .ok (.ixor, 1)) (hok : xokI pp own ini nL (pc, mk, .ixor, a, b, v) = true) (hnx : xGo G p e R s m args below meth c nL mc ms Qf (pc + 1) nx) (hx : x1 (xX (gN G) (gX G)) K xal mc ms rt Q nx jp (pc, mk, .ixor, a, b, v) ls st h cs ss) : W p (gL G) e R s m args below meth c H locs cs ss Qf (F0 m pc LS (st.map (xcv G))) := by
  obtain ⟨hx0, hb, hml, hown, hts, hG, hso, hfr, hlo⟩ := id C
  have hO := hG.2.2.2.2.2.2.2.2.2.2.2.1
  dsimp only [x1] at hx
  split at hx
  · exact lv_ixor hx0 hb hdg (hnx _ _ _ _ _ _ _ _ hx S)
  · exact hx.elim
theorem y_ishl (C : xCx G p R s m args c cc nL own) (hR : d + 2 ≤ R.frames ∧ 28 + 30 * (d + 1) ≤ R.locals ∨ ∀ a as h Q, ¬ K a as h Q) (hRc : R.cells = mc ∧ R.slots = ms) (hini : ini = true → meth.name = "<init>") (hjp : ∀ t, xGo G p e R s m args below meth c nL mc ms Qf t (jp t)) (hret : xRet G p e R s m args below meth c cc mc ms rt Qf Q) (hK : ∀ a as h Q, K a as h Q → xMt G d a as h Q) (S : xSt G s nL mc ms h ls cs ss H locs LS) (hdg : decode cc pc = .ok (.ishl, 1)) (hok : xokI pp own ini nL (pc, mk, .ishl, a, b, v) = true) (hnx : xGo G p e R s m args below meth c nL mc ms Qf (pc + 1) nx) (hx : x1 (xX (gN G) (gX G)) K xal mc ms rt Q nx jp (pc, mk, .ishl, a, b, v) ls st h cs ss) : W p (gL G) e R s m args below meth c H locs cs ss Qf (F0 m pc LS (st.map (xcv G))) := by
  obtain ⟨hx0, hb, hml, hown, hts, hG, hso, hfr, hlo⟩ := id C
  have hO := hG.2.2.2.2.2.2.2.2.2.2.2.1
  dsimp only [x1] at hx
  split at hx
  · exact lv_ishl hx0 hb hdg (hnx _ _ _ _ _ _ _ _ hx S)
  · exact hx.elim
theorem y_ishr (C : xCx G p R s m args c cc nL own) (hR : d + 2 ≤ R.frames ∧ 28 + 30 * (d + 1) ≤ R.locals ∨ ∀ a as h Q, ¬ K a as h Q) (hRc : R.cells = mc ∧ R.slots = ms) (hini : ini = true → meth.name = "<init>") (hjp : ∀ t, xGo G p e R s m args below meth c nL mc ms Qf t (jp t)) (hret : xRet G p e R s m args below meth c cc mc ms rt Qf Q) (hK : ∀ a as h Q, K a as h Q → xMt G d a as h Q) (S : xSt G s nL mc ms h ls cs ss H locs LS) (hdg : decode cc pc = .ok (.ishr, 1)) (hok : xokI pp own ini nL (pc, mk, .ishr, a, b, v) = true) (hnx : xGo G p e R s m args below meth c nL mc ms Qf (pc + 1) nx) (hx : x1 (xX (gN G) (gX G)) K xal mc ms rt Q nx jp (pc, mk, .ishr, a, b, v) ls st h cs ss) : W p (gL G) e R s m args below meth c H locs cs ss Qf (F0 m pc LS (st.map (xcv G))) := by
  obtain ⟨hx0, hb, hml, hown, hts, hG, hso, hfr, hlo⟩ := id C
  have hO := hG.2.2.2.2.2.2.2.2.2.2.2.1
  dsimp only [x1] at hx
  split at hx
  · exact lv_ishr hx0 hb hdg (hnx _ _ _ _ _ _ _ _ hx S)
  · exact hx.elim
theorem y_ladd (C : xCx G p R s m args c cc nL own) (hR : d + 2 ≤ R.frames ∧ 28 + 30 * (d + 1) ≤ R.locals ∨ ∀ a as h Q, ¬ K a as h Q) (hRc : R.cells = mc ∧ R.slots = ms) (hini : ini = true → meth.name = "<init>") (hjp : ∀ t, xGo G p e R s m args below meth c nL mc ms Qf t (jp t)) (hret : xRet G p e R s m args below meth c cc mc ms rt Qf Q) (hK : ∀ a as h Q, K a as h Q → xMt G d a as h Q) (S : xSt G s nL mc ms h ls cs ss H locs LS) (hdg : decode cc pc = .ok (.ladd, 1)) (hok : xokI pp own ini nL (pc, mk, .ladd, a, b, v) = true) (hnx : xGo G p e R s m args below meth c nL mc ms Qf (pc + 1) nx) (hx : x1 (xX (gN G) (gX G)) K xal mc ms rt Q nx jp (pc, mk, .ladd, a, b, v) ls st h cs ss) : W p (gL G) e R s m args below meth c H locs cs ss Qf (F0 m pc LS (st.map (xcv G))) := by
  obtain ⟨hx0, hb, hml, hown, hts, hG, hso, hfr, hlo⟩ := id C
  have hO := hG.2.2.2.2.2.2.2.2.2.2.2.1
  dsimp only [x1] at hx
  split at hx
  · exact lv_ladd hx0 hb hdg (hnx _ _ _ _ _ _ _ _ hx S)
  · exact hx.elim
theorem y_lsub (C : xCx G p R s m args c cc nL own) (hR : d + 2 ≤ R.frames ∧ 28 + 30 * (d + 1) ≤ R.locals ∨ ∀ a as h Q, ¬ K a as h Q) (hRc : R.cells = mc ∧ R.slots = ms) (hini : ini = true → meth.name = "<init>") (hjp : ∀ t, xGo G p e R s m args below meth c nL mc ms Qf t (jp t)) (hret : xRet G p e R s m args below meth c cc mc ms rt Qf Q) (hK : ∀ a as h Q, K a as h Q → xMt G d a as h Q) (S : xSt G s nL mc ms h ls cs ss H locs LS) (hdg : decode cc pc = .ok (.lsub, 1)) (hok : xokI pp own ini nL (pc, mk, .lsub, a, b, v) = true) (hnx : xGo G p e R s m args below meth c nL mc ms Qf (pc + 1) nx) (hx : x1 (xX (gN G) (gX G)) K xal mc ms rt Q nx jp (pc, mk, .lsub, a, b, v) ls st h cs ss) : W p (gL G) e R s m args below meth c H locs cs ss Qf (F0 m pc LS (st.map (xcv G))) := by
  obtain ⟨hx0, hb, hml, hown, hts, hG, hso, hfr, hlo⟩ := id C
  have hO := hG.2.2.2.2.2.2.2.2.2.2.2.1
  dsimp only [x1] at hx
  split at hx
  · exact lv_lsub hx0 hb hdg (hnx _ _ _ _ _ _ _ _ hx S)
  · exact hx.elim
theorem y_land (C : xCx G p R s m args c cc nL own) (hR : d + 2 ≤ R.frames ∧ 28 + 30 * (d + 1) ≤ R.locals ∨ ∀ a as h Q, ¬ K a as h Q) (hRc : R.cells = mc ∧ R.slots = ms) (hini : ini = true → meth.name = "<init>") (hjp : ∀ t, xGo G p e R s m args below meth c nL mc ms Qf t (jp t)) (hret : xRet G p e R s m args below meth c cc mc ms rt Qf Q) (hK : ∀ a as h Q, K a as h Q → xMt G d a as h Q) (S : xSt G s nL mc ms h ls cs ss H locs LS) (hdg : decode cc pc = .ok (.land, 1)) (hok : xokI pp own ini nL (pc, mk, .land, a, b, v) = true) (hnx : xGo G p e R s m args below meth c nL mc ms Qf (pc + 1) nx) (hx : x1 (xX (gN G) (gX G)) K xal mc ms rt Q nx jp (pc, mk, .land, a, b, v) ls st h cs ss) : W p (gL G) e R s m args below meth c H locs cs ss Qf (F0 m pc LS (st.map (xcv G))) := by
  obtain ⟨hx0, hb, hml, hown, hts, hG, hso, hfr, hlo⟩ := id C
  have hO := hG.2.2.2.2.2.2.2.2.2.2.2.1
  dsimp only [x1] at hx
  split at hx
  · exact lv_land hx0 hb hdg (hnx _ _ _ _ _ _ _ _ hx S)
  · exact hx.elim
theorem y_lor (C : xCx G p R s m args c cc nL own) (hR : d + 2 ≤ R.frames ∧ 28 + 30 * (d + 1) ≤ R.locals ∨ ∀ a as h Q, ¬ K a as h Q) (hRc : R.cells = mc ∧ R.slots = ms) (hini : ini = true → meth.name = "<init>") (hjp : ∀ t, xGo G p e R s m args below meth c nL mc ms Qf t (jp t)) (hret : xRet G p e R s m args below meth c cc mc ms rt Qf Q) (hK : ∀ a as h Q, K a as h Q → xMt G d a as h Q) (S : xSt G s nL mc ms h ls cs ss H locs LS) (hdg : decode cc pc = .ok (.lor, 1)) (hok : xokI pp own ini nL (pc, mk, .lor, a, b, v) = true) (hnx : xGo G p e R s m args below meth c nL mc ms Qf (pc + 1) nx) (hx : x1 (xX (gN G) (gX G)) K xal mc ms rt Q nx jp (pc, mk, .lor, a, b, v) ls st h cs ss) : W p (gL G) e R s m args below meth c H locs cs ss Qf (F0 m pc LS (st.map (xcv G))) := by
  obtain ⟨hx0, hb, hml, hown, hts, hG, hso, hfr, hlo⟩ := id C
  have hO := hG.2.2.2.2.2.2.2.2.2.2.2.1
  dsimp only [x1] at hx
  split at hx
  · exact lv_lor hx0 hb hdg (hnx _ _ _ _ _ _ _ _ hx S)
  · exact hx.elim
theorem y_iushr (C : xCx G p R s m args c cc nL own) (hR : d + 2 ≤ R.frames ∧ 28 + 30 * (d + 1) ≤ R.locals ∨ ∀ a as h Q, ¬ K a as h Q) (hRc : R.cells = mc ∧ R.slots = ms) (hini : ini = true → meth.name = "<init>") (hjp : ∀ t, xGo G p e R s m args below meth c nL mc ms Qf t (jp t)) (hret : xRet G p e R s m args below meth c cc mc ms rt Qf Q) (hK : ∀ a as h Q, K a as h Q → xMt G d a as h Q) (S : xSt G s nL mc ms h ls cs ss H locs LS) (hdg : decode cc pc = .ok (.iushr, 1)) (hok : xokI pp own ini nL (pc, mk, .iushr, a, b, v) = true) (hnx : xGo G p e R s m args below meth c nL mc ms Qf (pc + 1) nx) (hx : x1 (xX (gN G) (gX G)) K xal mc ms rt Q nx jp (pc, mk, .iushr, a, b, v) ls st h cs ss) : W p (gL G) e R s m args below meth c H locs cs ss Qf (F0 m pc LS (st.map (xcv G))) := by
  obtain ⟨hx0, hb, hml, hown, hts, hG, hso, hfr, hlo⟩ := id C
  have hO := hG.2.2.2.2.2.2.2.2.2.2.2.1
  dsimp only [x1] at hx
  split at hx
  · exact lv_iushr hx0 hb hdg rfl (hnx _ _ _ _ _ _ _ _ hx S)
  · exact hx.elim
theorem y_lushr (C : xCx G p R s m args c cc nL own) (hR : d + 2 ≤ R.frames ∧ 28 + 30 * (d + 1) ≤ R.locals ∨ ∀ a as h Q, ¬ K a as h Q) (hRc : R.cells = mc ∧ R.slots = ms) (hini : ini = true → meth.name = "<init>") (hjp : ∀ t, xGo G p e R s m args below meth c nL mc ms Qf t (jp t)) (hret : xRet G p e R s m args below meth c cc mc ms rt Qf Q) (hK : ∀ a as h Q, K a as h Q → xMt G d a as h Q) (S : xSt G s nL mc ms h ls cs ss H locs LS) (hdg : decode cc pc = .ok (.lushr, 1)) (hok : xokI pp own ini nL (pc, mk, .lushr, a, b, v) = true) (hnx : xGo G p e R s m args below meth c nL mc ms Qf (pc + 1) nx) (hx : x1 (xX (gN G) (gX G)) K xal mc ms rt Q nx jp (pc, mk, .lushr, a, b, v) ls st h cs ss) : W p (gL G) e R s m args below meth c H locs cs ss Qf (F0 m pc LS (st.map (xcv G))) := by
  obtain ⟨hx0, hb, hml, hown, hts, hG, hso, hfr, hlo⟩ := id C
  have hO := hG.2.2.2.2.2.2.2.2.2.2.2.1
  dsimp only [x1] at hx
  split at hx
  · exact lv_lushr hx0 hb hdg rfl (hnx _ _ _ _ _ _ _ _ hx S)
  · exact hx.elim
theorem y_lshl (C : xCx G p R s m args c cc nL own) (hR : d + 2 ≤ R.frames ∧ 28 + 30 * (d + 1) ≤ R.locals ∨ ∀ a as h Q, ¬ K a as h Q) (hRc : R.cells = mc ∧ R.slots = ms) (hini : ini = true → meth.name = "<init>") (hjp : ∀ t, xGo G p e R s m args below meth c nL mc ms Qf t (jp t)) (hret : xRet G p e R s m args below meth c cc mc ms rt Qf Q) (hK : ∀ a as h Q, K a as h Q → xMt G d a as h Q) (S : xSt G s nL mc ms h ls cs ss H locs LS) (hdg : decode cc pc = .ok (.lshl, 1)) (hok : xokI pp own ini nL (pc, mk, .lshl, a, b, v) = true) (hnx : xGo G p e R s m args below meth c nL mc ms Qf (pc + 1) nx) (hx : x1 (xX (gN G) (gX G)) K xal mc ms rt Q nx jp (pc, mk, .lshl, a, b, v) ls st h cs ss) : W p (gL G) e R s m args below meth c H locs cs ss Qf (F0 m pc LS (st.map (xcv G))) := by
  obtain ⟨hx0, hb, hml, hown, hts, hG, hso, hfr, hlo⟩ := id C
  have hO := hG.2.2.2.2.2.2.2.2.2.2.2.1
  dsimp only [x1] at hx
  split at hx
  · exact lv_lshl hx0 hb hdg rfl (hnx _ _ _ _ _ _ _ _ hx S)
  · exact hx.elim
theorem y_lshr (C : xCx G p R s m args c cc nL own) (hR : d + 2 ≤ R.frames ∧ 28 + 30 * (d + 1) ≤ R.locals ∨ ∀ a as h Q, ¬ K a as h Q) (hRc : R.cells = mc ∧ R.slots = ms) (hini : ini = true → meth.name = "<init>") (hjp : ∀ t, xGo G p e R s m args below meth c nL mc ms Qf t (jp t)) (hret : xRet G p e R s m args below meth c cc mc ms rt Qf Q) (hK : ∀ a as h Q, K a as h Q → xMt G d a as h Q) (S : xSt G s nL mc ms h ls cs ss H locs LS) (hdg : decode cc pc = .ok (.lshr, 1)) (hok : xokI pp own ini nL (pc, mk, .lshr, a, b, v) = true) (hnx : xGo G p e R s m args below meth c nL mc ms Qf (pc + 1) nx) (hx : x1 (xX (gN G) (gX G)) K xal mc ms rt Q nx jp (pc, mk, .lshr, a, b, v) ls st h cs ss) : W p (gL G) e R s m args below meth c H locs cs ss Qf (F0 m pc LS (st.map (xcv G))) := by
  obtain ⟨hx0, hb, hml, hown, hts, hG, hso, hfr, hlo⟩ := id C
  have hO := hG.2.2.2.2.2.2.2.2.2.2.2.1
  dsimp only [x1] at hx
  split at hx
  · exact lv_lshr hx0 hb hdg rfl (hnx _ _ _ _ _ _ _ _ hx S)
  · exact hx.elim
theorem y_i2l (C : xCx G p R s m args c cc nL own) (hR : d + 2 ≤ R.frames ∧ 28 + 30 * (d + 1) ≤ R.locals ∨ ∀ a as h Q, ¬ K a as h Q) (hRc : R.cells = mc ∧ R.slots = ms) (hini : ini = true → meth.name = "<init>") (hjp : ∀ t, xGo G p e R s m args below meth c nL mc ms Qf t (jp t)) (hret : xRet G p e R s m args below meth c cc mc ms rt Qf Q) (hK : ∀ a as h Q, K a as h Q → xMt G d a as h Q) (S : xSt G s nL mc ms h ls cs ss H locs LS) (hdg : decode cc pc = .ok (.i2l, 1)) (hok : xokI pp own ini nL (pc, mk, .i2l, a, b, v) = true) (hnx : xGo G p e R s m args below meth c nL mc ms Qf (pc + 1) nx) (hx : x1 (xX (gN G) (gX G)) K xal mc ms rt Q nx jp (pc, mk, .i2l, a, b, v) ls st h cs ss) : W p (gL G) e R s m args below meth c H locs cs ss Qf (F0 m pc LS (st.map (xcv G))) := by
  obtain ⟨hx0, hb, hml, hown, hts, hG, hso, hfr, hlo⟩ := id C
  have hO := hG.2.2.2.2.2.2.2.2.2.2.2.1
  dsimp only [x1] at hx
  split at hx
  · exact lv_i2l hx0 hb hdg rfl (hnx _ _ _ _ _ _ _ _ hx S)
  · exact hx.elim
theorem y_l2i (C : xCx G p R s m args c cc nL own) (hR : d + 2 ≤ R.frames ∧ 28 + 30 * (d + 1) ≤ R.locals ∨ ∀ a as h Q, ¬ K a as h Q) (hRc : R.cells = mc ∧ R.slots = ms) (hini : ini = true → meth.name = "<init>") (hjp : ∀ t, xGo G p e R s m args below meth c nL mc ms Qf t (jp t)) (hret : xRet G p e R s m args below meth c cc mc ms rt Qf Q) (hK : ∀ a as h Q, K a as h Q → xMt G d a as h Q) (S : xSt G s nL mc ms h ls cs ss H locs LS) (hdg : decode cc pc = .ok (.l2i, 1)) (hok : xokI pp own ini nL (pc, mk, .l2i, a, b, v) = true) (hnx : xGo G p e R s m args below meth c nL mc ms Qf (pc + 1) nx) (hx : x1 (xX (gN G) (gX G)) K xal mc ms rt Q nx jp (pc, mk, .l2i, a, b, v) ls st h cs ss) : W p (gL G) e R s m args below meth c H locs cs ss Qf (F0 m pc LS (st.map (xcv G))) := by
  obtain ⟨hx0, hb, hml, hown, hts, hG, hso, hfr, hlo⟩ := id C
  have hO := hG.2.2.2.2.2.2.2.2.2.2.2.1
  dsimp only [x1] at hx
  split at hx
  · exact lv_l2i hx0 hb hdg rfl (hnx _ _ _ _ _ _ _ _ hx S)
  · exact hx.elim
theorem y_i2b (C : xCx G p R s m args c cc nL own) (hR : d + 2 ≤ R.frames ∧ 28 + 30 * (d + 1) ≤ R.locals ∨ ∀ a as h Q, ¬ K a as h Q) (hRc : R.cells = mc ∧ R.slots = ms) (hini : ini = true → meth.name = "<init>") (hjp : ∀ t, xGo G p e R s m args below meth c nL mc ms Qf t (jp t)) (hret : xRet G p e R s m args below meth c cc mc ms rt Qf Q) (hK : ∀ a as h Q, K a as h Q → xMt G d a as h Q) (S : xSt G s nL mc ms h ls cs ss H locs LS) (hdg : decode cc pc = .ok (.i2b, 1)) (hok : xokI pp own ini nL (pc, mk, .i2b, a, b, v) = true) (hnx : xGo G p e R s m args below meth c nL mc ms Qf (pc + 1) nx) (hx : x1 (xX (gN G) (gX G)) K xal mc ms rt Q nx jp (pc, mk, .i2b, a, b, v) ls st h cs ss) : W p (gL G) e R s m args below meth c H locs cs ss Qf (F0 m pc LS (st.map (xcv G))) := by
  obtain ⟨hx0, hb, hml, hown, hts, hG, hso, hfr, hlo⟩ := id C
  have hO := hG.2.2.2.2.2.2.2.2.2.2.2.1
  dsimp only [x1] at hx
  split at hx
  · exact lv_i2b hx0 hb hdg rfl (hnx _ _ _ _ _ _ _ _ hx S)
  · exact hx.elim
theorem y_i2s (C : xCx G p R s m args c cc nL own) (hR : d + 2 ≤ R.frames ∧ 28 + 30 * (d + 1) ≤ R.locals ∨ ∀ a as h Q, ¬ K a as h Q) (hRc : R.cells = mc ∧ R.slots = ms) (hini : ini = true → meth.name = "<init>") (hjp : ∀ t, xGo G p e R s m args below meth c nL mc ms Qf t (jp t)) (hret : xRet G p e R s m args below meth c cc mc ms rt Qf Q) (hK : ∀ a as h Q, K a as h Q → xMt G d a as h Q) (S : xSt G s nL mc ms h ls cs ss H locs LS) (hdg : decode cc pc = .ok (.i2s, 1)) (hok : xokI pp own ini nL (pc, mk, .i2s, a, b, v) = true) (hnx : xGo G p e R s m args below meth c nL mc ms Qf (pc + 1) nx) (hx : x1 (xX (gN G) (gX G)) K xal mc ms rt Q nx jp (pc, mk, .i2s, a, b, v) ls st h cs ss) : W p (gL G) e R s m args below meth c H locs cs ss Qf (F0 m pc LS (st.map (xcv G))) := by
  obtain ⟨hx0, hb, hml, hown, hts, hG, hso, hfr, hlo⟩ := id C
  have hO := hG.2.2.2.2.2.2.2.2.2.2.2.1
  dsimp only [x1] at hx
  split at hx
  · exact lv_i2s hx0 hb hdg rfl (hnx _ _ _ _ _ _ _ _ hx S)
  · exact hx.elim
theorem y_i2c (C : xCx G p R s m args c cc nL own) (hR : d + 2 ≤ R.frames ∧ 28 + 30 * (d + 1) ≤ R.locals ∨ ∀ a as h Q, ¬ K a as h Q) (hRc : R.cells = mc ∧ R.slots = ms) (hini : ini = true → meth.name = "<init>") (hjp : ∀ t, xGo G p e R s m args below meth c nL mc ms Qf t (jp t)) (hret : xRet G p e R s m args below meth c cc mc ms rt Qf Q) (hK : ∀ a as h Q, K a as h Q → xMt G d a as h Q) (S : xSt G s nL mc ms h ls cs ss H locs LS) (hdg : decode cc pc = .ok (.i2c, 1)) (hok : xokI pp own ini nL (pc, mk, .i2c, a, b, v) = true) (hnx : xGo G p e R s m args below meth c nL mc ms Qf (pc + 1) nx) (hx : x1 (xX (gN G) (gX G)) K xal mc ms rt Q nx jp (pc, mk, .i2c, a, b, v) ls st h cs ss) : W p (gL G) e R s m args below meth c H locs cs ss Qf (F0 m pc LS (st.map (xcv G))) := by
  obtain ⟨hx0, hb, hml, hown, hts, hG, hso, hfr, hlo⟩ := id C
  have hO := hG.2.2.2.2.2.2.2.2.2.2.2.1
  dsimp only [x1] at hx
  split at hx
  · exact lv_i2c hx0 hb hdg rfl (hnx _ _ _ _ _ _ _ _ hx S)
  · exact hx.elim
theorem y_idiv (C : xCx G p R s m args c cc nL own) (hR : d + 2 ≤ R.frames ∧ 28 + 30 * (d + 1) ≤ R.locals ∨ ∀ a as h Q, ¬ K a as h Q) (hRc : R.cells = mc ∧ R.slots = ms) (hini : ini = true → meth.name = "<init>") (hjp : ∀ t, xGo G p e R s m args below meth c nL mc ms Qf t (jp t)) (hret : xRet G p e R s m args below meth c cc mc ms rt Qf Q) (hK : ∀ a as h Q, K a as h Q → xMt G d a as h Q) (S : xSt G s nL mc ms h ls cs ss H locs LS) (hdg : decode cc pc = .ok (.idiv, 1)) (hok : xokI pp own ini nL (pc, mk, .idiv, a, b, v) = true) (hnx : xGo G p e R s m args below meth c nL mc ms Qf (pc + 1) nx) (hx : x1 (xX (gN G) (gX G)) K xal mc ms rt Q nx jp (pc, mk, .idiv, a, b, v) ls st h cs ss) : W p (gL G) e R s m args below meth c H locs cs ss Qf (F0 m pc LS (st.map (xcv G))) := by
  obtain ⟨hx0, hb, hml, hown, hts, hG, hso, hfr, hlo⟩ := id C
  have hO := hG.2.2.2.2.2.2.2.2.2.2.2.1
  dsimp only [x1] at hx
  split at hx
  · exact lv_idiv hx0 hb hdg (xite_no hx).1 (hnx _ _ _ _ _ _ _ _ (xite_no hx).2 S)
  · exact hx.elim
theorem y_irem (C : xCx G p R s m args c cc nL own) (hR : d + 2 ≤ R.frames ∧ 28 + 30 * (d + 1) ≤ R.locals ∨ ∀ a as h Q, ¬ K a as h Q) (hRc : R.cells = mc ∧ R.slots = ms) (hini : ini = true → meth.name = "<init>") (hjp : ∀ t, xGo G p e R s m args below meth c nL mc ms Qf t (jp t)) (hret : xRet G p e R s m args below meth c cc mc ms rt Qf Q) (hK : ∀ a as h Q, K a as h Q → xMt G d a as h Q) (S : xSt G s nL mc ms h ls cs ss H locs LS) (hdg : decode cc pc = .ok (.irem, 1)) (hok : xokI pp own ini nL (pc, mk, .irem, a, b, v) = true) (hnx : xGo G p e R s m args below meth c nL mc ms Qf (pc + 1) nx) (hx : x1 (xX (gN G) (gX G)) K xal mc ms rt Q nx jp (pc, mk, .irem, a, b, v) ls st h cs ss) : W p (gL G) e R s m args below meth c H locs cs ss Qf (F0 m pc LS (st.map (xcv G))) := by
  obtain ⟨hx0, hb, hml, hown, hts, hG, hso, hfr, hlo⟩ := id C
  have hO := hG.2.2.2.2.2.2.2.2.2.2.2.1
  dsimp only [x1] at hx
  split at hx
  · exact lv_irem hx0 hb hdg (xite_no hx).1 (hnx _ _ _ _ _ _ _ _ (xite_no hx).2 S)
  · exact hx.elim
theorem y_lcmp (C : xCx G p R s m args c cc nL own) (hR : d + 2 ≤ R.frames ∧ 28 + 30 * (d + 1) ≤ R.locals ∨ ∀ a as h Q, ¬ K a as h Q) (hRc : R.cells = mc ∧ R.slots = ms) (hini : ini = true → meth.name = "<init>") (hjp : ∀ t, xGo G p e R s m args below meth c nL mc ms Qf t (jp t)) (hret : xRet G p e R s m args below meth c cc mc ms rt Qf Q) (hK : ∀ a as h Q, K a as h Q → xMt G d a as h Q) (S : xSt G s nL mc ms h ls cs ss H locs LS) (hdg : decode cc pc = .ok (.lcmp, 1)) (hok : xokI pp own ini nL (pc, mk, .lcmp, a, b, v) = true) (hnx : xGo G p e R s m args below meth c nL mc ms Qf (pc + 1) nx) (hx : x1 (xX (gN G) (gX G)) K xal mc ms rt Q nx jp (pc, mk, .lcmp, a, b, v) ls st h cs ss) : W p (gL G) e R s m args below meth c H locs cs ss Qf (F0 m pc LS (st.map (xcv G))) := by
  obtain ⟨hx0, hb, hml, hown, hts, hG, hso, hfr, hlo⟩ := id C
  have hO := hG.2.2.2.2.2.2.2.2.2.2.2.1
  dsimp only [x1] at hx
  split at hx
  · exact W.lcmp hx0 hb hdg (hnx _ _ _ _ _ _ _ _ hx S)
  · exact hx.elim
theorem y_dup (C : xCx G p R s m args c cc nL own) (hR : d + 2 ≤ R.frames ∧ 28 + 30 * (d + 1) ≤ R.locals ∨ ∀ a as h Q, ¬ K a as h Q) (hRc : R.cells = mc ∧ R.slots = ms) (hini : ini = true → meth.name = "<init>") (hjp : ∀ t, xGo G p e R s m args below meth c nL mc ms Qf t (jp t)) (hret : xRet G p e R s m args below meth c cc mc ms rt Qf Q) (hK : ∀ a as h Q, K a as h Q → xMt G d a as h Q) (S : xSt G s nL mc ms h ls cs ss H locs LS) (hdg : decode cc pc = .ok (.dup, 1)) (hok : xokI pp own ini nL (pc, mk, .dup, a, b, v) = true) (hnx : xGo G p e R s m args below meth c nL mc ms Qf (pc + 1) nx) (hx : x1 (xX (gN G) (gX G)) K xal mc ms rt Q nx jp (pc, mk, .dup, a, b, v) ls st h cs ss) : W p (gL G) e R s m args below meth c H locs cs ss Qf (F0 m pc LS (st.map (xcv G))) := by
  obtain ⟨hx0, hb, hml, hown, hts, hG, hso, hfr, hlo⟩ := id C
  have hO := hG.2.2.2.2.2.2.2.2.2.2.2.1
  dsimp only [x1] at hx
  split at hx
  · exact lv_dup hx0 hb hdg rfl (hnx _ _ _ _ _ _ _ _ hx S)
  · exact lv_dup hx0 hb hdg (xcv_cat hO _) (hnx _ _ _ _ _ _ _ _ hx S)
  · exact hx.elim
theorem y_dup2 (C : xCx G p R s m args c cc nL own) (hR : d + 2 ≤ R.frames ∧ 28 + 30 * (d + 1) ≤ R.locals ∨ ∀ a as h Q, ¬ K a as h Q) (hRc : R.cells = mc ∧ R.slots = ms) (hini : ini = true → meth.name = "<init>") (hjp : ∀ t, xGo G p e R s m args below meth c nL mc ms Qf t (jp t)) (hret : xRet G p e R s m args below meth c cc mc ms rt Qf Q) (hK : ∀ a as h Q, K a as h Q → xMt G d a as h Q) (S : xSt G s nL mc ms h ls cs ss H locs LS) (hdg : decode cc pc = .ok (.dup2, 1)) (hok : xokI pp own ini nL (pc, mk, .dup2, a, b, v) = true) (hnx : xGo G p e R s m args below meth c nL mc ms Qf (pc + 1) nx) (hx : x1 (xX (gN G) (gX G)) K xal mc ms rt Q nx jp (pc, mk, .dup2, a, b, v) ls st h cs ss) : W p (gL G) e R s m args below meth c H locs cs ss Qf (F0 m pc LS (st.map (xcv G))) := by
  obtain ⟨hx0, hb, hml, hown, hts, hG, hso, hfr, hlo⟩ := id C
  have hO := hG.2.2.2.2.2.2.2.2.2.2.2.1
  dsimp only [x1] at hx
  split at hx
  · exact lv_dup2_11 hx0 hb hdg rfl (xcv_cat hO _) (hnx _ _ _ _ _ _ _ _ hx S)
  · exact hx.elim
theorem y_pop (C : xCx G p R s m args c cc nL own) (hR : d + 2 ≤ R.frames ∧ 28 + 30 * (d + 1) ≤ R.locals ∨ ∀ a as h Q, ¬ K a as h Q) (hRc : R.cells = mc ∧ R.slots = ms) (hini : ini = true → meth.name = "<init>") (hjp : ∀ t, xGo G p e R s m args below meth c nL mc ms Qf t (jp t)) (hret : xRet G p e R s m args below meth c cc mc ms rt Qf Q) (hK : ∀ a as h Q, K a as h Q → xMt G d a as h Q) (S : xSt G s nL mc ms h ls cs ss H locs LS) (hdg : decode cc pc = .ok (.pop, 1)) (hok : xokI pp own ini nL (pc, mk, .pop, a, b, v) = true) (hnx : xGo G p e R s m args below meth c nL mc ms Qf (pc + 1) nx) (hx : x1 (xX (gN G) (gX G)) K xal mc ms rt Q nx jp (pc, mk, .pop, a, b, v) ls st h cs ss) : W p (gL G) e R s m args below meth c H locs cs ss Qf (F0 m pc LS (st.map (xcv G))) := by
  obtain ⟨hx0, hb, hml, hown, hts, hG, hso, hfr, hlo⟩ := id C
  have hO := hG.2.2.2.2.2.2.2.2.2.2.2.1
  dsimp only [x1] at hx
  split at hx
  · exact lv_pop hx0 hb hdg rfl (hnx _ _ _ _ _ _ _ _ hx S)
  · exact hx.elim
theorem y_goto {o : Int} (C : xCx G p R s m args c cc nL own) (hR : d + 2 ≤ R.frames ∧ 28 + 30 * (d + 1) ≤ R.locals ∨ ∀ a as h Q, ¬ K a as h Q) (hRc : R.cells = mc ∧ R.slots = ms) (hini : ini = true → meth.name = "<init>") (hjp : ∀ t, xGo G p e R s m args below meth c nL mc ms Qf t (jp t)) (hret : xRet G p e R s m args below meth c cc mc ms rt Qf Q) (hK : ∀ a as h Q, K a as h Q → xMt G d a as h Q) (S : xSt G s nL mc ms h ls cs ss H locs LS) (hdg : decode cc pc = .ok (.goto o, 3)) (hok : xokI pp own ini nL (pc, mk, .goto o, a, b, v) = true) (hnx : xGo G p e R s m args below meth c nL mc ms Qf (pc + 3) nx) (hx : x1 (xX (gN G) (gX G)) K xal mc ms rt Q nx jp (pc, mk, .goto o, a, b, v) ls st h cs ss) : W p (gL G) e R s m args below meth c H locs cs ss Qf (F0 m pc LS (st.map (xcv G))) := by
  obtain ⟨hx0, hb, hml, hown, hts, hG, hso, hfr, hlo⟩ := id C
  have hO := hG.2.2.2.2.2.2.2.2.2.2.2.1
  exact lv_goto hx0 hb hdg (of_decide_eq_true hok) (hjp b _ _ _ _ _ _ _ _ hx S)
theorem y_ifCond {q : ClassFile.Cond} {o : Int} (C : xCx G p R s m args c cc nL own) (hR : d + 2 ≤ R.frames ∧ 28 + 30 * (d + 1) ≤ R.locals ∨ ∀ a as h Q, ¬ K a as h Q) (hRc : R.cells = mc ∧ R.slots = ms) (hini : ini = true → meth.name = "<init>") (hjp : ∀ t, xGo G p e R s m args below meth c nL mc ms Qf t (jp t)) (hret : xRet G p e R s m args below meth c cc mc ms rt Qf Q) (hK : ∀ a as h Q, K a as h Q → xMt G d a as h Q) (S : xSt G s nL mc ms h ls cs ss H locs LS) (hdg : decode cc pc = .ok (.ifCond q o, 3)) (hok : xokI pp own ini nL (pc, mk, .ifCond q o, a, b, v) = true) (hnx : xGo G p e R s m args below meth c nL mc ms Qf (pc + 3) nx) (hx : x1 (xX (gN G) (gX G)) K xal mc ms rt Q nx jp (pc, mk, .ifCond q o, a, b, v) ls st h cs ss) : W p (gL G) e R s m args below meth c H locs cs ss Qf (F0 m pc LS (st.map (xcv G))) := by
  obtain ⟨hx0, hb, hml, hown, hts, hG, hso, hfr, hlo⟩ := id C
  have hO := hG.2.2.2.2.2.2.2.2.2.2.2.1
  have ht : (pc : Int) + o = (b : Int) := of_decide_eq_true hok
  cases q
  · dsimp only [x1] at hx
    split at hx
    · exact lv_if_eq hx0 hb hdg ht (fun z => hjp b _ _ _ _ _ _ _ _ (xite_t hx z) S) (fun z => hnx _ _ _ _ _ _ _ _ (xite_f hx z) S)
    · exact hx.elim
  · dsimp only [x1] at hx
    split at hx
    · exact lv_if_ne hx0 hb hdg ht (fun z => hjp b _ _ _ _ _ _ _ _ (xite_f hx z) S) (fun z => hnx _ _ _ _ _ _ _ _ (xite_t hx z) S)
    · exact hx.elim
  · dsimp only [x1] at hx
    split at hx
    · exact lv_if_lt hx0 hb hdg ht (fun z => hjp b _ _ _ _ _ _ _ _ (xite_t hx z) S) (fun z => hnx _ _ _ _ _ _ _ _ (xite_f hx z) S)
    · exact hx.elim
  · dsimp only [x1] at hx
    split at hx
    · exact lv_if_ge hx0 hb hdg ht (fun z => hjp b _ _ _ _ _ _ _ _ (xite_t hx z) S) (fun z => hnx _ _ _ _ _ _ _ _ (xite_f hx z) S)
    · exact hx.elim
  · dsimp only [x1] at hx
    split at hx
    · exact lv_if_gt hx0 hb hdg ht (fun z => hjp b _ _ _ _ _ _ _ _ (xite_t hx z) S) (fun z => hnx _ _ _ _ _ _ _ _ (xite_f hx z) S)
    · exact hx.elim
  · dsimp only [x1] at hx
    split at hx
    · exact lv_if_le hx0 hb hdg ht (fun z => hjp b _ _ _ _ _ _ _ _ (xite_t hx z) S) (fun z => hnx _ _ _ _ _ _ _ _ (xite_f hx z) S)
    · exact hx.elim
theorem y_if_icmp {q : ClassFile.Cond} {o : Int} (C : xCx G p R s m args c cc nL own) (hR : d + 2 ≤ R.frames ∧ 28 + 30 * (d + 1) ≤ R.locals ∨ ∀ a as h Q, ¬ K a as h Q) (hRc : R.cells = mc ∧ R.slots = ms) (hini : ini = true → meth.name = "<init>") (hjp : ∀ t, xGo G p e R s m args below meth c nL mc ms Qf t (jp t)) (hret : xRet G p e R s m args below meth c cc mc ms rt Qf Q) (hK : ∀ a as h Q, K a as h Q → xMt G d a as h Q) (S : xSt G s nL mc ms h ls cs ss H locs LS) (hdg : decode cc pc = .ok (.if_icmp q o, 3)) (hok : xokI pp own ini nL (pc, mk, .if_icmp q o, a, b, v) = true) (hnx : xGo G p e R s m args below meth c nL mc ms Qf (pc + 3) nx) (hx : x1 (xX (gN G) (gX G)) K xal mc ms rt Q nx jp (pc, mk, .if_icmp q o, a, b, v) ls st h cs ss) : W p (gL G) e R s m args below meth c H locs cs ss Qf (F0 m pc LS (st.map (xcv G))) := by
  obtain ⟨hx0, hb, hml, hown, hts, hG, hso, hfr, hlo⟩ := id C
  have hO := hG.2.2.2.2.2.2.2.2.2.2.2.1
  have ht : (pc : Int) + o = (b : Int) := of_decide_eq_true hok
  cases q
  · dsimp only [x1] at hx
    split at hx
    · exact lv_icmp_eq hx0 hb hdg ht (fun z => hjp b _ _ _ _ _ _ _ _ (xite_t hx z) S) (fun z => hnx _ _ _ _ _ _ _ _ (xite_f hx z) S)
    · exact hx.elim
  · dsimp only [x1] at hx
    split at hx
    · exact lv_icmp_ne hx0 hb hdg ht (fun z => hjp b _ _ _ _ _ _ _ _ (xite_f hx z) S) (fun z => hnx _ _ _ _ _ _ _ _ (xite_t hx z) S)
    · exact hx.elim
  · dsimp only [x1] at hx
    split at hx
    · exact lv_icmp_lt hx0 hb hdg ht (fun z => hjp b _ _ _ _ _ _ _ _ (xite_t hx z) S) (fun z => hnx _ _ _ _ _ _ _ _ (xite_f hx z) S)
    · exact hx.elim
  · dsimp only [x1] at hx
    split at hx
    · exact lv_icmp_ge hx0 hb hdg ht (fun z => hjp b _ _ _ _ _ _ _ _ (xite_t hx z) S) (fun z => hnx _ _ _ _ _ _ _ _ (xite_f hx z) S)
    · exact hx.elim
  · dsimp only [x1] at hx
    split at hx
    · exact lv_icmp_gt hx0 hb hdg ht (fun z => hjp b _ _ _ _ _ _ _ _ (xite_t hx z) S) (fun z => hnx _ _ _ _ _ _ _ _ (xite_f hx z) S)
    · exact hx.elim
  · dsimp only [x1] at hx
    split at hx
    · exact lv_icmp_le hx0 hb hdg ht (fun z => hjp b _ _ _ _ _ _ _ _ (xite_t hx z) S) (fun z => hnx _ _ _ _ _ _ _ _ (xite_f hx z) S)
    · exact hx.elim
theorem y_tableswitch {df lo hi : Int} {offs : Array Int} {len : Nat} (C : xCx G p R s m args c cc nL own) (hR : d + 2 ≤ R.frames ∧ 28 + 30 * (d + 1) ≤ R.locals ∨ ∀ a as h Q, ¬ K a as h Q) (hRc : R.cells = mc ∧ R.slots = ms) (hini : ini = true → meth.name = "<init>") (hjp : ∀ t, xGo G p e R s m args below meth c nL mc ms Qf t (jp t)) (hret : xRet G p e R s m args below meth c cc mc ms rt Qf Q) (hK : ∀ a as h Q, K a as h Q → xMt G d a as h Q) (S : xSt G s nL mc ms h ls cs ss H locs LS) (hdg : decode cc pc = .ok (.tableswitch df lo hi offs, len)) (hok : xokI pp own ini nL (pc, mk, .tableswitch df lo hi offs, a, b, v) = true) (hnx : xGo G p e R s m args below meth c nL mc ms Qf (pc + len) nx) (hx : x1 (xX (gN G) (gX G)) K xal mc ms rt Q nx jp (pc, mk, .tableswitch df lo hi offs, a, b, v) ls st h cs ss) : W p (gL G) e R s m args below meth c H locs cs ss Qf (F0 m pc LS (st.map (xcv G))) := by
  obtain ⟨hx0, hb, hml, hown, hts, hG, hso, hfr, hlo⟩ := id C
  have hO := hG.2.2.2.2.2.2.2.2.2.2.2.1
  have h1 : (decide (0 ≤ (pc : Int) + df) && offs.toList.all (fun o => decide (0 ≤ (pc : Int) + o)) && decide (hi - lo + 1 = (offs.size : Int))) = true := hok
  simp only [Bool.and_eq_true, decide_eq_true_eq, List.all_eq_true] at h1
  obtain ⟨⟨h2, h3⟩, h4⟩ := h1
  dsimp only [x1] at hx
  split at hx
  · rename_i x r
    by_cases hout : x.toInt < lo ∨ hi < x.toInt
    · exact lv_tableOut hx0 hb hdg hout (by omega) (hjp _ _ _ _ _ _ _ _ _ (xite_t hx hout) S)
    · have ha : ¬ x.toInt < lo := fun z => hout (Or.inl z)
      have hb' : ¬ hi < x.toInt := fun z => hout (Or.inr z)
      have hlt : (x.toInt - lo).toNat < offs.size := by omega
      have ho : offs[(x.toInt - lo).toNat]? = some (offs[(x.toInt - lo).toNat]'hlt) := Array.getElem?_eq_getElem hlt
      generalize (offs[(x.toInt - lo).toNat]'hlt) = off at ho
      have ho2 : offs.toList[(x.toInt - lo).toNat]? = some off := by rw [Array.getElem?_toList]; exact ho
      have h5 := h3 off (List.mem_of_getElem? ho2)
      exact lv_tableIn hx0 hb hdg ha hb' ho (by omega) (hjp _ _ _ _ _ _ _ _ _ (xtab_at (xite_f hx hout) _ _ ho2 (by omega)) S)
  · exact hx.elim

theorem x_P1 {D : va_G} {cl : List vw_C} {q : Nat × va_E} {H : Heap} (h : va_at D cl q H) : va_P D cl [q] H := fun k q' hk => by
  cases k with
  | zero => simp at hk; subst hk; exact h
  | succ n => simp at hk
theorem x_get {C1 : String} {T1 : u_T} {N ci i k A : Nat} {fs : List Value} {w : Value} {rest : List Value} (C : xCx G p R s m args c cc nL own) (hat : va_at (gD G) vwCl (A, .inr (ci, fs)) H) (hvw : vwCl[ci]? = some (C1, T1, N)) (hk : k < N) (hlink : xisw pp i (.fieldLink own i (T1 k).1 (T1 k).2.1 (T1 k).2.2.1) = true ∨ xisn pp i (.fieldLinkNest own i (T1 k).1 (T1 k).2.1 (T1 k).2.2.1 "EchoValley") = true) (hv : fs[k]? = some w) (hdg : decode cc pc = .ok (.getfield i, 3))
    (kk : W p (gL G) e R s m args below meth c H locs cs ss Qf (F0 m (pc + 3) LS (w :: rest))) : W p (gL G) e R s m args below meth c H locs cs ss Qf (F0 m pc LS (.ref A :: rest)) := by
  obtain ⟨hx0, hb, hml, hown, hts, hG, hso, hfr, hlo⟩ := id C
  have hcls := xcls_ok hvw
  rcases hlink with hl | hl
  · exact va_get (C := C1) (T := T1) (N := N) hx0 hb hts hcls.1 hown hG.1 (x_P1 hat) 0 rfl hvw k hk (hts _ (xisw_mem hl)) (fun _ h => h) hv hdg kk
  · exact va_getN (C := C1) (T := T1) (N := N) hx0 hb hts hcls.1 hown hG.1 (x_P1 hat) 0 rfl hvw k hk (va_Nw.use rfl (hG.2.1 _ (xisn_mem hl))) (fun _ h => h) hv hdg kk
def xfs (G : xG) (ci : Nat) (r : Nat → Option Nat) (f : Nat → Int32) (n : Nat) : List Value := (List.range n).map (fun j => if xisI ci j then .int (f j) else va_rf ((r j).map (xad G)))
theorem xfs_at {G : xG} {ci n k : Nat} {r : Nat → Option Nat} {f : Nat → Int32} (hk : k < n) : (xfs G ci r f n)[k]? = some (if xisI ci k then .int (f k) else va_rf ((r k).map (xad G))) := by
  unfold xfs
  rw [List.getElem?_map, List.getElem?_range hk]
  rfl
theorem xfs_len {G : xG} {ci n : Nat} {r : Nat → Option Nat} {f : Nat → Int32} : (xfs G ci r f n).length = n := by simp [xfs]
theorem xce_obj {G : xG} {Rf : Nat → Nat → Option Nat} {M : xM} {o a n : Nat} : xce G Rf M o (3 + a, n) = .inr (a, xfs G a (Rf o) (M o) n) := by
  unfold xce xfs
  rw [Nat.add_comm 3 a]
theorem xfs_setI {G : xG} {ci n k : Nat} {r : Nat → Option Nat} {f : Nat → Int32} {x : Int32} (hI : xisI ci k = true) : (xfs G ci r f n).set k (.int x) = xfs G ci r (upd f k x) n := by
  apply List.ext_getElem?
  intro i
  rw [List.getElem?_set]
  by_cases hi : i < n
  · rw [xfs_at hi, xfs_at hi]
    by_cases e : k = i
    · subst e
      rw [if_pos rfl, if_pos (by rw [xfs_len]; exact hi), if_pos hI]
      simp [upd]
    · rw [if_neg e]
      simp [upd, Ne.symm e]
  · have h1 : (xfs G ci r f n)[i]? = none := List.getElem?_eq_none (by rw [xfs_len]; omega)
    have h2 : (xfs G ci r (upd f k x) n)[i]? = none := List.getElem?_eq_none (by rw [xfs_len]; omega)
    rw [h1, h2]
    split
    · rw [if_neg (by rw [xfs_len]; omega)]
    · rfl
theorem xfs_setR {G : xG} {ci n k : Nat} {r r' : Nat → Option Nat} {f : Nat → Int32} {q : Nat} (hI : xisI ci k = false) (hr : ∀ j, r' j = if j = k then some q else r j) : (xfs G ci r f n).set k (.ref (xad G q)) = xfs G ci r' f n := by
  apply List.ext_getElem?
  intro i
  rw [List.getElem?_set]
  by_cases hi : i < n
  · rw [xfs_at hi, xfs_at hi]
    by_cases e : k = i
    · subst e
      rw [if_pos rfl, if_pos (by rw [xfs_len]; exact hi), hI]
      simp [hr, va_rf]
    · rw [if_neg e, hr, if_neg (Ne.symm e)]
  · have h1 : (xfs G ci r f n)[i]? = none := List.getElem?_eq_none (by rw [xfs_len]; omega)
    have h2 : (xfs G ci r' f n)[i]? = none := List.getElem?_eq_none (by rw [xfs_len]; omega)
    rw [h1, h2]
    split
    · rw [if_neg (by rw [xfs_len]; omega)]
    · rfl
theorem xrow_ne {M : xM} {a i : Nat} {f : Nat → Int32} (h : i ≠ a) : xrow M a f i = M i := if_neg h
theorem xrow_eq {M : xM} {a : Nat} {f : Nat → Int32} : xrow M a f a = f := if_pos rfl
theorem xrup_ne {Rf : Nat → Nat → Option Nat} {a k i : Nat} {v : Option Nat} (h : i ≠ a) : xrup Rf a k v i = Rf i := by
  funext j
  unfold xrup
  rw [if_neg (fun z => h z.1)]
theorem xrup_eq {Rf : Nat → Nat → Option Nat} {a k : Nat} {v : Option Nat} (j : Nat) : xrup Rf a k v a j = if j = k then v else Rf a j := by
  unfold xrup
  by_cases h : j = k
  · rw [if_pos ⟨rfl, h⟩, if_pos h]
  · rw [if_neg (fun z => h z.2), if_neg h]
theorem xcv_rv {G : xG} (o : Option Nat) (h : ∀ q, o = some q → q ≠ 1300) : xcv G (xrv o) = va_rf (o.map (xad G)) := by
  cases o with
  | none => rfl
  | some q =>
    show (if q = 1300 then gO G else .ref (xad G q)) = _
    rw [if_neg (h q rfl)]
    rfl

theorem y_getfield {i : Nat} (C : xCx G p R s m args c cc nL own) (hR : d + 2 ≤ R.frames ∧ 28 + 30 * (d + 1) ≤ R.locals ∨ ∀ a as h Q, ¬ K a as h Q) (hRc : R.cells = mc ∧ R.slots = ms) (hini : ini = true → meth.name = "<init>") (hjp : ∀ t, xGo G p e R s m args below meth c nL mc ms Qf t (jp t)) (hret : xRet G p e R s m args below meth c cc mc ms rt Qf Q) (hK : ∀ a as h Q, K a as h Q → xMt G d a as h Q) (S : xSt G s nL mc ms h ls cs ss H locs LS) (hdg : decode cc pc = .ok (.getfield i, 3)) (hok : xokI pp own ini nL (pc, mk, .getfield i, a, b, v) = true) (hnx : xGo G p e R s m args below meth c nL mc ms Qf (pc + 3) nx) (hx : x1 (xX (gN G) (gX G)) K xal mc ms rt Q nx jp (pc, mk, .getfield i, a, b, v) ls st h cs ss) : W p (gL G) e R s m args below meth c H locs cs ss Qf (F0 m pc LS (st.map (xcv G))) := by
  obtain ⟨hx0, hb, hml, hown, hts, hG, hso, hfr, hlo⟩ := id C
  have hO := hG.2.2.2.2.2.2.2.2.2.2.2.1
  obtain ⟨sh, Rf, M⟩ := h
  have hS := x_oldS S.1 hso S.2.2.2.1 S.2.2.1
  have hkept := x_keptS hG.2.2.2.2.2.2.2.2.2.2.2.2 hso
  rcases st with _ | ⟨w, r⟩
  · exact False.elim hx
  cases w with
  | ref o =>
    cases h99 : Nat.beq a 99 with
    | true =>
      dsimp only [x1] at hx
      rw [h99] at hx
      have ho : @LE.le Nat _ 1100 o ∧ @LT.lt Nat _ o 1115 ∧ ∃ w, xXF o b = some w ∧ nx ls (w :: r) (sh, Rf, M) cs ss := by
        dsimp only at hx
        split at hx
        · rename_i w h1 h2
          simp only [Bool.and_eq_true, Nat.ble_eq, Nat.blt_eq] at h1
          exact ⟨h1.1, h1.2, w, h2, hx⟩
        · exact hx.elim
      obtain ⟨h1, h2, w, h3, h4⟩ := ho
      obtain ⟨j, rfl⟩ : ∃ j : Nat, @Eq Nat o (1100 + j) := ⟨@HSub.hSub Nat Nat Nat _ o 1100, by omega⟩
      obtain ⟨-, f1, f2, -⟩ := hG.2.2.2.2.1 j (by omega)
      have h5 := hnx _ _ _ _ _ _ _ _ h4 S
      rw [List.map_cons] at h5 ⊢
      rw [x_refX (by omega) (by omega)]
      unfold xokI at hok
      simp only [h99] at hok
      cases b with
      | zero =>
        cases h3
        rw [x_refX (by omega) (by omega)] at h5
        have e : 1100 + j + 100 = 1200 + j := by omega
        rw [e] at h5
        exact vk_getf hx0 hb (f2.kept hkept) hS hown (hts _ (xisw_mem hok)) (fun _ h => h) hdg h5
      | succ b' =>
        cases h3
        exact vk_getf hx0 hb (f1.kept hkept) hS hown (hts _ (xisw_mem hok)) (fun _ h => h) hdg h5
    | false =>
      dsimp only [x1] at hx
      rw [h99] at hx
      dsimp only at hx
      split at hx
      · rename_i kd n hsh
        split at hx
        · rename_i hc
          simp only [Bool.and_eq_true, Nat.blt_eq] at hc
          have hkd : kd = 3 + a := Nat.eq_of_beq_eq_true hc.1
          subst hkd
          obtain ⟨C1, T1, hvw⟩ := S.1.2.2.2.1 o _ a hsh (Nat.add_comm 3 a)
          have hat := (x_cell S.1 hsh).1
          rw [xce_obj] at hat
          unfold xokI at hok
          simp only [h99, hvw, Bool.and_eq_true, Bool.or_eq_true] at hok
          rw [List.map_cons, x_sh S.1 hsh]
          have hint : xisI a b = true → nx ls (.int (M o b) :: r) (sh, Rf, M) cs ss → W p (gL G) e R s m args below meth c H locs cs ss Qf (F0 m pc LS (.ref (gB G + o) :: r.map (xcv G))) := fun hI hx1 => x_get C hat hvw hc.2 hok.1 (by rw [xfs_at hc.2, if_pos hI]; rfl) hdg (hnx _ _ _ _ _ _ _ _ hx1 S)
          have h2 := hok.2
          cases v with
          | null =>
            have hI : xisI a b = false := by simpa [xgetT] using h2
            have h5 := hnx _ _ _ _ _ _ _ _ hx S
            rw [List.map_cons] at h5
            refine x_get C hat hvw hc.2 hok.1 (w := va_rf ((Rf o b).map (xad G))) (by rw [xfs_at hc.2, hI]; rfl) hdg ?_
            rw [xcv_rv] at h5
            · exact h5
            · exact S.1.1.2 o b
          | _ => exact hint h2 hx
        · exact hx.elim
      · exact hx.elim
  | _ => exact False.elim hx

theorem xputS_inv {v w : Value} {P : Int32 → Prop} {Q : Nat → Prop} (h : xputS v w P Q) : (∃ z x, v = .int z ∧ w = .int x ∧ P x) ∨ (∃ z x, v = .long z ∧ w = .int x ∧ (x = 0 ∨ x = 1) ∧ P x) ∨ ∃ q : Nat, v = .null ∧ w = .ref q ∧ q < 1000 ∧ Q q := by
  unfold xputS at h
  split at h
  · exact Or.inl ⟨_, _, rfl, rfl, h⟩
  · exact Or.inr (Or.inl ⟨_, _, rfl, rfl, xite_yes h⟩)
  · rename_i q
    cases hq : Nat.blt q 1000 with
    | true =>
      rw [hq] at h
      exact Or.inr (Or.inr ⟨q, rfl, rfl, by rw [← Nat.blt_eq]; exact hq, h⟩)
    | false =>
      rw [hq] at h
      exact h.elim
  · exact h.elim
theorem fits_z {x : Int32} (h : x = 0 ∨ x = 1) : fits .boolean (.int x) = true := by
  rcases h with rfl | rfl <;> decide +kernel

theorem y_putfield {i : Nat} (C : xCx G p R s m args c cc nL own) (hR : d + 2 ≤ R.frames ∧ 28 + 30 * (d + 1) ≤ R.locals ∨ ∀ a as h Q, ¬ K a as h Q) (hRc : R.cells = mc ∧ R.slots = ms) (hini : ini = true → meth.name = "<init>") (hjp : ∀ t, xGo G p e R s m args below meth c nL mc ms Qf t (jp t)) (hret : xRet G p e R s m args below meth c cc mc ms rt Qf Q) (hK : ∀ a as h Q, K a as h Q → xMt G d a as h Q) (S : xSt G s nL mc ms h ls cs ss H locs LS) (hdg : decode cc pc = .ok (.putfield i, 3)) (hok : xokI pp own ini nL (pc, mk, .putfield i, a, b, v) = true) (hnx : xGo G p e R s m args below meth c nL mc ms Qf (pc + 3) nx) (hx : x1 (xX (gN G) (gX G)) K xal mc ms rt Q nx jp (pc, mk, .putfield i, a, b, v) ls st h cs ss) : W p (gL G) e R s m args below meth c H locs cs ss Qf (F0 m pc LS (st.map (xcv G))) := by
  obtain ⟨hx0, hb, hml, hown, hts, hG, hso, hfr, hlo⟩ := id C
  have hO := hG.2.2.2.2.2.2.2.2.2.2.2.1
  obtain ⟨sh, Rf, M⟩ := h
  rcases st with _ | ⟨w, r⟩
  · exact False.elim hx
  rcases r with _ | ⟨w2, r⟩
  · exact False.elim hx
  cases w2 with
  | ref o =>
    have hx2 : ∃ n, sh[o]? = some (3 + a, n) ∧ b < n ∧ xputS v w (fun x => nx ls r (sh, Rf, xup M o b x) cs ss) (fun q => nx ls r (sh, xrup Rf o b (some q), M) cs ss) := by
      dsimp only [x1] at hx
      split at hx
      · rename_i kd n hsh
        split at hx
        · rename_i hc
          simp only [Bool.and_eq_true, Nat.blt_eq] at hc
          have hkd : kd = 3 + a := Nat.eq_of_beq_eq_true hc.1
          subst hkd
          exact ⟨n, hsh, hc.2, hx⟩
        · exact hx.elim
      · exact hx.elim
    obtain ⟨n, hsh, hbn, hx2⟩ := hx2
    obtain ⟨C1, T1, hvw⟩ := S.1.2.2.2.1 o _ a hsh (Nat.add_comm 3 a)
    have hat := (x_cell S.1 hsh).1
    rw [xce_obj] at hat
    have hcls := xcls_ok hvw
    obtain ⟨ty0, hty, -⟩ := hcls.2.1
    unfold xokI at hok
    simp only [hvw, Bool.and_eq_true] at hok
    have put : ∀ (w' : Value) (ty : FieldType) (h' : xH), parseFieldDescriptor (T1 b).2.2.1 = some ty → narrow ty w' = w' → fits ty w' = true → nx ls r h' cs ss →
        (∀ H1 : Heap, va_at (gD G) vwCl (gB G + o, .inr (a, (xfs G a (Rf o) (M o) n).set b w')) H1 → H1.size = H.size → (∀ q : Nat, q ≠ gB G + o → H1[q]? = H[q]?) → xRep G h' H1) → W p (gL G) e R s m args below meth c H locs cs ss Qf (F0 m pc LS (w' :: .ref (gB G + o) :: r.map (xcv G))) := by
      intro w' ty h' hd hn hf hx3 hrep
      have kk : ∀ (H1 : Heap) (lo : Loc), lo.base = gB G + o → va_at (gD G) vwCl (gB G + o, .inr (a, (xfs G a (Rf o) (M o) n).set b w')) H1 → H1.size = H.size → (∀ q : Nat, q ≠ gB G + o → H1[q]? = H[q]?) → W p (gL G) e R s m args below meth c H1 (locs ++ [lo]) cs ss Qf (F0 m (pc + 3) LS (r.map (xcv G))) := fun H1 lo e0 e1 e2 e3 => hnx _ _ _ _ _ _ _ _ hx3 ⟨hrep H1 e1 e2 e3, S.2.1, fun q hq => by
        rcases List.mem_append.mp hq with h1 | h1
        · exact S.2.2.1 q h1
        · rw [List.mem_singleton.mp h1, e0]; omega, by rw [e2]; exact S.2.2.2.1, S.2.2.2.2⟩
      have h1 := hok.1
      cases hfin : (T1 b).2.2.2 with
      | false =>
        rw [hfin] at h1
        simp only [Bool.or_eq_true] at h1
        refine x_put (C := C1) (T := T1) (N := n) hx0 hb hts hcls.1 ty0 hty hcls.2.2.1 hown hG.1 hat hvw b hbn ?_ hfin hd hn hf (by rw [xfs_len]; exact hbn) hdg kk
        rcases h1 with h1 | h1
        · exact Or.inl (hts _ (xisw_mem h1))
        · exact Or.inr ⟨_, va_Nw.use rfl (hG.2.1 _ (xisn_mem h1))⟩
      | true =>
        rw [hfin] at h1
        simp only [Bool.and_eq_true, decide_eq_true_eq] at h1
        exact x_putF (C := C1) (T := T1) (N := n) hx0 hb hts hcls.1 ty0 hty hcls.2.2.1 hown hG.1 hat hvw b hbn (hts _ (xisw_mem h1.2)) hfin (hini h1.1.1) h1.1.2 hd hn hf (by rw [xfs_len]; exact hbn) hdg kk
    have repI : ∀ (x : Int32), xisI a b = true → ∀ H1 : Heap, va_at (gD G) vwCl (gB G + o, .inr (a, (xfs G a (Rf o) (M o) n).set b (.int x))) H1 → H1.size = H.size → (∀ q : Nat, q ≠ gB G + o → H1[q]? = H[q]?) → xRep G (sh, Rf, xup M o b x) H1 := fun x hI H1 e1 e2 e3 => x_repU S.1 hsh (by rw [xce_obj]; unfold xup; rw [xrow_eq, ← xfs_setI hI]; exact e1) e2 e3 (fun _ _ => rfl) (fun i hi => xrow_ne hi) S.1.1.2
    show W p (gL G) e R s m args below meth c H locs cs ss Qf (F0 m pc LS (xcv G w :: xcv G (.ref o) :: r.map (xcv G)))
    rw [x_sh S.1 hsh]
    have h2 := hok.2
    rcases xputS_inv hx2 with ⟨z, x, rfl, rfl, hx3⟩ | ⟨z, x, rfl, rfl, hz, hx3⟩ | ⟨q, rfl, rfl, hq', hx3⟩
    · simp only [xputT, Bool.and_eq_true, decide_eq_true_eq] at h2
      exact put (.int x) .int _ h2.1 rfl rfl hx3 (repI x h2.2)
    · simp only [xputT, Bool.and_eq_true, decide_eq_true_eq] at h2
      exact put (.int x) .boolean _ h2.1 (narrow_z hz) (fits_z hz) hx3 (repI x h2.2)
    · simp only [xputT, Bool.and_eq_true, Bool.not_eq_true'] at h2
      rw [x_ref hq']
      have rep : ∀ H1 : Heap, va_at (gD G) vwCl (gB G + o, .inr (a, (xfs G a (Rf o) (M o) n).set b (.ref (gB G + q)))) H1 → H1.size = H.size → (∀ q : Nat, q ≠ gB G + o → H1[q]? = H[q]?) → xRep G (sh, xrup Rf o b (some q), M) H1 := fun H1 e1 e2 e3 => x_repU S.1 hsh (by
            rw [xce_obj, ← xfs_setR (q := q) h2.2 (fun j => xrup_eq j)]
            unfold xad
            rw [if_pos hq']
            exact e1) e2 e3 (fun i hi => xrup_ne hi) (fun _ _ => rfl) (fun k j z hz => by
            unfold xrup at hz
            split at hz
            · cases hz; omega
            · exact S.1.1.2 k j z hz)
      have h4 := h2.1
      split at h4
      · rename_i C2 hd
        exact put _ _ _ hd rfl rfl hx3 rep
      · rename_i t2 hd
        exact put _ _ _ hd rfl rfl hx3 rep
      · cases h4
  | _ => exact False.elim hx

set_option maxRecDepth 100000 in
theorem xX_inv {L : Nat} {xs : Nat → Int32} {o n : Nat} {f : Nat → Int32} (h : xX L xs o = some (n, f)) : (o = 1000 ∧ n = L ∧ f = xs) ∨ (o = 1001 ∧ n = 7 ∧ f = xabove) ∨ ∃ i, i < 15 ∧ o = 1200 + i ∧ n = xslen i ∧ f = xsbyt i := by
  unfold xX at h
  split at h
  · rename_i h1
    have h2 := Option.some.inj h
    exact Or.inl ⟨Nat.eq_of_beq_eq_true h1, (congrArg Prod.fst h2).symm, (congrArg Prod.snd h2).symm⟩
  · split at h
    · rename_i h1
      have h2 := Option.some.inj h
      exact Or.inr (Or.inl ⟨Nat.eq_of_beq_eq_true h1, (congrArg Prod.fst h2).symm, (congrArg Prod.snd h2).symm⟩)
    · split at h
      · rename_i h1
        simp only [Bool.and_eq_true, Nat.ble_eq, Nat.blt_eq] at h1
        have h2 := Option.some.inj h
        exact Or.inr (Or.inr ⟨o - 1200, by omega, by omega, (congrArg Prod.fst h2).symm, (congrArg Prod.snd h2).symm⟩)
      · cases h
theorem xce_arr {G : xG} {Rf : Nat → Nat → Option Nat} {M : xM} {o n : Nat} : xce G Rf M o (0, n) = .inl (gI G, n, .inl (M o)) := rfl
theorem x_st1 {o1 : Nat} {lo : Loc} {h' : xH} {H1 : Heap} (S : xSt G s nL mc ms h ls cs ss H locs LS) (e0 : lo.base = gB G + o1) (e2 : H1.size = H.size) (hr : xRep G h' H1) : xSt G s nL mc ms h' ls cs ss H1 (locs ++ [lo]) LS := ⟨hr, S.2.1, fun q hq => by
      rcases List.mem_append.mp hq with h1 | h1
      · exact S.2.2.1 q h1
      · rw [List.mem_singleton.mp h1, e0]; omega, by rw [e2]; exact S.2.2.2.1, S.2.2.2.2⟩

theorem y_iaload (C : xCx G p R s m args c cc nL own) (hR : d + 2 ≤ R.frames ∧ 28 + 30 * (d + 1) ≤ R.locals ∨ ∀ a as h Q, ¬ K a as h Q) (hRc : R.cells = mc ∧ R.slots = ms) (hini : ini = true → meth.name = "<init>") (hjp : ∀ t, xGo G p e R s m args below meth c nL mc ms Qf t (jp t)) (hret : xRet G p e R s m args below meth c cc mc ms rt Qf Q) (hK : ∀ a as h Q, K a as h Q → xMt G d a as h Q) (S : xSt G s nL mc ms h ls cs ss H locs LS) (hdg : decode cc pc = .ok (.iaload, 1)) (hok : xokI pp own ini nL (pc, mk, .iaload, a, b, v) = true) (hnx : xGo G p e R s m args below meth c nL mc ms Qf (pc + 1) nx) (hx : x1 (xX (gN G) (gX G)) K xal mc ms rt Q nx jp (pc, mk, .iaload, a, b, v) ls st h cs ss) : W p (gL G) e R s m args below meth c H locs cs ss Qf (F0 m pc LS (st.map (xcv G))) := by
  obtain ⟨hx0, hb, hml, hown, hts, hG, hso, hfr, hlo⟩ := id C
  have hO := hG.2.2.2.2.2.2.2.2.2.2.2.1
  obtain ⟨sh, Rf, M⟩ := h
  have hS := x_oldS S.1 hso S.2.2.2.1 S.2.2.1
  have hkept := x_keptS hG.2.2.2.2.2.2.2.2.2.2.2.2 hso
  rcases st with _ | ⟨w, _ | ⟨w2, r⟩⟩
  · exact False.elim hx
  · cases w <;> exact False.elim hx
  cases w with
  | int i =>
    cases w2 with
    | ref o =>
      dsimp only [x1] at hx
      rw [List.map_cons, List.map_cons]
      split at hx
      · rename_i kd n hsh
        split at hx
        · have hat := (x_cell S.1 hsh).1
          rw [xce_arr] at hat
          rw [x_sh S.1 hsh]
          exact va_iald hx0 hb hG.1 (x_P1 hat) 0 0 rfl rfl (xite_no hx).1 hdg (hnx _ _ _ _ _ _ _ _ (xite_no hx).2 S)
        · exact hx.elim
      · split at hx
        · rename_i n f h1 h2
          have h3 : @LT.lt Nat _ o 1200 := by rw [← Nat.blt_eq]; exact h2
          rcases xX_inv h1 with ⟨rfl, rfl, rfl⟩ | ⟨rfl, rfl, rfl⟩ | ⟨i, hi, rfl, -, -⟩
          · rw [x_refX (by omega) (by omega)]
            exact va_sld hx0 hb hG.2.2.2.2.2.2.2.2.2.1 (by rw [hG.2.2.2.2.2.2.2.2.2.2.2.2]; exact hG.2.2.2.2.2.2.2.2.2.2.1) (Nat.not_le.mpr hG.2.2.2.2.2.2.2.2.2.2.1) (x_old S.1 hG.2.2.2.2.2.2.2.2.2.2.2.2 S.2.2.1) (xite_no hx).1 hdg (hnx _ _ _ _ _ _ _ _ (xite_no hx).2 S)
          · rw [x_refX (by omega) (by omega)]
            exact va_ti hx0 hb (hG.2.2.2.2.2.2.1.kept hkept) hS (xite_no hx).1 rfl hdg (hnx _ _ _ _ _ _ _ _ (xite_no hx).2 S)
          · omega
        · exact hx.elim
    | _ => exact False.elim hx
  | _ => exact False.elim hx
theorem y_baload (C : xCx G p R s m args c cc nL own) (hR : d + 2 ≤ R.frames ∧ 28 + 30 * (d + 1) ≤ R.locals ∨ ∀ a as h Q, ¬ K a as h Q) (hRc : R.cells = mc ∧ R.slots = ms) (hini : ini = true → meth.name = "<init>") (hjp : ∀ t, xGo G p e R s m args below meth c nL mc ms Qf t (jp t)) (hret : xRet G p e R s m args below meth c cc mc ms rt Qf Q) (hK : ∀ a as h Q, K a as h Q → xMt G d a as h Q) (S : xSt G s nL mc ms h ls cs ss H locs LS) (hdg : decode cc pc = .ok (.baload, 1)) (hok : xokI pp own ini nL (pc, mk, .baload, a, b, v) = true) (hnx : xGo G p e R s m args below meth c nL mc ms Qf (pc + 1) nx) (hx : x1 (xX (gN G) (gX G)) K xal mc ms rt Q nx jp (pc, mk, .baload, a, b, v) ls st h cs ss) : W p (gL G) e R s m args below meth c H locs cs ss Qf (F0 m pc LS (st.map (xcv G))) := by
  obtain ⟨hx0, hb, hml, hown, hts, hG, hso, hfr, hlo⟩ := id C
  have hO := hG.2.2.2.2.2.2.2.2.2.2.2.1
  obtain ⟨sh, Rf, M⟩ := h
  have hS := x_oldS S.1 hso S.2.2.2.1 S.2.2.1
  have hkept := x_keptS hG.2.2.2.2.2.2.2.2.2.2.2.2 hso
  rcases st with _ | ⟨w, _ | ⟨w2, r⟩⟩
  · exact False.elim hx
  · cases w <;> exact False.elim hx
  cases w with
  | int i =>
    cases w2 with
    | ref o =>
      dsimp only [x1] at hx
      rw [List.map_cons, List.map_cons]
      split at hx
      · exact hx.elim
      · split at hx
        · rename_i n f h1 h2
          have h3 : ¬ @LT.lt Nat _ o 1200 := by
            intro z
            rw [← Nat.blt_eq] at z
            rw [z] at h2
            cases h2
          rcases xX_inv h1 with ⟨rfl, rfl, rfl⟩ | ⟨rfl, rfl, rfl⟩ | ⟨j, hj, rfl, rfl, rfl⟩
          · omega
          · omega
          · rw [x_refX (by omega) (by omega)]
            exact va_tb hx0 hb ((hG.2.2.2.2.1 j hj).2.2.2.kept hkept) hS (xite_no hx).1 rfl hdg (hnx _ _ _ _ _ _ _ _ (xite_no hx).2 S)
        · exact hx.elim
    | _ => exact False.elim hx
  | _ => exact False.elim hx
theorem y_aaload (C : xCx G p R s m args c cc nL own) (hR : d + 2 ≤ R.frames ∧ 28 + 30 * (d + 1) ≤ R.locals ∨ ∀ a as h Q, ¬ K a as h Q) (hRc : R.cells = mc ∧ R.slots = ms) (hini : ini = true → meth.name = "<init>") (hjp : ∀ t, xGo G p e R s m args below meth c nL mc ms Qf t (jp t)) (hret : xRet G p e R s m args below meth c cc mc ms rt Qf Q) (hK : ∀ a as h Q, K a as h Q → xMt G d a as h Q) (S : xSt G s nL mc ms h ls cs ss H locs LS) (hdg : decode cc pc = .ok (.aaload, 1)) (hok : xokI pp own ini nL (pc, mk, .aaload, a, b, v) = true) (hnx : xGo G p e R s m args below meth c nL mc ms Qf (pc + 1) nx) (hx : x1 (xX (gN G) (gX G)) K xal mc ms rt Q nx jp (pc, mk, .aaload, a, b, v) ls st h cs ss) : W p (gL G) e R s m args below meth c H locs cs ss Qf (F0 m pc LS (st.map (xcv G))) := by
  obtain ⟨hx0, hb, hml, hown, hts, hG, hso, hfr, hlo⟩ := id C
  have hO := hG.2.2.2.2.2.2.2.2.2.2.2.1
  obtain ⟨sh, Rf, M⟩ := h
  rcases st with _ | ⟨w, _ | ⟨w2, r⟩⟩
  · exact False.elim hx
  · cases w <;> exact False.elim hx
  cases w with
  | int i =>
    cases w2 with
    | ref o =>
      dsimp only [x1] at hx
      rw [List.map_cons, List.map_cons]
      split at hx
      · rename_i kd n hsh
        split at hx
        · rename_i hkd
          simp only [Bool.or_eq_true] at hkd
          have hat := (x_cell S.1 hsh).1
          have h5 := hnx _ _ _ _ _ _ _ _ (xite_no hx).2 S
          rw [List.map_cons, xcv_rv _ (S.1.1.2 o i.toNatClampNeg)] at h5
          rw [x_sh S.1 hsh]
          rcases hkd with hkd | hkd
          · have hkd := Nat.eq_of_beq_eq_true hkd
            subst hkd
            exact va_aldq hx0 hb hG.1 (x_P1 hat) 0 1 rfl rfl (xite_no hx).1 hdg h5
          · have hkd := Nat.eq_of_beq_eq_true hkd
            subst hkd
            exact va_aldq hx0 hb hG.1 (x_P1 hat) 0 2 rfl rfl (xite_no hx).1 hdg h5
        · exact hx.elim
      · exact hx.elim
    | _ => exact False.elim hx
  | _ => exact False.elim hx
theorem y_iastore (C : xCx G p R s m args c cc nL own) (hR : d + 2 ≤ R.frames ∧ 28 + 30 * (d + 1) ≤ R.locals ∨ ∀ a as h Q, ¬ K a as h Q) (hRc : R.cells = mc ∧ R.slots = ms) (hini : ini = true → meth.name = "<init>") (hjp : ∀ t, xGo G p e R s m args below meth c nL mc ms Qf t (jp t)) (hret : xRet G p e R s m args below meth c cc mc ms rt Qf Q) (hK : ∀ a as h Q, K a as h Q → xMt G d a as h Q) (S : xSt G s nL mc ms h ls cs ss H locs LS) (hdg : decode cc pc = .ok (.iastore, 1)) (hok : xokI pp own ini nL (pc, mk, .iastore, a, b, v) = true) (hnx : xGo G p e R s m args below meth c nL mc ms Qf (pc + 1) nx) (hx : x1 (xX (gN G) (gX G)) K xal mc ms rt Q nx jp (pc, mk, .iastore, a, b, v) ls st h cs ss) : W p (gL G) e R s m args below meth c H locs cs ss Qf (F0 m pc LS (st.map (xcv G))) := by
  obtain ⟨hx0, hb, hml, hown, hts, hG, hso, hfr, hlo⟩ := id C
  have hO := hG.2.2.2.2.2.2.2.2.2.2.2.1
  obtain ⟨sh, Rf, M⟩ := h
  rcases st with _ | ⟨w, _ | ⟨w2, _ | ⟨w3, r⟩⟩⟩
  · exact False.elim hx
  · cases w <;> exact False.elim hx
  · cases w <;> cases w2 <;> exact False.elim hx
  cases w with
  | int x =>
    cases w2 with
    | int i =>
      cases w3 with
      | ref o =>
        dsimp only [x1] at hx
        rw [List.map_cons, List.map_cons, List.map_cons]
        split at hx
        · rename_i kd n hsh
          split at hx
          · have hat := (x_cell S.1 hsh).1
            rw [xce_arr] at hat
            rw [x_sh S.1 hsh]
            exact x_iast hx0 hb hG.1 0 hat rfl (xite_no hx).1 hdg (fun H1 lo e0 e1 e2 e3 => hnx _ _ _ _ _ _ _ _ (xite_no hx).2 (x_st1 S e0 e2 (x_repU S.1 hsh (by rw [xce_arr]; unfold xup; rw [xrow_eq]; exact e1) e2 e3 (fun _ _ => rfl) (fun i hi => xrow_ne hi) S.1.1.2)))
          · exact hx.elim
        · exact hx.elim
      | _ => exact False.elim hx
    | _ => exact False.elim hx
  | _ => exact False.elim hx
theorem y_arraylength (C : xCx G p R s m args c cc nL own) (hR : d + 2 ≤ R.frames ∧ 28 + 30 * (d + 1) ≤ R.locals ∨ ∀ a as h Q, ¬ K a as h Q) (hRc : R.cells = mc ∧ R.slots = ms) (hini : ini = true → meth.name = "<init>") (hjp : ∀ t, xGo G p e R s m args below meth c nL mc ms Qf t (jp t)) (hret : xRet G p e R s m args below meth c cc mc ms rt Qf Q) (hK : ∀ a as h Q, K a as h Q → xMt G d a as h Q) (S : xSt G s nL mc ms h ls cs ss H locs LS) (hdg : decode cc pc = .ok (.arraylength, 1)) (hok : xokI pp own ini nL (pc, mk, .arraylength, a, b, v) = true) (hnx : xGo G p e R s m args below meth c nL mc ms Qf (pc + 1) nx) (hx : x1 (xX (gN G) (gX G)) K xal mc ms rt Q nx jp (pc, mk, .arraylength, a, b, v) ls st h cs ss) : W p (gL G) e R s m args below meth c H locs cs ss Qf (F0 m pc LS (st.map (xcv G))) := by
  obtain ⟨hx0, hb, hml, hown, hts, hG, hso, hfr, hlo⟩ := id C
  have hO := hG.2.2.2.2.2.2.2.2.2.2.2.1
  obtain ⟨sh, Rf, M⟩ := h
  have hS := x_oldS S.1 hso S.2.2.2.1 S.2.2.1
  have hkept := x_keptS hG.2.2.2.2.2.2.2.2.2.2.2.2 hso
  rcases st with _ | ⟨w, r⟩
  · exact False.elim hx
  cases w with
  | ref o =>
    dsimp only [x1] at hx
    rw [List.map_cons]
    split at hx
    · rename_i kd n hsh
      split at hx
      · rename_i hk
        have hk : kd < 3 := by rw [← Nat.blt_eq]; exact hk
        have hat := (x_cell S.1 hsh).1
        have h5 := hnx _ _ _ _ _ _ _ _ hx S
        rw [x_sh S.1 hsh]
        match kd, hk, hat with
        | 0, _, hat => exact va_alen hx0 hb hG.1 (x_P1 hat) 0 0 rfl rfl rfl hdg h5
        | 1, _, hat => exact va_alen hx0 hb hG.1 (x_P1 hat) 0 1 rfl rfl rfl hdg h5
        | 2, _, hat => exact va_alen hx0 hb hG.1 (x_P1 hat) 0 2 rfl rfl rfl hdg h5
      · exact hx.elim
    · split at hx
      · rename_i n f h1
        rcases xX_inv h1 with ⟨rfl, rfl, rfl⟩ | ⟨rfl, rfl, rfl⟩ | ⟨j, hj, rfl, rfl, rfl⟩
        · rw [x_refX (by omega) (by omega)]
          exact va_slen hx0 hb hG.2.2.2.2.2.2.2.2.2.1 (by rw [hG.2.2.2.2.2.2.2.2.2.2.2.2]; exact hG.2.2.2.2.2.2.2.2.2.2.1) (Nat.not_le.mpr hG.2.2.2.2.2.2.2.2.2.2.1) (x_old S.1 hG.2.2.2.2.2.2.2.2.2.2.2.2 S.2.2.1) hdg (hnx _ _ _ _ _ _ _ _ hx S)
        · rw [x_refX (by omega) (by omega)]
          exact va_tlen hx0 hb (hG.2.2.2.2.2.2.1.kept hkept) hS rfl hdg (hnx _ _ _ _ _ _ _ _ hx S)
        · rw [x_refX (by omega) (by omega)]
          exact va_tlen hx0 hb ((hG.2.2.2.2.1 j hj).2.2.2.kept hkept) hS rfl hdg (hnx _ _ _ _ _ _ _ _ hx S)
      · exact hx.elim
  | _ => exact False.elim hx
theorem y_ireturn (C : xCx G p R s m args c cc nL own) (hR : d + 2 ≤ R.frames ∧ 28 + 30 * (d + 1) ≤ R.locals ∨ ∀ a as h Q, ¬ K a as h Q) (hRc : R.cells = mc ∧ R.slots = ms) (hini : ini = true → meth.name = "<init>") (hjp : ∀ t, xGo G p e R s m args below meth c nL mc ms Qf t (jp t)) (hret : xRet G p e R s m args below meth c cc mc ms rt Qf Q) (hK : ∀ a as h Q, K a as h Q → xMt G d a as h Q) (S : xSt G s nL mc ms h ls cs ss H locs LS) (hdg : decode cc pc = .ok (.ireturn, 1)) (hok : xokI pp own ini nL (pc, mk, .ireturn, a, b, v) = true) (hnx : xGo G p e R s m args below meth c nL mc ms Qf (pc + 1) nx) (hx : x1 (xX (gN G) (gX G)) K xal mc ms rt Q nx jp (pc, mk, .ireturn, a, b, v) ls st h cs ss) : W p (gL G) e R s m args below meth c H locs cs ss Qf (F0 m pc LS (st.map (xcv G))) := by
  obtain ⟨hx0, hb, hml, hown, hts, hG, hso, hfr, hlo⟩ := id C
  have hO := hG.2.2.2.2.2.2.2.2.2.2.2.1
  rcases st with _ | ⟨w, _ | ⟨w2, r⟩⟩
  · exact False.elim hx
  · cases w with
    | int x =>
      have fin : ∀ ty, xrt rt = some ty → narrow ty (.int x) = .int x → Q (some (.int x)) h → W p (gL G) e R s m args below meth c H locs cs ss Qf (F0 m pc LS ([Value.int x].map (xcv G))) := fun ty h1 h2 h3 => hret (some (.int x)) h H locs cs ss pc LS .ireturn h3 S.1 S.2.2.1 S.2.2.2.1 S.2.2.2.2.1 S.2.2.2.2.2 (Or.inl ⟨rfl, x, ty, rfl, h1, h2⟩) hdg
      match rt, hret, fin, hx with
      | 0, _, _, hx => exact False.elim hx
      | 1, _, fin, hx => exact fin .int rfl rfl hx
      | 2, _, fin, hx => exact fin .boolean rfl (narrow_z (xite_yes hx).1) (xite_yes hx).2
      | 3, _, fin, hx => exact fin .char rfl hx.1 hx.2
      | 4, _, fin, hx => exact fin .byte rfl hx.1 hx.2
      | n + 5, _, _, hx => exact False.elim hx
    | _ => exact False.elim hx
  · cases w <;> exact False.elim hx
theorem y_lreturn (C : xCx G p R s m args c cc nL own) (hR : d + 2 ≤ R.frames ∧ 28 + 30 * (d + 1) ≤ R.locals ∨ ∀ a as h Q, ¬ K a as h Q) (hRc : R.cells = mc ∧ R.slots = ms) (hini : ini = true → meth.name = "<init>") (hjp : ∀ t, xGo G p e R s m args below meth c nL mc ms Qf t (jp t)) (hret : xRet G p e R s m args below meth c cc mc ms rt Qf Q) (hK : ∀ a as h Q, K a as h Q → xMt G d a as h Q) (S : xSt G s nL mc ms h ls cs ss H locs LS) (hdg : decode cc pc = .ok (.lreturn, 1)) (hok : xokI pp own ini nL (pc, mk, .lreturn, a, b, v) = true) (hnx : xGo G p e R s m args below meth c nL mc ms Qf (pc + 1) nx) (hx : x1 (xX (gN G) (gX G)) K xal mc ms rt Q nx jp (pc, mk, .lreturn, a, b, v) ls st h cs ss) : W p (gL G) e R s m args below meth c H locs cs ss Qf (F0 m pc LS (st.map (xcv G))) := by
  obtain ⟨hx0, hb, hml, hown, hts, hG, hso, hfr, hlo⟩ := id C
  have hO := hG.2.2.2.2.2.2.2.2.2.2.2.1
  dsimp only [x1] at hx
  split at hx
  · rename_i x
    exact hret (some (.long x)) h H locs cs ss pc LS .lreturn hx S.1 S.2.2.1 S.2.2.2.1 S.2.2.2.2.1 S.2.2.2.2.2 (Or.inr (Or.inl ⟨rfl, rfl, x, rfl⟩)) hdg
  · exact hx.elim
theorem y_return_ (C : xCx G p R s m args c cc nL own) (hR : d + 2 ≤ R.frames ∧ 28 + 30 * (d + 1) ≤ R.locals ∨ ∀ a as h Q, ¬ K a as h Q) (hRc : R.cells = mc ∧ R.slots = ms) (hini : ini = true → meth.name = "<init>") (hjp : ∀ t, xGo G p e R s m args below meth c nL mc ms Qf t (jp t)) (hret : xRet G p e R s m args below meth c cc mc ms rt Qf Q) (hK : ∀ a as h Q, K a as h Q → xMt G d a as h Q) (S : xSt G s nL mc ms h ls cs ss H locs LS) (hdg : decode cc pc = .ok (.return_, 1)) (hok : xokI pp own ini nL (pc, mk, .return_, a, b, v) = true) (hnx : xGo G p e R s m args below meth c nL mc ms Qf (pc + 1) nx) (hx : x1 (xX (gN G) (gX G)) K xal mc ms rt Q nx jp (pc, mk, .return_, a, b, v) ls st h cs ss) : W p (gL G) e R s m args below meth c H locs cs ss Qf (F0 m pc LS (st.map (xcv G))) := by
  obtain ⟨hx0, hb, hml, hown, hts, hG, hso, hfr, hlo⟩ := id C
  have hO := hG.2.2.2.2.2.2.2.2.2.2.2.1
  dsimp only [x1] at hx
  split at hx
  · exact hret none h H locs cs ss pc LS .return_ hx S.1 S.2.2.1 S.2.2.2.1 S.2.2.2.2.1 S.2.2.2.2.2 (Or.inr (Or.inr ⟨rfl, rfl, rfl⟩)) hdg
  · exact hx.elim

theorem xup_map {G : xG} {Rf : Nat → Nat → Option Nat} {o k q : Nat} : (fun j => (xrup Rf o k (some q) o j).map (xad G)) = va_up (fun j => (Rf o j).map (xad G)) k (some (xad G q)) := by
  funext j
  rw [xrup_eq]
  unfold va_up
  by_cases h : j = k
  · rw [if_pos h, if_pos h]; rfl
  · rw [if_neg h, if_neg h]
theorem xrup_no {Rf : Nat → Nat → Option Nat} {o k q : Nat} (h : ∀ (k j q : Nat), Rf k j = some q → q ≠ 1300) (hq : q ≠ 1300) : ∀ (a j z : Nat), xrup Rf o k (some q) a j = some z → z ≠ 1300 := fun a j z hz => by
  unfold xrup at hz
  split at hz
  · cases hz; exact hq
  · exact h a j z hz
theorem x_rnew {G : xG} {sh : List (Nat × Nat)} {Rf : Nat → Nat → Option Nat} {M : xM} (h : xRep G (sh, Rf, M) H) : (∀ i, i ≠ sh.length → (fun i => if i = sh.length then fun _ => none else Rf i) i = Rf i) ∧ (∀ i, i ≠ sh.length → xrow M sh.length (fun _ => 0) i = M i) ∧ ∀ (k j q : Nat), (fun i => if i = sh.length then fun _ => none else Rf i) k j = some q → q ≠ 1300 :=
  ⟨fun i hi => if_neg hi, fun i hi => xrow_ne hi, fun k j q hq => by
    dsimp only at hq
    split at hq
    · cases hq
    · exact h.1.2 k j q hq⟩
theorem x_newref {G : xG} {sh : List (Nat × Nat)} {Rf : Nat → Nat → Option Nat} {M : xM} (h : xRep G (sh, Rf, M) H) (hl : sh.length < 1000) : xcv G (.ref sh.length) = .ref H.size := by
  rw [x_ref hl, h.2.1]

theorem y_aastore (C : xCx G p R s m args c cc nL own) (hR : d + 2 ≤ R.frames ∧ 28 + 30 * (d + 1) ≤ R.locals ∨ ∀ a as h Q, ¬ K a as h Q) (hRc : R.cells = mc ∧ R.slots = ms) (hini : ini = true → meth.name = "<init>") (hjp : ∀ t, xGo G p e R s m args below meth c nL mc ms Qf t (jp t)) (hret : xRet G p e R s m args below meth c cc mc ms rt Qf Q) (hK : ∀ a as h Q, K a as h Q → xMt G d a as h Q) (S : xSt G s nL mc ms h ls cs ss H locs LS) (hdg : decode cc pc = .ok (.aastore, 1)) (hok : xokI pp own ini nL (pc, mk, .aastore, a, b, v) = true) (hnx : xGo G p e R s m args below meth c nL mc ms Qf (pc + 1) nx) (hx : x1 (xX (gN G) (gX G)) K xal mc ms rt Q nx jp (pc, mk, .aastore, a, b, v) ls st h cs ss) : W p (gL G) e R s m args below meth c H locs cs ss Qf (F0 m pc LS (st.map (xcv G))) := by
  obtain ⟨hx0, hb, hml, hown, hts, hG, hso, hfr, hlo⟩ := id C
  have hO := hG.2.2.2.2.2.2.2.2.2.2.2.1
  obtain ⟨sh, Rf, M⟩ := h
  rcases st with _ | ⟨w, _ | ⟨w2, _ | ⟨w3, r⟩⟩⟩
  · exact False.elim hx
  · cases w <;> exact False.elim hx
  · cases w <;> cases w2 <;> exact False.elim hx
  cases w with
  | ref q =>
    cases w2 with
    | int i =>
      cases w3 with
      | ref o =>
        dsimp only [x1] at hx
        rw [List.map_cons, List.map_cons, List.map_cons]
        split at hx
        · rename_i kd n hsh
          have hat := (x_cell S.1 hsh).1
          rw [x_sh S.1 hsh]
          split at hx
          · split at hx
            · rename_i kq nq hq
              split at hx
              · rename_i hkq
                have hkq : kq = 6 := Nat.eq_of_beq_eq_true hkq
                subst hkq
                have hqc := x_cell S.1 hq
                have hq1 := (x_cell S.1 hq).1
                rw [show ((6 : Nat), nq) = (3 + 3, nq) from rfl, xce_obj] at hq1
                obtain ⟨q', r1, cell, c1, c2, c3, -⟩ := hq1
                obtain ⟨C1, T1, hvw⟩ := S.1.2.2.2.1 q _ 3 hq rfl
                have hq' : q' = (C1, T1, nq) := Option.some.inj (r1.symm.trans hvw)
                subst hq'
                have hC1 : C1 = "EchoValley$Sheet" := by
                  have h1 : vwCl[3]? = some (RX4, TX4, 3) := rfl
                  have h2 := Option.some.inj (hvw.symm.trans h1)
                  exact congrArg Prod.fst h2
                rw [x_sh S.1 hq]
                have hne : @Ne Nat q 1300 := by
                  have h1 := hqc.2.2
                  have h2 := S.1.1.1
                  simp only at h2
                  omega
                exact x_aast hx0 hb hG.1 1 hat rfl ⟨cell, c1, by rw [c3]; rfl, by rw [c2, ← hC1]; exact (hG.1.1 3 _ hvw).2.1⟩ (xite_no hx).1 hdg (fun H1 lo e0 e1 e2 e3 => hnx _ _ _ _ _ _ _ _ (xite_no hx).2 (x_st1 S e0 e2 (x_repU S.1 hsh (by
                  show va_at (gD G) vwCl (gB G + o, .inl (gS G, n, .inr (.inr (.inr (.inr (fun j => (xrup Rf o i.toNatClampNeg (some q) o j).map (xad G))))))) H1
                  rw [xup_map, hqc.2.1]
                  exact e1) e2 e3 (fun i hi => xrup_ne hi) (fun _ _ => rfl) (xrup_no S.1.1.2 hne))))
              · exact hx.elim
            · exact hx.elim
          · split at hx
            · rename_i hq
              simp only [Bool.and_eq_true, Nat.ble_eq, Nat.blt_eq] at hq
              have h1 : @LE.le Nat _ 1100 q := hq.1
              have h2 : @LT.lt Nat _ q 1115 := hq.2
              obtain ⟨j, rfl⟩ : ∃ j : Nat, @Eq Nat q (1100 + j) := ⟨@HSub.hSub Nat Nat Nat _ q 1100, by omega⟩
              have hkept := x_keptS hG.2.2.2.2.2.2.2.2.2.2.2.2 hso
              obtain ⟨cell, c1, c2, c3, c4⟩ := (hG.2.2.2.2.1 j (by omega)).1
              have hlt : gE G (1100 + j) < gB G := Nat.not_le.mp c4
              have e4 : xad G (1100 + j) = gE G (1100 + j) := by
                unfold xad
                rw [if_neg (by omega)]
              rw [x_refX (by omega) (by omega)]
              exact x_aast hx0 hb hG.1 2 hat rfl ⟨cell, by rw [S.1.2.2.2.2 _ hlt]; exact c1, c2, c3⟩ (xite_no hx).1 hdg (fun H1 lo e0 e1 e2 e3 => hnx _ _ _ _ _ _ _ _ (xite_no hx).2 (x_st1 S e0 e2 (x_repU S.1 hsh (by
                  show va_at (gD G) vwCl (gB G + o, .inl (gT G, n, .inr (.inr (.inr (.inr (fun z => (xrup Rf o i.toNatClampNeg (some (1100 + j)) o z).map (xad G))))))) H1
                  rw [xup_map, e4]
                  exact e1) e2 e3 (fun i hi => xrup_ne hi) (fun _ _ => rfl) (xrup_no S.1.1.2 (by omega)))))
            · exact hx.elim
          · exact hx.elim
        · exact hx.elim
      | _ => exact False.elim hx
    | _ => exact False.elim hx
  | _ => exact False.elim hx
theorem y_new {i : Nat} (C : xCx G p R s m args c cc nL own) (hR : d + 2 ≤ R.frames ∧ 28 + 30 * (d + 1) ≤ R.locals ∨ ∀ a as h Q, ¬ K a as h Q) (hRc : R.cells = mc ∧ R.slots = ms) (hini : ini = true → meth.name = "<init>") (hjp : ∀ t, xGo G p e R s m args below meth c nL mc ms Qf t (jp t)) (hret : xRet G p e R s m args below meth c cc mc ms rt Qf Q) (hK : ∀ a as h Q, K a as h Q → xMt G d a as h Q) (S : xSt G s nL mc ms h ls cs ss H locs LS) (hdg : decode cc pc = .ok (.new i, 3)) (hok : xokI pp own ini nL (pc, mk, .new i, a, b, v) = true) (hnx : xGo G p e R s m args below meth c nL mc ms Qf (pc + 3) nx) (hx : x1 (xX (gN G) (gX G)) K xal mc ms rt Q nx jp (pc, mk, .new i, a, b, v) ls st h cs ss) : W p (gL G) e R s m args below meth c H locs cs ss Qf (F0 m pc LS (st.map (xcv G))) := by
  obtain ⟨hx0, hb, hml, hown, hts, hG, hso, hfr, hlo⟩ := id C
  have hO := hG.2.2.2.2.2.2.2.2.2.2.2.1
  obtain ⟨sh, Rf, M⟩ := h
  dsimp only [x1] at hx
  obtain ⟨⟨h1, h2, h3⟩, h4⟩ := hx
  unfold xokI at hok
  cases hvw : vwCl[a]? with
  | none => simp only [hvw] at hok; cases hok
  | some q =>
    obtain ⟨C1, T1, N⟩ := q
    simp only [hvw, Bool.and_eq_true] at hok
    have hN : N = b := Nat.eq_of_beq_eq_true hok.2
    subst hN
    have hcls := xcls_ok hvw
    obtain ⟨ty0, hty, hdef⟩ := hcls.2.1
    have hrn := x_rnew S.1
    refine x_new (C := C1) (T := T1) (N := N) hx0 hb hts hcls.1 ty0 hty hown (hts _ (xisw_mem hok.1)) (hts _ hcls.2.2.2.1) (hts _ hcls.2.2.2.2) hG.1 hvw (fs := xfs G a (fun _ => none) (fun _ => 0) N) (fun j hj => ?_) (by rw [hRc.1]; exact h2) (by rw [hRc.2]; exact h3) hdg (fun H1 e1 e2 e3 => ?_)
    · rw [hdef j hj]
      unfold vp_V
      rw [List.getD_eq_getElem?_getD, xfs_at hj]
      split <;> rfl
    · have h5 := hnx _ _ _ _ _ H1 locs LS h4 ⟨x_repN S.1 h1 (by rw [xce_obj, xrow_eq, if_pos rfl]; exact e1) e2 e3 hrn.1 hrn.2.1 (fun ci hci => ⟨C1, T1, by
        have e : ci = a := by simp only at hci; omega
        rw [e]; exact hvw⟩) hrn.2.2, S.2.1, S.2.2.1, by rw [e2]; exact Nat.le_succ_of_le S.2.2.2.1, h2, h3⟩
      rw [List.map_cons, x_newref S.1 h1] at h5
      exact h5
theorem y_newarray (C : xCx G p R s m args c cc nL own) (hR : d + 2 ≤ R.frames ∧ 28 + 30 * (d + 1) ≤ R.locals ∨ ∀ a as h Q, ¬ K a as h Q) (hRc : R.cells = mc ∧ R.slots = ms) (hini : ini = true → meth.name = "<init>") (hjp : ∀ t, xGo G p e R s m args below meth c nL mc ms Qf t (jp t)) (hret : xRet G p e R s m args below meth c cc mc ms rt Qf Q) (hK : ∀ a as h Q, K a as h Q → xMt G d a as h Q) (S : xSt G s nL mc ms h ls cs ss H locs LS) (hdg : decode cc pc = .ok (.newarray .int, 2)) (hok : xokI pp own ini nL (pc, mk, .newarray .int, a, b, v) = true) (hnx : xGo G p e R s m args below meth c nL mc ms Qf (pc + 2) nx) (hx : x1 (xX (gN G) (gX G)) K xal mc ms rt Q nx jp (pc, mk, .newarray .int, a, b, v) ls st h cs ss) : W p (gL G) e R s m args below meth c H locs cs ss Qf (F0 m pc LS (st.map (xcv G))) := by
  obtain ⟨hx0, hb, hml, hown, hts, hG, hso, hfr, hlo⟩ := id C
  have hO := hG.2.2.2.2.2.2.2.2.2.2.2.1
  obtain ⟨sh, Rf, M⟩ := h
  rcases st with _ | ⟨w, r⟩
  · exact False.elim hx
  cases w with
  | int i =>
    dsimp only [x1] at hx
    obtain ⟨⟨h1, h0, h6, h2, h3⟩, h4⟩ := hx
    have hrn := x_rnew S.1
    refine x_newa hx0 hb (hts _ x_objw.2.2.1) hG.1 0 rfl h0 rfl h6 (by rw [hRc.1]; exact h2) (by rw [hRc.2]; exact h3) hdg (fun H1 e1 e2 e3 => ?_)
    have h5 := hnx _ _ _ _ _ H1 locs LS h4 ⟨x_repN S.1 h1 (by rw [xce_arr, xrow_eq]; exact e1) e2 e3 hrn.1 hrn.2.1 (fun ci hci => by cases hci) hrn.2.2, S.2.1, S.2.2.1, by rw [e2]; exact Nat.le_succ_of_le S.2.2.2.1, h2, h3⟩
    rw [List.map_cons, x_newref S.1 h1] at h5
    exact h5
  | _ => exact False.elim hx
theorem y_anewarray {i : Nat} (C : xCx G p R s m args c cc nL own) (hR : d + 2 ≤ R.frames ∧ 28 + 30 * (d + 1) ≤ R.locals ∨ ∀ a as h Q, ¬ K a as h Q) (hRc : R.cells = mc ∧ R.slots = ms) (hini : ini = true → meth.name = "<init>") (hjp : ∀ t, xGo G p e R s m args below meth c nL mc ms Qf t (jp t)) (hret : xRet G p e R s m args below meth c cc mc ms rt Qf Q) (hK : ∀ a as h Q, K a as h Q → xMt G d a as h Q) (S : xSt G s nL mc ms h ls cs ss H locs LS) (hdg : decode cc pc = .ok (.anewarray i, 3)) (hok : xokI pp own ini nL (pc, mk, .anewarray i, a, b, v) = true) (hnx : xGo G p e R s m args below meth c nL mc ms Qf (pc + 3) nx) (hx : x1 (xX (gN G) (gX G)) K xal mc ms rt Q nx jp (pc, mk, .anewarray i, a, b, v) ls st h cs ss) : W p (gL G) e R s m args below meth c H locs cs ss Qf (F0 m pc LS (st.map (xcv G))) := by
  obtain ⟨hx0, hb, hml, hown, hts, hG, hso, hfr, hlo⟩ := id C
  have hO := hG.2.2.2.2.2.2.2.2.2.2.2.1
  obtain ⟨sh, Rf, M⟩ := h
  rcases st with _ | ⟨w, r⟩
  · exact False.elim hx
  cases w with
  | int n =>
    dsimp only [x1] at hx
    obtain ⟨⟨h1, h0, h6, h2, h3⟩, h4⟩ := hx
    have hrn := x_rnew S.1
    match a, hok, h4 with
    | 0, hok, _ => cases hok
    | 1, hok, h4 =>
      refine x_anewa (E := "EchoValley$Sheet") hx0 hb hown (hts _ (xisw_mem hok)) hG.2.2.1.1 hG.1 1 rfl h0 rfl h6 (by rw [hRc.1]; exact h2) (by rw [hRc.2]; exact h3) hdg (fun H1 e1 e2 e3 => ?_)
      have h5 := hnx _ _ _ _ _ H1 locs LS h4 ⟨x_repN S.1 h1 (by
        show va_at (gD G) vwCl (H.size, .inl (gS G, n.toNatClampNeg, .inr (.inr (.inr (.inr (fun j => ((if sh.length = sh.length then fun _ => none else Rf sh.length) j : Option Nat).map (xad G))))))) H1
        rw [if_pos rfl]; exact e1) e2 e3 hrn.1 hrn.2.1 (fun ci hci => by simp only at hci; omega) hrn.2.2, S.2.1, S.2.2.1, by rw [e2]; exact Nat.le_succ_of_le S.2.2.2.1, h2, h3⟩
      rw [List.map_cons, x_newref S.1 h1] at h5
      exact h5
    | 2, hok, h4 =>
      refine x_anewa (E := "java/lang/String") hx0 hb hown (hts _ (xisw_mem hok)) hG.2.2.1.2 hG.1 2 rfl h0 rfl h6 (by rw [hRc.1]; exact h2) (by rw [hRc.2]; exact h3) hdg (fun H1 e1 e2 e3 => ?_)
      have h5 := hnx _ _ _ _ _ H1 locs LS h4 ⟨x_repN S.1 h1 (by
        show va_at (gD G) vwCl (H.size, .inl (gT G, n.toNatClampNeg, .inr (.inr (.inr (.inr (fun j => ((if sh.length = sh.length then fun _ => none else Rf sh.length) j : Option Nat).map (xad G))))))) H1
        rw [if_pos rfl]; exact e1) e2 e3 hrn.1 hrn.2.1 (fun ci hci => by simp only at hci; omega) hrn.2.2, S.2.1, S.2.2.1, by rw [e2]; exact Nat.le_succ_of_le S.2.2.2.1, h2, h3⟩
      rw [List.map_cons, x_newref S.1 h1] at h5
      exact h5
    | k + 3, hok, _ => cases hok
  | _ => exact False.elim hx
theorem y_invokevirtual {i : Nat} (C : xCx G p R s m args c cc nL own) (hR : d + 2 ≤ R.frames ∧ 28 + 30 * (d + 1) ≤ R.locals ∨ ∀ a as h Q, ¬ K a as h Q) (hRc : R.cells = mc ∧ R.slots = ms) (hini : ini = true → meth.name = "<init>") (hjp : ∀ t, xGo G p e R s m args below meth c nL mc ms Qf t (jp t)) (hret : xRet G p e R s m args below meth c cc mc ms rt Qf Q) (hK : ∀ a as h Q, K a as h Q → xMt G d a as h Q) (S : xSt G s nL mc ms h ls cs ss H locs LS) (hdg : decode cc pc = .ok (.invokevirtual i, 3)) (hok : xokI pp own ini nL (pc, mk, .invokevirtual i, a, b, v) = true) (hnx : xGo G p e R s m args below meth c nL mc ms Qf (pc + 3) nx) (hx : x1 (xX (gN G) (gX G)) K xal mc ms rt Q nx jp (pc, mk, .invokevirtual i, a, b, v) ls st h cs ss) : W p (gL G) e R s m args below meth c H locs cs ss Qf (F0 m pc LS (st.map (xcv G))) := by
  obtain ⟨hx0, hb, hml, hown, hts, hG, hso, hfr, hlo⟩ := id C
  have hO := hG.2.2.2.2.2.2.2.2.2.2.2.1
  have h1 : (xcal pp own i a 1 (b - 1) && Nat.blt 0 b && xrcT v a) = true := hok
  simp only [Bool.and_eq_true, Nat.blt_eq] at h1
  obtain ⟨⟨h2, h3⟩, h4⟩ := h1
  dsimp only [x1] at hx
  split at hx
  · rename_i as r hp
    split at hx
    · rename_i hc
      simp only [Bool.and_eq_true, Nat.ble_eq] at hc
      rcases hR with hR | hR
      · exact x_callV C hR hRc S hc.2.1 hc.2.2 hnx h2 h3 h4 hc.1.2 hdg hp hc.1.1 (hK _ _ _ _ hx) rfl
      · exact absurd hx (hR _ _ _ _)
    · exact hx.elim
  · exact hx.elim
theorem y_invokespecial {i : Nat} (C : xCx G p R s m args c cc nL own) (hR : d + 2 ≤ R.frames ∧ 28 + 30 * (d + 1) ≤ R.locals ∨ ∀ a as h Q, ¬ K a as h Q) (hRc : R.cells = mc ∧ R.slots = ms) (hini : ini = true → meth.name = "<init>") (hjp : ∀ t, xGo G p e R s m args below meth c nL mc ms Qf t (jp t)) (hret : xRet G p e R s m args below meth c cc mc ms rt Qf Q) (hK : ∀ a as h Q, K a as h Q → xMt G d a as h Q) (S : xSt G s nL mc ms h ls cs ss H locs LS) (hdg : decode cc pc = .ok (.invokespecial i, 3)) (hok : xokI pp own ini nL (pc, mk, .invokespecial i, a, b, v) = true) (hnx : xGo G p e R s m args below meth c nL mc ms Qf (pc + 3) nx) (hx : x1 (xX (gN G) (gX G)) K xal mc ms rt Q nx jp (pc, mk, .invokespecial i, a, b, v) ls st h cs ss) : W p (gL G) e R s m args below meth c H locs cs ss Qf (F0 m pc LS (st.map (xcv G))) := by
  obtain ⟨hx0, hb, hml, hown, hts, hG, hso, hfr, hlo⟩ := id C
  have hO := hG.2.2.2.2.2.2.2.2.2.2.2.1
  cases h9 : Nat.beq a 999 with
  | true =>
    unfold xokI at hok
    simp only [h9] at hok
    rcases st with _ | ⟨w, r⟩
    · dsimp only [x1] at hx
      rw [h9] at hx
      exact False.elim hx
    cases w with
    | ref o =>
      dsimp only [x1] at hx
      rw [h9] at hx
      dsimp only at hx
      split at hx
      · rename_i hc
        simp only [Bool.and_eq_true, Nat.ble_eq, Nat.blt_eq] at hc
        have h5 := hnx _ _ _ _ _ _ _ _ hx S
        rw [List.map_cons, x_ref hc.2]
        exact W.objInit hx0 hb hown (hts _ (xisw_mem hok)) (hts _ x_objw.1) (hts _ x_objw.2.1) rfl (by rw [hml]; exact S.2.1.1) rfl hdg hfr (by
            have := xcat_eq hO r
            show 2 * 0 + ((r.map (xcv G)).map fun v => v.category).sum + 12 ≤ R.locals
            rw [this]; omega) h5
      · exact hx.elim
    | _ =>
      dsimp only [x1] at hx
      rw [h9] at hx
      exact False.elim hx
  | false =>
    have h1 : (xcal pp own i a 2 (b - 1) && Nat.blt 0 b) = true := by
      unfold xokI at hok
      simp only [h9] at hok
      exact hok
    simp only [Bool.and_eq_true, Nat.blt_eq] at h1
    have hx2 : (match xpop b st [] with
          | some (as, r) => match Nat.ble (xcat r) 8 && xint as && (Nat.ble (cs + (xal a).1) mc && Nat.ble (ss + (xal a).2) ms) with
            | true => K a as h (fun w h' => nx ls (xpush w r) h' (cs + (xal a).1) (ss + (xal a).2))
            | false => False
          | none => False) := by
      dsimp only [x1] at hx
      rw [h9] at hx
      exact hx
    split at hx2
    · rename_i as r hp
      split at hx2
      · rename_i hc
        simp only [Bool.and_eq_true, Nat.ble_eq] at hc
        have hrc : ∃ o ar, as = .ref o :: ar ∧ o < 1000 := by
          have h5 := hc.1.2
          unfold xint at h5
          split at h5
          · rename_i o ar
            exact ⟨o, ar, rfl, by rw [← Nat.blt_eq]; exact h5⟩
          · cases h5
        rcases hR with hR | hR
        · exact x_callI C hR hRc S hc.2.1 hc.2.2 hnx h1.1 h1.2 hdg hp hc.1.1 hrc (hK _ _ _ _ hx2) rfl
        · exact absurd hx2 (hR _ _ _ _)
      · exact hx2.elim
    · exact hx2.elim
theorem y_invokestatic {i : Nat} (C : xCx G p R s m args c cc nL own) (hR : d + 2 ≤ R.frames ∧ 28 + 30 * (d + 1) ≤ R.locals ∨ ∀ a as h Q, ¬ K a as h Q) (hRc : R.cells = mc ∧ R.slots = ms) (hini : ini = true → meth.name = "<init>") (hjp : ∀ t, xGo G p e R s m args below meth c nL mc ms Qf t (jp t)) (hret : xRet G p e R s m args below meth c cc mc ms rt Qf Q) (hK : ∀ a as h Q, K a as h Q → xMt G d a as h Q) (S : xSt G s nL mc ms h ls cs ss H locs LS) (hdg : decode cc pc = .ok (.invokestatic i, 3)) (hok : xokI pp own ini nL (pc, mk, .invokestatic i, a, b, v) = true) (hnx : xGo G p e R s m args below meth c nL mc ms Qf (pc + 3) nx) (hx : x1 (xX (gN G) (gX G)) K xal mc ms rt Q nx jp (pc, mk, .invokestatic i, a, b, v) ls st h cs ss) : W p (gL G) e R s m args below meth c H locs cs ss Qf (F0 m pc LS (st.map (xcv G))) := by
  obtain ⟨hx0, hb, hml, hown, hts, hG, hso, hfr, hlo⟩ := id C
  have hO := hG.2.2.2.2.2.2.2.2.2.2.2.1
  obtain ⟨sh, Rf, M⟩ := h
  cases h9 : Nat.beq a 998 with
  | true =>
    unfold xokI at hok
    simp only [h9] at hok
    dsimp only [x1] at hx
    rw [h9] at hx
    dsimp only at hx
    have hx2 : ∃ n dp t sp o r n0 n1, st = .int n :: .int dp :: .ref t :: .int sp :: .ref o :: r ∧ sh[o]? = some (0, n0) ∧ sh[t]? = some (0, n1) ∧ xcat r ≤ 8 ∧ (¬ sp < 0 ∧ ¬ dp < 0 ∧ ¬ n < 0 ∧ sp.toNatClampNeg + n.toNatClampNeg ≤ n0 ∧ dp.toNatClampNeg + n.toNatClampNeg ≤ n1) ∧ nx ls r (sh, Rf, xrow M t (va_cpy (M o) (M t) sp.toNatClampNeg dp.toNatClampNeg n.toNatClampNeg)) cs ss := by
      split at hx
      · rename_i n dp t sp o r sh' R' M' heq
        cases heq
        split at hx
        · rename_i n0 n1 q1 q2 q3
          exact ⟨_, _, _, _, _, _, _, _, rfl, q1, q2, by rw [← Nat.ble_eq]; exact q3, hx.1, hx.2⟩
        · exact hx.elim
      · exact hx.elim
    obtain ⟨n, dp, t, sp, o, r, n0, n1, rfl, q1, q2, q3, ⟨g1, g2, g3, g4, g5⟩, hx3⟩ := hx2
    have ha0 := (x_cell S.1 q1).1
    have ha1 := (x_cell S.1 q2).1
    rw [xce_arr] at ha0 ha1
    show W p (gL G) e R s m args below meth c H locs cs ss Qf (F0 m pc LS (.int n :: .int dp :: xcv G (.ref t) :: .int sp :: xcv G (.ref o) :: r.map (xcv G)))
    rw [x_sh S.1 q1, x_sh S.1 q2]
    refine x_copy hx0 hb (by rw [hml]; exact S.2.1.1.symm) hown (hts _ (xisw_mem hok)) (hts _ x_objw.2.2.2.1) (hts _ x_objw.2.2.2.2.1) (hts _ x_objw.2.2.2.2.2) hG.1 0 ha0 ha1 rfl g1 g2 g3 g4 g5 hfr (by
      have h1 : nativeFrameWords "java/lang/System" "arraycopy" 5 = 7 := by decide +kernel
      rw [xcat_eq hO, h1]; omega) hdg (fun H1 L e0 e1 e2 e3 => ?_)
    exact hnx _ _ _ _ _ _ _ _ hx3 ⟨x_repU S.1 q2 (by rw [xce_arr, xrow_eq]; exact e1) e2 e3 (fun _ _ => rfl) (fun i hi => xrow_ne hi) S.1.1.2, S.2.1, fun q hq => by
        rcases List.mem_append.mp hq with h1 | h1
        · exact S.2.2.1 q h1
        · rw [e0 q h1]; omega, by rw [e2]; exact S.2.2.2.1, S.2.2.2.2⟩
  | false =>
    have mm : ∀ (x y z : Int32) (r : List Value), st = .int y :: .int x :: r → xcat r ≤ 8 → nx ls (.int z :: r) (sh, Rf, M) cs ss → ((r.map (xcv G)).map fun v => v.category).sum + 13 ≤ R.locals ∧ W p (gL G) e R s m args below meth c H locs cs ss Qf (F0 m (pc + 3) LS (.int z :: r.map (xcv G))) := fun x y z r _ hc hn => ⟨by rw [xcat_eq hO]; omega, hnx _ _ _ _ _ _ _ _ hn S⟩
    cases h6 : Nat.beq a 996 with
    | true =>
      unfold xokI at hok
      simp only [h9, h6] at hok
      dsimp only [x1] at hx
      rw [h9] at hx
      dsimp only at hx
      rw [h6] at hx
      dsimp only at hx
      split at hx
      · rename_i y x r
        split at hx
        · rename_i hc
          simp only [Nat.ble_eq] at hc
          obtain ⟨m1, m2⟩ := mm x y _ r rfl hc hx
          exact va_mmax hx0 hb (by rw [hml]; exact S.2.1.1.symm) hown (hts _ (xisw_mem hok)) (hts _ x_mathw.1) (hts _ x_mathw.2.2.1) (hts _ x_mathw.2.2.2.1) hfr m1 (by rw [hRc.1]; exact S.2.2.2.2.1) (by rw [hRc.2]; exact S.2.2.2.2.2) hdg m2
        · exact hx.elim
      · exact hx.elim
    | false =>
    cases h5 : Nat.beq a 995 with
    | true =>
      unfold xokI at hok
      simp only [h9, h6, h5] at hok
      dsimp only [x1] at hx
      rw [h9] at hx
      dsimp only at hx
      rw [h6] at hx
      dsimp only at hx
      rw [h5] at hx
      dsimp only at hx
      split at hx
      · rename_i y x r
        split at hx
        · rename_i hc
          simp only [Nat.ble_eq] at hc
          obtain ⟨m1, m2⟩ := mm x y _ r rfl hc hx
          exact va_mmin hx0 hb (by rw [hml]; exact S.2.1.1.symm) hown (hts _ (xisw_mem hok)) (hts _ x_mathw.2.1) (hts _ x_mathw.2.2.1) (hts _ x_mathw.2.2.2.2) hfr m1 (by rw [hRc.1]; exact S.2.2.2.2.1) (by rw [hRc.2]; exact S.2.2.2.2.2) hdg m2
        · exact hx.elim
      · exact hx.elim
    | false =>
    cases h7 : Nat.beq a 997 with
    | true =>
      dsimp only [x1] at hx
      rw [h9] at hx
      dsimp only at hx
      rw [h6] at hx
      dsimp only at hx
      rw [h5] at hx
      dsimp only at hx
      rw [h7] at hx
      exact False.elim hx
    | false =>
    have h1 : xcal pp own i a 0 b = true := by
      unfold xokI at hok
      simp only [h9, h6, h5, h7] at hok
      exact hok
    have hx2 : (match xpop b st [] with
          | some (as, r) => match Nat.ble (xcat r) 8 && (Nat.ble (cs + (xal a).1) mc && Nat.ble (ss + (xal a).2) ms) with
            | true => K a as (sh, Rf, M) (fun w h' => nx ls (xpush w r) h' (cs + (xal a).1) (ss + (xal a).2))
            | false => False
          | none => False) := by
      dsimp only [x1] at hx
      rw [h9] at hx
      dsimp only at hx
      rw [h6] at hx
      dsimp only at hx
      rw [h5] at hx
      dsimp only at hx
      rw [h7] at hx
      exact hx
    split at hx2
    · rename_i as r hp
      split at hx2
      · rename_i hc
        simp only [Bool.and_eq_true, Nat.ble_eq] at hc
        rcases hR with hR | hR
        · exact x_callS C hR hRc S hc.2.1 hc.2.2 hnx h1 hdg hp hc.1 (hK _ _ _ _ hx2) rfl
        · exact absurd hx2 (hR _ _ _ _)
      · exact hx2.elim
    · exact hx2.elim
theorem x1_sound {ins : Instr} (C : xCx G p R s m args c cc nL own) (hR : d + 2 ≤ R.frames ∧ 28 + 30 * (d + 1) ≤ R.locals ∨ ∀ a as h Q, ¬ K a as h Q) (hRc : R.cells = mc ∧ R.slots = ms) (hini : ini = true → meth.name = "<init>") (hjp : ∀ t, xGo G p e R s m args below meth c nL mc ms Qf t (jp t)) (hret : xRet G p e R s m args below meth c cc mc ms rt Qf Q) (hK : ∀ a as h Q, K a as h Q → xMt G d a as h Q) (S : xSt G s nL mc ms h ls cs ss H locs LS) (hdg : decode cc pc = .ok (ins, xlen pc ins)) (hok : xokI pp own ini nL (pc, mk, ins, a, b, v) = true) (hnx : xGo G p e R s m args below meth c nL mc ms Qf (pc + xlen pc ins) nx) (hx : x1 (xX (gN G) (gX G)) K xal mc ms rt Q nx jp (pc, mk, ins, a, b, v) ls st h cs ss) : W p (gL G) e R s m args below meth c H locs cs ss Qf (F0 m pc LS (st.map (xcv G))) := by
  cases ins
  case iconst n => exact y_iconst C hR hRc hini hjp hret hK S hdg hok hnx hx
  case bipush n => exact y_bipush C hR hRc hini hjp hret hK S hdg hok hnx hx
  case sipush n => exact y_sipush C hR hRc hini hjp hret hK S hdg hok hnx hx
  case lconst n => exact y_lconst C hR hRc hini hjp hret hK S hdg hok hnx hx
  case ldc i => exact y_ldc C hR hRc hini hjp hret hK S hdg hok hnx hx
  case ldc_w i => exact y_ldc_w C hR hRc hini hjp hret hK S hdg hok hnx hx
  case ldc2_w i => exact y_ldc2_w C hR hRc hini hjp hret hK S hdg hok hnx hx
  case getstatic i => exact y_getstatic C hR hRc hini hjp hret hK S hdg hok hnx hx
  case iload_n k => exact y_iload_n C hR hRc hini hjp hret hK S hdg hok hnx hx
  case iload k => exact y_iload C hR hRc hini hjp hret hK S hdg hok hnx hx
  case lload_n k => exact y_lload_n C hR hRc hini hjp hret hK S hdg hok hnx hx
  case lload k => exact y_lload C hR hRc hini hjp hret hK S hdg hok hnx hx
  case aload_n k => exact y_aload_n C hR hRc hini hjp hret hK S hdg hok hnx hx
  case aload k => exact y_aload C hR hRc hini hjp hret hK S hdg hok hnx hx
  case istore_n k => exact y_istore_n C hR hRc hini hjp hret hK S hdg hok hnx hx
  case istore k => exact y_istore C hR hRc hini hjp hret hK S hdg hok hnx hx
  case lstore_n k => exact y_lstore_n C hR hRc hini hjp hret hK S hdg hok hnx hx
  case lstore k => exact y_lstore C hR hRc hini hjp hret hK S hdg hok hnx hx
  case astore_n k => exact y_astore_n C hR hRc hini hjp hret hK S hdg hok hnx hx
  case astore k => exact y_astore C hR hRc hini hjp hret hK S hdg hok hnx hx
  case iinc k n => exact y_iinc C hR hRc hini hjp hret hK S hdg hok hnx hx
  case iadd => exact y_iadd C hR hRc hini hjp hret hK S hdg hok hnx hx
  case isub => exact y_isub C hR hRc hini hjp hret hK S hdg hok hnx hx
  case imul => exact y_imul C hR hRc hini hjp hret hK S hdg hok hnx hx
  case iand => exact y_iand C hR hRc hini hjp hret hK S hdg hok hnx hx
  case ior => exact y_ior C hR hRc hini hjp hret hK S hdg hok hnx hx
  case ixor => exact y_ixor C hR hRc hini hjp hret hK S hdg hok hnx hx
  case ishl => exact y_ishl C hR hRc hini hjp hret hK S hdg hok hnx hx
  case ishr => exact y_ishr C hR hRc hini hjp hret hK S hdg hok hnx hx
  case ladd => exact y_ladd C hR hRc hini hjp hret hK S hdg hok hnx hx
  case lsub => exact y_lsub C hR hRc hini hjp hret hK S hdg hok hnx hx
  case land => exact y_land C hR hRc hini hjp hret hK S hdg hok hnx hx
  case lor => exact y_lor C hR hRc hini hjp hret hK S hdg hok hnx hx
  case iushr => exact y_iushr C hR hRc hini hjp hret hK S hdg hok hnx hx
  case lushr => exact y_lushr C hR hRc hini hjp hret hK S hdg hok hnx hx
  case lshl => exact y_lshl C hR hRc hini hjp hret hK S hdg hok hnx hx
  case lshr => exact y_lshr C hR hRc hini hjp hret hK S hdg hok hnx hx
  case i2l => exact y_i2l C hR hRc hini hjp hret hK S hdg hok hnx hx
  case l2i => exact y_l2i C hR hRc hini hjp hret hK S hdg hok hnx hx
  case i2b => exact y_i2b C hR hRc hini hjp hret hK S hdg hok hnx hx
  case i2s => exact y_i2s C hR hRc hini hjp hret hK S hdg hok hnx hx
  case i2c => exact y_i2c C hR hRc hini hjp hret hK S hdg hok hnx hx
  case idiv => exact y_idiv C hR hRc hini hjp hret hK S hdg hok hnx hx
  case irem => exact y_irem C hR hRc hini hjp hret hK S hdg hok hnx hx
  case lcmp => exact y_lcmp C hR hRc hini hjp hret hK S hdg hok hnx hx
  case dup => exact y_dup C hR hRc hini hjp hret hK S hdg hok hnx hx
  case dup2 => exact y_dup2 C hR hRc hini hjp hret hK S hdg hok hnx hx
  case pop => exact y_pop C hR hRc hini hjp hret hK S hdg hok hnx hx
  case goto o => exact y_goto C hR hRc hini hjp hret hK S hdg hok hnx hx
  case ifCond q o => exact y_ifCond C hR hRc hini hjp hret hK S hdg hok hnx hx
  case if_icmp q o => exact y_if_icmp C hR hRc hini hjp hret hK S hdg hok hnx hx
  case tableswitch df lo hi offs => exact y_tableswitch C hR hRc hini hjp hret hK S hdg hok hnx hx
  case getfield i => exact y_getfield C hR hRc hini hjp hret hK S hdg hok hnx hx
  case putfield i => exact y_putfield C hR hRc hini hjp hret hK S hdg hok hnx hx
  case iaload => exact y_iaload C hR hRc hini hjp hret hK S hdg hok hnx hx
  case baload => exact y_baload C hR hRc hini hjp hret hK S hdg hok hnx hx
  case aaload => exact y_aaload C hR hRc hini hjp hret hK S hdg hok hnx hx
  case iastore => exact y_iastore C hR hRc hini hjp hret hK S hdg hok hnx hx
  case aastore => exact y_aastore C hR hRc hini hjp hret hK S hdg hok hnx hx
  case arraylength => exact y_arraylength C hR hRc hini hjp hret hK S hdg hok hnx hx
  case new i => exact y_new C hR hRc hini hjp hret hK S hdg hok hnx hx
  case anewarray i => exact y_anewarray C hR hRc hini hjp hret hK S hdg hok hnx hx
  case invokevirtual i => exact y_invokevirtual C hR hRc hini hjp hret hK S hdg hok hnx hx
  case invokespecial i => exact y_invokespecial C hR hRc hini hjp hret hK S hdg hok hnx hx
  case invokestatic i => exact y_invokestatic C hR hRc hini hjp hret hK S hdg hok hnx hx
  case ireturn => exact y_ireturn C hR hRc hini hjp hret hK S hdg hok hnx hx
  case lreturn => exact y_lreturn C hR hRc hini hjp hret hK S hdg hok hnx hx
  case return_ => exact y_return_ C hR hRc hini hjp hret hK S hdg hok hnx hx
  case newarray t =>
    cases t
    case int => exact y_newarray C hR hRc hini hjp hret hK S hdg hok hnx hx
    all_goals exact False.elim hx
  all_goals exact False.elim hx
end XT
