/-! RUNS of the small machine are runs of the machine: contracts by number (CW), states at a loop's head (Ev). -/
theorem xokC_head {cc : ByteArray} {pp : List (Nat × Nat)} {own : String} {ini : Bool} {nL : Nat} {e : xE} {is : List xE} (h : xokC cc pp own ini nL (e :: is) = true) :
    decode cc e.1 = .ok (e.2.2.1, xlen e.1 e.2.2.1) ∧ xokI pp own ini nL e = true ∧ (∀ f is', is = f :: is' → f.1 = e.1 + xlen e.1 e.2.2.1) ∧ xokC cc pp own ini nL is = true := by
  unfold xokC at h
  simp only [Bool.and_eq_true, decide_eq_true_eq] at h
  obtain ⟨⟨⟨h1, h2⟩, h3⟩, h4⟩ := h
  refine ⟨h1, h2, fun f is' hf => ?_, h4⟩
  subst hf
  exact Nat.eq_of_beq_eq_true h3
theorem xokC_seek {cc : ByteArray} {pp : List (Nat × Nat)} {own : String} {ini : Bool} {nL t : Nat} : ∀ {code : List xE}, xokC cc pp own ini nL code = true → xokC cc pp own ini nL (xseek t code) = true
  | [], h => h
  | e :: is, h => by
    unfold xseek
    split
    · exact h
    · exact xokC_seek (xokC_head h).2.2.2
theorem xseek_head {t : Nat} : ∀ {code : List xE} (e : xE) (is : List xE), xseek t code = e :: is → e.1 = t
  | [], e, is, h => by cases h
  | f :: r, e, is, h => by
    unfold xseek at h
    split at h
    · rename_i hb
      cases h
      exact Nat.eq_of_beq_eq_true hb
    · exact xseek_head (code := r) e is h
section XU
variable {G : xG} {p : Program} {e : Env} {R : Room} {s : State} {m : MethodId} {args : Array Value} {below : List Frame} {meth : Method} {c : Code} {cc : ByteArray} {nL mc ms rt : Nat} {own : String} {Qf : State → Prop}
variable {d : Nat} {pp : List (Nat × Nat)} {ini : Bool} {Q : Option Value → xH → Prop} {K : Nat → List Value → xH → (Option Value → xH → Prop) → Prop} {back : Nat → xL → List Value → xH → Nat → Nat → Prop} {code : List xE}
theorem x_run (C : xCx G p R s m args c cc nL own) (hR : d + 2 ≤ R.frames ∧ 28 + 30 * (d + 1) ≤ R.locals ∨ ∀ a as h Q, ¬ K a as h Q) (hRc : R.cells = mc ∧ R.slots = ms) (hini : ini = true → meth.name = "<init>") (hret : xRet G p e R s m args below meth c cc mc ms rt Qf Q) (hK : ∀ a as h Q, K a as h Q → xMt G d a as h Q) (hcode : xokC cc pp own ini nL code = true) (hback : ∀ t, xGo G p e R s m args below meth c nL mc ms Qf t (back t)) :
    ∀ (k : Nat) (start : Bool) (is : List xE) (pc : Nat), xokC cc pp own ini nL is = true → (∀ f is', is = f :: is' → f.1 = pc) → xGo G p e R s m args below meth c nL mc ms Qf pc (fun ls st h cs ss => wpI (xX (gN G) (gX G)) K xal mc ms rt Q back code k start is ls st h cs ss) := by
  intro k
  induction k with
  | zero => intro start is pc _ _ ls st h cs ss H locs LS hx S; exact False.elim hx
  | succ k ih =>
    intro start is pc hok hpc ls st h cs ss H locs LS hx S
    cases is with
    | nil => exact False.elim hx
    | cons f is =>
      have hf := hpc f is rfl
      obtain ⟨h1, h2, h3, h4⟩ := xokC_head hok
      obtain ⟨pc', mk, ins, a, b, v⟩ := f
      simp only at hf h1 h3
      subst hf
      have hgo : x1 (xX (gN G) (gX G)) K xal mc ms rt Q (fun ls st h cs ss => wpI (xX (gN G) (gX G)) K xal mc ms rt Q back code k false is ls st h cs ss) (fun t ls st h cs ss => wpI (xX (gN G) (gX G)) K xal mc ms rt Q back code k false (xseek t code) ls st h cs ss) (pc', mk, ins, a, b, v) ls st h cs ss → W p (gL G) e R s m args below meth c H locs cs ss Qf (F0 m pc' LS (st.map (xcv G))) := fun hx =>
        x1_sound C hR hRc hini (fun t => ih false (xseek t code) t (xokC_seek hcode) (fun f is' hh => xseek_head f is' hh)) hret hK S h1 h2 (ih false is _ h4 h3) hx
      cases start with
      | true => exact hgo hx
      | false =>
        cases mk with
        | nil => exact hgo hx
        | cons b0 mk => exact hback pc' _ _ _ _ _ _ _ _ hx ⟨S.1, x_mask S.2.1, S.2.2⟩
end XU
/-- the entry's slots -/
def xent : List Value → xL
  | [] => []
  | .long x :: vs => some (.long x) :: none :: xent vs
  | .double x :: vs => some (.double x) :: none :: xent vs
  | v :: vs => some v :: xent vs
def xpad : Nat → xL → xL
  | 0, _ => []
  | n + 1, [] => none :: xpad n []
  | n + 1, v :: l => v :: xpad n l
theorem xget_nil (i : Nat) : xget [] i = none := by cases i <;> rfl
theorem xget_pad : ∀ {n : Nat} {l : xL} {i : Nat} {v : Value}, xget (xpad n l) i = some v → xget l i = some v
  | 0, l, i, v, h => by rw [show xpad 0 l = [] from rfl, xget_nil] at h; cases h
  | n + 1, [], 0, v, h => by cases h
  | n + 1, [], i + 1, v, h => by
    have := xget_pad (n := n) (l := []) (i := i) (v := v) h
    rw [xget_nil] at this; cases this
  | n + 1, w :: l, 0, v, h => h
  | n + 1, w :: l, i + 1, v, h => xget_pad (n := n) (l := l) (i := i) (v := v) h
theorem xent_args {G : xG} (hO : xOk1 (gO G)) : ∀ (vs : List Value) (k i : Nat) (v : Value), xget (xent vs) i = some v → (k + i, xcv G v) ∈ lv_args k (vs.map (xcv G))
  | [], k, i, v, h => by rw [show xent [] = [] from rfl, xget_nil] at h; cases h
  | w :: vs, k, i, v, h => by
    have hc := xcv_cat hO w
    have one : w.category = 1 → xent (w :: vs) = some w :: xent vs := by cases w <;> first | (intro _; rfl) | (intro h; simp [Value.category] at h)
    have two : w.category = 2 → xent (w :: vs) = some w :: none :: xent vs := by cases w <;> first | (intro _; rfl) | (intro h; simp [Value.category] at h)
    rw [List.map_cons]
    unfold lv_args
    rcases lv_cat w with h1 | h1
    · rw [one h1] at h
      cases i with
      | zero =>
        cases h
        exact List.mem_cons_self
      | succ i =>
        have ih := xent_args hO vs (k + 1) i v h
        refine List.mem_cons_of_mem _ ?_
        rw [hc, h1]
        have e : k + 1 + i = k + (i + 1) := by omega
        rw [e] at ih
        exact ih
    · rw [two h1] at h
      match i, h with
      | 0, h => cases h; exact List.mem_cons_self
      | 1, h => cases h
      | i + 2, h =>
        have ih := xent_args hO vs (k + 2) i v h
        refine List.mem_cons_of_mem _ ?_
        rw [hc, h1]
        have e : k + 2 + i = k + (i + 2) := by omega
        rw [e] at ih
        exact ih
theorem x_entry {G : xG} (hO : xOk1 (gO G)) {LS : Array Slot} {n : Nat} {vs : List Value} (h : lv_has LS n (lv_args 0 (vs.map (xcv G)))) : lv_has LS n (xprs G (xpad n (xent vs))) :=
  ⟨h.1, h.2.1, fun q hq => by
    obtain ⟨v, h1, h2⟩ := mem_xprs.mp hq
    have h3 := xent_args hO vs 0 q.1 v (xget_pad h1)
    rw [Nat.zero_add, ← h2] at h3
    exact h.2.2 q h3⟩
theorem x_sl {G : xG} (hO : xOk1 (gO G)) : ∀ vs : List Value, (lg_sl (vs.map (xcv G))).length = (xent vs).length
  | [] => rfl
  | v :: vs => by
    have ih := x_sl hO vs
    have hc := xcv_cat hO v
    unfold lg_sl at ih ⊢
    rw [List.map_cons, List.flatMap_cons, List.length_append, ih, hc]
    cases v <;> simp [Value.category, xent] <;> omega
/-- a method's number, its code, the kind of its answer, its slots: as the tables have them -/
def xMf (j : Nat) (code : List xE) (rt nL : Nat) : Prop := ∃ (y : MethodName) (bytes : ByteArray) (ret : Option FieldType) (pp : List (Nat × Nat)) (ini : Bool), xT[j]? = some (y, bytes, nL, ret) ∧ xokC bytes pp y.cls ini nL code = true ∧ (ini = true → y.name = "<init>") ∧ ret = xrt rt ∧ plainName y.cls = true
def xEvs (G : xG) (d j pc : Nat) (ls : xL) (st : List Value) (h : xH) (cs ss : Nat) (Q : Option Value → xH → Prop) : Prop :=
  ∀ (y : MethodName) (bytes : ByteArray) (nL : Nat) (ret : Option FieldType), xT[j]? = some (y, bytes, nL, ret) →
  ∀ (p : Program) (e : Env) (s : State) (m : MethodId) (args : Array Value) (below : List Frame) (meth : Method) (c : Code), xCx G p (xrm d j) s m args c bytes nL y.cls → meth.sig.returnType = ret → meth.locks = false → meth.name = y.name →
  ∀ (H : Heap) (locs : List Loc) (LS : Array Slot), xSt G s nL (xal j).1 (xal j).2 h ls cs ss H locs LS → W p (gL G) e (xrm d j) s m args below meth c H locs cs ss (MQ below (xQc G Q) args s (xal j).1 (xal j).2 (xA G)) (F0 m pc LS (st.map (xcv G)))
theorem Ev_x : ∃ F : xG → Nat → Nat → Nat → xL → List Value → xH → Nat → Nat → (Option Value → xH → Prop) → Prop, F = xEvs := ⟨_, rfl⟩
noncomputable def Ev : xG → Nat → Nat → Nat → xL → List Value → xH → Nat → Nat → (Option Value → xH → Prop) → Prop := Classical.choose Ev_x
theorem Ev_eq : Ev = xEvs := Classical.choose_spec Ev_x
theorem CW_x : ∃ F : xG → Nat → Nat → List Value → xH → (Option Value → xH → Prop) → Prop, F = xMt := ⟨_, rfl⟩
noncomputable def CW : xG → Nat → Nat → List Value → xH → (Option Value → xH → Prop) → Prop := Classical.choose CW_x
theorem CW_eq : CW = xMt := Classical.choose_spec CW_x
def xK (G : xG) : Nat → Nat → List Value → xH → (Option Value → xH → Prop) → Prop
  | 0 => fun _ _ _ _ => False
  | d + 1 => CW G d
theorem x_retN {G : xG} {p : Program} {e : Env} {R : Room} {s : State} {m : MethodId} {args : Array Value} {below : List Frame} {meth : Method} {c : Code} {cc : ByteArray} {mc ms rt : Nat} {Q : Option Value → xH → Prop} (hx : p.tables.exec = Jvm.exec) (hb : c.code = cc) (hr : meth.sig.returnType = xrt rt) (hlocks : meth.locks = false) : xRet G p e R s m args below meth c cc mc ms rt (MQ below (xQc G Q) args s mc ms (xA G)) Q := by
  intro w h H locs cs ss pc LS ins hQ hrep hl hz hc hs hok hdg
  refine W.widen (k := mc) (n := ms) hc hs ?_
  rcases hok with ⟨rfl, x, ty, rfl, h1, h2⟩ | ⟨rfl, h1, x, rfl⟩ | ⟨rfl, h1, rfl⟩
  · exact W.zret hx hb (hr.trans h1) h2 (fun t ht _ => ⟨by rw [ht]; exact hz, some (.int x), h, rfl, hQ, by rw [ht]; exact hrep⟩) hl hdg hlocks
  · exact W.lret hx hb (hr.trans h1) (fun t ht _ => ⟨by rw [ht]; exact hz, some (.long x), h, rfl, hQ, by rw [ht]; exact hrep⟩) hl hdg hlocks
  · exact W.vret hx hb (hr.trans h1) (fun t ht _ => ⟨by rw [ht]; exact hz, none, h, rfl, hQ, by rw [ht]; exact hrep⟩) hl hdg hlocks
/-- from here to the next loop's head, call or end -/
theorem Ev_wp {G : xG} {d j pc mc ms : Nat} {code : List xE} {rt nL : Nat} (hf : xMf j code rt nL) (hal : xal j = (mc, ms)) {ls : xL} {st : List Value} {h : xH} {cs ss : Nat} {Q : Option Value → xH → Prop}
    (hw : wpI (xX (gN G) (gX G)) (xK G d) xal mc ms rt Q (fun pc ls st h cs ss => Ev G d j pc ls st h cs ss Q) code 400 true (xseek pc code) ls st h cs ss) : Ev G d j pc ls st h cs ss Q := by
  rw [Ev_eq] at hw ⊢
  obtain ⟨y, bytes, ret, pp, ini, hT, hok, hin, hret, hpl⟩ := hf
  intro y' bytes' nL' ret' hT' p e s m args below meth c C hr hlocks hnm H locs LS S
  cases hT.symm.trans hT'
  have hal1 : (xal j).1 = mc := by rw [hal]
  have hal2 : (xal j).2 = ms := by rw [hal]
  rw [hal1, hal2] at S ⊢
  have hrt := x_retN (G := G) (e := e) (R := xrm d j) (s := s) (m := m) (args := args) (below := below) (mc := mc) (ms := ms) (Q := Q) C.1 C.2.1 (hr.trans hret) hlocks
  have hback : ∀ t, xGo G p e (xrm d j) s m args below meth c nL mc ms (MQ below (xQc G Q) args s mc ms (xA G)) t (fun ls st h cs ss => xEvs G d j t ls st h cs ss Q) := fun t ls st h cs ss H locs LS hE S => by
    have h1 := hE y bytes nL ret hT p e s m args below meth c C hr hlocks hnm H locs LS (by rw [hal1, hal2]; exact S)
    rw [hal1, hal2] at h1
    exact h1
  cases d with
  | zero => exact x_run (d := 0) C (Or.inr (fun a as h Q hk => hk)) ⟨hal1, hal2⟩ (fun z => by rw [hnm]; exact hin z) hrt (fun a as h Q hk => hk.elim) hok hback 400 true (xseek pc code) pc (xokC_seek hok) (fun f is' hh => xseek_head f is' hh) _ _ _ _ _ _ _ _ hw S
  | succ d => exact x_run (d := d) C (Or.inl ⟨by show d + 2 ≤ d + 1 + 1; omega, by show 28 + 30 * (d + 1) ≤ 30 * (d + 1 + 1); omega⟩) ⟨hal1, hal2⟩ (fun z => by rw [hnm]; exact hin z) hrt (fun a as h Q hk => by rw [← CW_eq]; exact hk) hok hback 400 true (xseek pc code) pc (xokC_seek hok) (fun f is' hh => xseek_head f is' hh) _ _ _ _ _ _ _ _ hw S
/-- a contract from the method's entry -/
theorem CW_ev {G : xG} {d j : Nat} {code : List xE} {rt nL : Nat} (hf : xMf j code rt nL) {vs : List Value} {ls : xL} (hls : xpad nL (xent vs) = ls) (hlen : Nat.ble (xent vs).length nL = true) {h : xH} {Q : Option Value → xH → Prop} (hw : Ev G d j 0 ls [] h 0 0 Q) : CW G d j vs h Q := by
  rw [CW_eq]
  rw [Ev_eq] at hw
  obtain ⟨y, bytes, ret, pp, ini, hT, hok, hin, hret, hpl⟩ := hf
  refine ⟨y, bytes, nL, ret, hT, ?_⟩
  refine Met.ofW (cc := bytes) (maxL := nL) (ret := ret) hpl rfl ?_
  intro p e s m args below meth c s₁ B hml hv
  obtain ⟨rfl, hG, hrep⟩ := hv
  have hx := B.exec
  have hb := B.bytes
  have hr := B.returns
  have hts := atoms_spec (ws := Cond.code y bytes nL ret :: xGood) B.pre
  have hown : s.vm.findClass y.cls = some m.cls := findClass_of_methodNamed B.named
  have hlocks := B.notSynchronized
  have hnm : meth.name = y.name := (name_of_methodNamed B.named B.method).1
  have hO := hG.2.2.2.2.2.2.2.2.2.2.2.1
  have hl := lv_entry (vs.map (xcv G)) (n := nL) (by rw [x_sl hO]; rw [← Nat.ble_eq]; exact hlen)
  rw [lg_entry_eq]
  generalize (lg_sl (vs.map (xcv G)) ++ List.replicate (nL - (lg_sl (vs.map (xcv G))).length) Slot.unset).toArray = LS at hl ⊢
  have hz := hrep.2.1
  exact hw y bytes nL ret hT p e s m _ below meth c ⟨hx, hb, hml, hown, fun w hw => hts w (List.mem_cons_of_mem _ hw), hG, ⟨by omega, hrep.2.2.2.2⟩, by show 1 ≤ d + 1; omega, by show 30 ≤ 30 * (d + 1); omega⟩ hr hlocks hnm s.heap [] LS ⟨hrep, (by rw [← hls]; exact x_entry hO hl), (fun q hq => absurd hq List.not_mem_nil), Nat.le_refl _, Nat.zero_le _, Nat.zero_le _⟩
/-- the same, from the entry to the first loop's head, call or end -/
theorem CW_wp {G : xG} {d j mc ms : Nat} {code : List xE} {rt nL : Nat} (hf : xMf j code rt nL) (hal : xal j = (mc, ms)) {vs : List Value} {ls : xL} (hls : xpad nL (xent vs) = ls) (hlen : Nat.ble (xent vs).length nL = true) {h : xH} {Q : Option Value → xH → Prop}
    (hw : wpI (xX (gN G) (gX G)) (xK G d) xal mc ms rt Q (fun pc ls st h cs ss => Ev G d j pc ls st h cs ss Q) code 400 true (xseek 0 code) ls [] h 0 0) : CW G d j vs h Q := CW_ev hf hls hlen (Ev_wp hf hal hw)
