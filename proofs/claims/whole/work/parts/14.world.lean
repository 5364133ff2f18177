theorem x_eqR {args : Array Value} {s : State} {t u : Term} {a : Nat} (h : (Cond.eq t u).before args s = true) (ht : t.eval args s none [] s = some (.ref a)) : u.eval args s none [] s = some (.ref a) := by
  cases hu : u.eval args s none [] s with
  | none => simp [Cond.before, Cond.holds, Cond.value, ht, hu] at h
  | some w =>
    simp only [Cond.before, Cond.holds, Cond.value, ht, hu] at h
    cases w <;> simp_all
theorem x_str1 {args : Array Value} {s : State} {t : Term} {n : Nat} {f : Nat → Int32} {A : Nat → Prop} (hn : n < 2 ^ 31) (hex : (Cond.exactly t "java/lang/String").before args s = true) (hco : (Cond.eq (.field t "java/lang/String" "coder" "B") (.int 0)).before args s = true)
    (har : (Cond.arrayOf (.field t "java/lang/String" "value" "[B") .byte).before args s = true) (hle : (Cond.eq (.length (.field t "java/lang/String" "value" "[B")) (.int (Int32.ofNat n))).before args s = true) (hel : ∀ j : Nat, j < n → (Cond.eq (.elem (.field t "java/lang/String" "value" "[B") (.int (Int32.ofNat j))) (.int (f j))).before args s = true) (hA : ∀ a : Nat, a < s.heap.size → ¬ A a) :
    ∃ a v : Nat, t.eval args s none [] s = some (.ref a) ∧ va_O "java/lang/String" a A s s.heap ∧ va_OF "java/lang/String" "coder" "B" (.int 0) a A s s.heap ∧ va_OF "java/lang/String" "value" "[B" (.ref v) a A s s.heap ∧ va_T .byte v n (fun j => .int (f j)) A s s.heap := by
  obtain ⟨a, c, cA, kA, q1, q2, q3, q4, q5, q6, -⟩ := Cond.exactly_spec (args := args) (first := s) (o := none) (s := s) (idx := []) (t := t) (cls := "java/lang/String") hex
  obtain ⟨v, ht, hT⟩ := va_Tof (f := fun j => .int (f j)) (A := A) hn har (va_eqt hle) (fun j hj => va_eqt (hel j hj)) hA
  exact ⟨a, v, q1, ⟨cA, q3, q5, by rw [q6]; exact q2, hA a (Array.getElem?_eq_some_iff.mp q3).1⟩, vk_OFof q1 (va_eqt hco) hA, vk_OFof q1 ht hA, hT⟩
def xRk : List Nat := [35, 44, 96, 98, 49, 54, 125, 132, 134, 136, 138, 140, 142, 114, 116]
def xMk : List Nat := [239, 248, 260, 266, 253, 255, 33, 35, 36, 38, 40, 42, 44, 262, 264]
def xSf (i : Nat) (q : Nat × Nat) (A : Nat → Prop) (args : Array Value) (s : State) : Prop := (Term.string "EchoValley$Reader" (xnth 0 xRk i)).eval args s none [] s = some (.ref q.1) ∧ (Term.string "EchoValleyModel" (xnth 0 xMk i)).eval args s none [] s = some (.ref q.1) ∧ va_O "java/lang/String" q.1 A s s.heap ∧ va_OF "java/lang/String" "coder" "B" (.int 0) q.1 A s s.heap ∧ va_OF "java/lang/String" "value" "[B" (.ref q.2) q.1 A s s.heap ∧ va_T .byte q.2 (xslen i) (fun j => .int (xsbyt i j)) A s s.heap
set_option maxRecDepth 100000 in
theorem x_str_0 {args : Array Value} {s : State} {A : Nat → Prop} (hs : ∀ c ∈ flatC (Jvm.Cond.and given_1 narrow_1), c.before args s = true) (hA : ∀ a : Nat, a < s.heap.size → ¬ A a) : ∃ q, xSf 0 q A args s := by
  obtain ⟨a, v, h1, h2⟩ := x_str1 (n := 3) (f := xsbyt 0) (A := A) (t := (Term.string "EchoValley$Reader" 35)) (by decide) (hs _ (by decide +kernel)) (hs _ (by decide +kernel)) (hs _ (by decide +kernel)) (hs _ (by decide +kernel)) (fun j hj => by
    match j, hj with
    | 0, _ => exact hs _ (by decide +kernel)
    | 1, _ => exact hs _ (by decide +kernel)
    | 2, _ => exact hs _ (by decide +kernel)
    | j + 3, hj => exact absurd hj (by omega)) hA
  exact ⟨(a, v), h1, x_eqR (hs (.eq (Term.string "EchoValley$Reader" 35) (.string "EchoValleyModel" 239)) (by decide +kernel)) h1, h2⟩
set_option maxRecDepth 100000 in
theorem x_str_1 {args : Array Value} {s : State} {A : Nat → Prop} (hs : ∀ c ∈ flatC (Jvm.Cond.and given_1 narrow_1), c.before args s = true) (hA : ∀ a : Nat, a < s.heap.size → ¬ A a) : ∃ q, xSf 1 q A args s := by
  obtain ⟨a, v, h1, h2⟩ := x_str1 (n := 6) (f := xsbyt 1) (A := A) (t := (Term.string "EchoValley$Reader" 44)) (by decide) (hs _ (by decide +kernel)) (hs _ (by decide +kernel)) (hs _ (by decide +kernel)) (hs _ (by decide +kernel)) (fun j hj => by
    match j, hj with
    | 0, _ => exact hs _ (by decide +kernel)
    | 1, _ => exact hs _ (by decide +kernel)
    | 2, _ => exact hs _ (by decide +kernel)
    | 3, _ => exact hs _ (by decide +kernel)
    | 4, _ => exact hs _ (by decide +kernel)
    | 5, _ => exact hs _ (by decide +kernel)
    | j + 6, hj => exact absurd hj (by omega)) hA
  exact ⟨(a, v), h1, x_eqR (hs (.eq (Term.string "EchoValley$Reader" 44) (.string "EchoValleyModel" 248)) (by decide +kernel)) h1, h2⟩
set_option maxRecDepth 100000 in
theorem x_str_2 {args : Array Value} {s : State} {A : Nat → Prop} (hs : ∀ c ∈ flatC (Jvm.Cond.and given_1 narrow_1), c.before args s = true) (hA : ∀ a : Nat, a < s.heap.size → ¬ A a) : ∃ q, xSf 2 q A args s := by
  obtain ⟨a, v, h1, h2⟩ := x_str1 (n := 2) (f := xsbyt 2) (A := A) (t := (Term.string "EchoValley$Reader" 96)) (by decide) (hs _ (by decide +kernel)) (hs _ (by decide +kernel)) (hs _ (by decide +kernel)) (hs _ (by decide +kernel)) (fun j hj => by
    match j, hj with
    | 0, _ => exact hs _ (by decide +kernel)
    | 1, _ => exact hs _ (by decide +kernel)
    | j + 2, hj => exact absurd hj (by omega)) hA
  exact ⟨(a, v), h1, x_eqR (hs (.eq (Term.string "EchoValley$Reader" 96) (.string "EchoValleyModel" 260)) (by decide +kernel)) h1, h2⟩
set_option maxRecDepth 100000 in
theorem x_str_3 {args : Array Value} {s : State} {A : Nat → Prop} (hs : ∀ c ∈ flatC (Jvm.Cond.and given_1 narrow_1), c.before args s = true) (hA : ∀ a : Nat, a < s.heap.size → ¬ A a) : ∃ q, xSf 3 q A args s := by
  obtain ⟨a, v, h1, h2⟩ := x_str1 (n := 5) (f := xsbyt 3) (A := A) (t := (Term.string "EchoValley$Reader" 98)) (by decide) (hs _ (by decide +kernel)) (hs _ (by decide +kernel)) (hs _ (by decide +kernel)) (hs _ (by decide +kernel)) (fun j hj => by
    match j, hj with
    | 0, _ => exact hs _ (by decide +kernel)
    | 1, _ => exact hs _ (by decide +kernel)
    | 2, _ => exact hs _ (by decide +kernel)
    | 3, _ => exact hs _ (by decide +kernel)
    | 4, _ => exact hs _ (by decide +kernel)
    | j + 5, hj => exact absurd hj (by omega)) hA
  exact ⟨(a, v), h1, x_eqR (hs (.eq (Term.string "EchoValley$Reader" 98) (.string "EchoValleyModel" 266)) (by decide +kernel)) h1, h2⟩
set_option maxRecDepth 100000 in
theorem x_str_4 {args : Array Value} {s : State} {A : Nat → Prop} (hs : ∀ c ∈ flatC (Jvm.Cond.and given_1 narrow_1), c.before args s = true) (hA : ∀ a : Nat, a < s.heap.size → ¬ A a) : ∃ q, xSf 4 q A args s := by
  obtain ⟨a, v, h1, h2⟩ := x_str1 (n := 4) (f := xsbyt 4) (A := A) (t := (Term.string "EchoValley$Reader" 49)) (by decide) (hs _ (by decide +kernel)) (hs _ (by decide +kernel)) (hs _ (by decide +kernel)) (hs _ (by decide +kernel)) (fun j hj => by
    match j, hj with
    | 0, _ => exact hs _ (by decide +kernel)
    | 1, _ => exact hs _ (by decide +kernel)
    | 2, _ => exact hs _ (by decide +kernel)
    | 3, _ => exact hs _ (by decide +kernel)
    | j + 4, hj => exact absurd hj (by omega)) hA
  exact ⟨(a, v), h1, x_eqR (hs (.eq (Term.string "EchoValley$Reader" 49) (.string "EchoValleyModel" 253)) (by decide +kernel)) h1, h2⟩
set_option maxRecDepth 100000 in
theorem x_str_5 {args : Array Value} {s : State} {A : Nat → Prop} (hs : ∀ c ∈ flatC (Jvm.Cond.and given_1 narrow_1), c.before args s = true) (hA : ∀ a : Nat, a < s.heap.size → ¬ A a) : ∃ q, xSf 5 q A args s := by
  obtain ⟨a, v, h1, h2⟩ := x_str1 (n := 4) (f := xsbyt 5) (A := A) (t := (Term.string "EchoValley$Reader" 54)) (by decide) (hs _ (by decide +kernel)) (hs _ (by decide +kernel)) (hs _ (by decide +kernel)) (hs _ (by decide +kernel)) (fun j hj => by
    match j, hj with
    | 0, _ => exact hs _ (by decide +kernel)
    | 1, _ => exact hs _ (by decide +kernel)
    | 2, _ => exact hs _ (by decide +kernel)
    | 3, _ => exact hs _ (by decide +kernel)
    | j + 4, hj => exact absurd hj (by omega)) hA
  exact ⟨(a, v), h1, x_eqR (hs (.eq (Term.string "EchoValley$Reader" 54) (.string "EchoValleyModel" 255)) (by decide +kernel)) h1, h2⟩
set_option maxRecDepth 100000 in
theorem x_str_6 {args : Array Value} {s : State} {A : Nat → Prop} (hs : ∀ c ∈ flatC (Jvm.Cond.and given_1 narrow_1), c.before args s = true) (hA : ∀ a : Nat, a < s.heap.size → ¬ A a) : ∃ q, xSf 6 q A args s := by
  obtain ⟨a, v, h1, h2⟩ := x_str1 (n := 4) (f := xsbyt 6) (A := A) (t := (Term.string "EchoValley$Reader" 125)) (by decide) (hs _ (by decide +kernel)) (hs _ (by decide +kernel)) (hs _ (by decide +kernel)) (hs _ (by decide +kernel)) (fun j hj => by
    match j, hj with
    | 0, _ => exact hs _ (by decide +kernel)
    | 1, _ => exact hs _ (by decide +kernel)
    | 2, _ => exact hs _ (by decide +kernel)
    | 3, _ => exact hs _ (by decide +kernel)
    | j + 4, hj => exact absurd hj (by omega)) hA
  exact ⟨(a, v), h1, x_eqR (hs (.eq (Term.string "EchoValley$Reader" 125) (.string "EchoValleyModel" 33)) (by decide +kernel)) h1, h2⟩
set_option maxRecDepth 100000 in
theorem x_str_7 {args : Array Value} {s : State} {A : Nat → Prop} (hs : ∀ c ∈ flatC (Jvm.Cond.and given_1 narrow_1), c.before args s = true) (hA : ∀ a : Nat, a < s.heap.size → ¬ A a) : ∃ q, xSf 7 q A args s := by
  obtain ⟨a, v, h1, h2⟩ := x_str1 (n := 4) (f := xsbyt 7) (A := A) (t := (Term.string "EchoValley$Reader" 132)) (by decide) (hs _ (by decide +kernel)) (hs _ (by decide +kernel)) (hs _ (by decide +kernel)) (hs _ (by decide +kernel)) (fun j hj => by
    match j, hj with
    | 0, _ => exact hs _ (by decide +kernel)
    | 1, _ => exact hs _ (by decide +kernel)
    | 2, _ => exact hs _ (by decide +kernel)
    | 3, _ => exact hs _ (by decide +kernel)
    | j + 4, hj => exact absurd hj (by omega)) hA
  exact ⟨(a, v), h1, x_eqR (hs (.eq (Term.string "EchoValley$Reader" 132) (.string "EchoValleyModel" 35)) (by decide +kernel)) h1, h2⟩
set_option maxRecDepth 100000 in
theorem x_str_8 {args : Array Value} {s : State} {A : Nat → Prop} (hs : ∀ c ∈ flatC (Jvm.Cond.and given_1 narrow_1), c.before args s = true) (hA : ∀ a : Nat, a < s.heap.size → ¬ A a) : ∃ q, xSf 8 q A args s := by
  obtain ⟨a, v, h1, h2⟩ := x_str1 (n := 3) (f := xsbyt 8) (A := A) (t := (Term.string "EchoValley$Reader" 134)) (by decide) (hs _ (by decide +kernel)) (hs _ (by decide +kernel)) (hs _ (by decide +kernel)) (hs _ (by decide +kernel)) (fun j hj => by
    match j, hj with
    | 0, _ => exact hs _ (by decide +kernel)
    | 1, _ => exact hs _ (by decide +kernel)
    | 2, _ => exact hs _ (by decide +kernel)
    | j + 3, hj => exact absurd hj (by omega)) hA
  exact ⟨(a, v), h1, x_eqR (hs (.eq (Term.string "EchoValley$Reader" 134) (.string "EchoValleyModel" 36)) (by decide +kernel)) h1, h2⟩
set_option maxRecDepth 100000 in
theorem x_str_9 {args : Array Value} {s : State} {A : Nat → Prop} (hs : ∀ c ∈ flatC (Jvm.Cond.and given_1 narrow_1), c.before args s = true) (hA : ∀ a : Nat, a < s.heap.size → ¬ A a) : ∃ q, xSf 9 q A args s := by
  obtain ⟨a, v, h1, h2⟩ := x_str1 (n := 4) (f := xsbyt 9) (A := A) (t := (Term.string "EchoValley$Reader" 136)) (by decide) (hs _ (by decide +kernel)) (hs _ (by decide +kernel)) (hs _ (by decide +kernel)) (hs _ (by decide +kernel)) (fun j hj => by
    match j, hj with
    | 0, _ => exact hs _ (by decide +kernel)
    | 1, _ => exact hs _ (by decide +kernel)
    | 2, _ => exact hs _ (by decide +kernel)
    | 3, _ => exact hs _ (by decide +kernel)
    | j + 4, hj => exact absurd hj (by omega)) hA
  exact ⟨(a, v), h1, x_eqR (hs (.eq (Term.string "EchoValley$Reader" 136) (.string "EchoValleyModel" 38)) (by decide +kernel)) h1, h2⟩
set_option maxRecDepth 100000 in
theorem x_str_10 {args : Array Value} {s : State} {A : Nat → Prop} (hs : ∀ c ∈ flatC (Jvm.Cond.and given_1 narrow_1), c.before args s = true) (hA : ∀ a : Nat, a < s.heap.size → ¬ A a) : ∃ q, xSf 10 q A args s := by
  obtain ⟨a, v, h1, h2⟩ := x_str1 (n := 7) (f := xsbyt 10) (A := A) (t := (Term.string "EchoValley$Reader" 138)) (by decide) (hs _ (by decide +kernel)) (hs _ (by decide +kernel)) (hs _ (by decide +kernel)) (hs _ (by decide +kernel)) (fun j hj => by
    match j, hj with
    | 0, _ => exact hs _ (by decide +kernel)
    | 1, _ => exact hs _ (by decide +kernel)
    | 2, _ => exact hs _ (by decide +kernel)
    | 3, _ => exact hs _ (by decide +kernel)
    | 4, _ => exact hs _ (by decide +kernel)
    | 5, _ => exact hs _ (by decide +kernel)
    | 6, _ => exact hs _ (by decide +kernel)
    | j + 7, hj => exact absurd hj (by omega)) hA
  exact ⟨(a, v), h1, x_eqR (hs (.eq (Term.string "EchoValley$Reader" 138) (.string "EchoValleyModel" 40)) (by decide +kernel)) h1, h2⟩
set_option maxRecDepth 100000 in
theorem x_str_11 {args : Array Value} {s : State} {A : Nat → Prop} (hs : ∀ c ∈ flatC (Jvm.Cond.and given_1 narrow_1), c.before args s = true) (hA : ∀ a : Nat, a < s.heap.size → ¬ A a) : ∃ q, xSf 11 q A args s := by
  obtain ⟨a, v, h1, h2⟩ := x_str1 (n := 6) (f := xsbyt 11) (A := A) (t := (Term.string "EchoValley$Reader" 140)) (by decide) (hs _ (by decide +kernel)) (hs _ (by decide +kernel)) (hs _ (by decide +kernel)) (hs _ (by decide +kernel)) (fun j hj => by
    match j, hj with
    | 0, _ => exact hs _ (by decide +kernel)
    | 1, _ => exact hs _ (by decide +kernel)
    | 2, _ => exact hs _ (by decide +kernel)
    | 3, _ => exact hs _ (by decide +kernel)
    | 4, _ => exact hs _ (by decide +kernel)
    | 5, _ => exact hs _ (by decide +kernel)
    | j + 6, hj => exact absurd hj (by omega)) hA
  exact ⟨(a, v), h1, x_eqR (hs (.eq (Term.string "EchoValley$Reader" 140) (.string "EchoValleyModel" 42)) (by decide +kernel)) h1, h2⟩
set_option maxRecDepth 100000 in
theorem x_str_12 {args : Array Value} {s : State} {A : Nat → Prop} (hs : ∀ c ∈ flatC (Jvm.Cond.and given_1 narrow_1), c.before args s = true) (hA : ∀ a : Nat, a < s.heap.size → ¬ A a) : ∃ q, xSf 12 q A args s := by
  obtain ⟨a, v, h1, h2⟩ := x_str1 (n := 6) (f := xsbyt 12) (A := A) (t := (Term.string "EchoValley$Reader" 142)) (by decide) (hs _ (by decide +kernel)) (hs _ (by decide +kernel)) (hs _ (by decide +kernel)) (hs _ (by decide +kernel)) (fun j hj => by
    match j, hj with
    | 0, _ => exact hs _ (by decide +kernel)
    | 1, _ => exact hs _ (by decide +kernel)
    | 2, _ => exact hs _ (by decide +kernel)
    | 3, _ => exact hs _ (by decide +kernel)
    | 4, _ => exact hs _ (by decide +kernel)
    | 5, _ => exact hs _ (by decide +kernel)
    | j + 6, hj => exact absurd hj (by omega)) hA
  exact ⟨(a, v), h1, x_eqR (hs (.eq (Term.string "EchoValley$Reader" 142) (.string "EchoValleyModel" 44)) (by decide +kernel)) h1, h2⟩
set_option maxRecDepth 100000 in
theorem x_str_13 {args : Array Value} {s : State} {A : Nat → Prop} (hs : ∀ c ∈ flatC (Jvm.Cond.and given_1 narrow_1), c.before args s = true) (hA : ∀ a : Nat, a < s.heap.size → ¬ A a) : ∃ q, xSf 13 q A args s := by
  obtain ⟨a, v, h1, h2⟩ := x_str1 (n := 4) (f := xsbyt 13) (A := A) (t := (Term.string "EchoValley$Reader" 114)) (by decide) (hs _ (by decide +kernel)) (hs _ (by decide +kernel)) (hs _ (by decide +kernel)) (hs _ (by decide +kernel)) (fun j hj => by
    match j, hj with
    | 0, _ => exact hs _ (by decide +kernel)
    | 1, _ => exact hs _ (by decide +kernel)
    | 2, _ => exact hs _ (by decide +kernel)
    | 3, _ => exact hs _ (by decide +kernel)
    | j + 4, hj => exact absurd hj (by omega)) hA
  exact ⟨(a, v), h1, x_eqR (hs (.eq (Term.string "EchoValley$Reader" 114) (.string "EchoValleyModel" 262)) (by decide +kernel)) h1, h2⟩
set_option maxRecDepth 100000 in
theorem x_str_14 {args : Array Value} {s : State} {A : Nat → Prop} (hs : ∀ c ∈ flatC (Jvm.Cond.and given_1 narrow_1), c.before args s = true) (hA : ∀ a : Nat, a < s.heap.size → ¬ A a) : ∃ q, xSf 14 q A args s := by
  obtain ⟨a, v, h1, h2⟩ := x_str1 (n := 4) (f := xsbyt 14) (A := A) (t := (Term.string "EchoValley$Reader" 116)) (by decide) (hs _ (by decide +kernel)) (hs _ (by decide +kernel)) (hs _ (by decide +kernel)) (hs _ (by decide +kernel)) (fun j hj => by
    match j, hj with
    | 0, _ => exact hs _ (by decide +kernel)
    | 1, _ => exact hs _ (by decide +kernel)
    | 2, _ => exact hs _ (by decide +kernel)
    | 3, _ => exact hs _ (by decide +kernel)
    | j + 4, hj => exact absurd hj (by omega)) hA
  exact ⟨(a, v), h1, x_eqR (hs (.eq (Term.string "EchoValley$Reader" 116) (.string "EchoValleyModel" 264)) (by decide +kernel)) h1, h2⟩
theorem x_strs {args : Array Value} {s : State} {A : Nat → Prop} (hs : ∀ c ∈ flatC (Jvm.Cond.and given_1 narrow_1), c.before args s = true) (hA : ∀ a : Nat, a < s.heap.size → ¬ A a) : ∃ ad : Nat → Nat × Nat, ∀ i, i < 15 → xSf i (ad i) A args s := by
  have h0 : ∀ i : Nat, ∃ q : Nat × Nat, i < 15 → xSf i q A args s := by
    intro i
    by_cases hi : i < 15
    · have h1 : ∃ q, xSf i q A args s := by
        match i, hi with
        | 0, _ => exact x_str_0 hs hA
        | 1, _ => exact x_str_1 hs hA
        | 2, _ => exact x_str_2 hs hA
        | 3, _ => exact x_str_3 hs hA
        | 4, _ => exact x_str_4 hs hA
        | 5, _ => exact x_str_5 hs hA
        | 6, _ => exact x_str_6 hs hA
        | 7, _ => exact x_str_7 hs hA
        | 8, _ => exact x_str_8 hs hA
        | 9, _ => exact x_str_9 hs hA
        | 10, _ => exact x_str_10 hs hA
        | 11, _ => exact x_str_11 hs hA
        | 12, _ => exact x_str_12 hs hA
        | 13, _ => exact x_str_13 hs hA
        | 14, _ => exact x_str_14 hs hA
        | i + 15, hi => exact absurd hi (by omega)
      obtain ⟨q, hq⟩ := h1
      exact ⟨q, fun _ => hq⟩
    · exact ⟨(0, 0), fun h => absurd h hi⟩
  exact Classical.axiomOfChoice h0

set_option maxRecDepth 100000 in
theorem x_nestw : ∀ w, xisNest w = true → w.onTables = true := by
  intro w h
  cases w <;> first | rfl | (simp [xisNest] at h)
set_option maxHeartbeats 4000000 in
set_option maxRecDepth 100000 in
/-- the start, as the Statement gives it -/
theorem x_world (l : Launch) {p : Program} {s : State} {m : MethodId} {meth : Method} {c : Code} {b L : Nat} {xs : Nat → Int32} (C0 : lw_At p s m meth c b L xs) : ∃ G : xG, gL G = l ∧ gB G = s.heap.size ∧ gH G = s.heap ∧ gN G = L ∧ gX G = xs ∧ gE G 1000 = b ∧ xGX G s := by
  obtain ⟨hx, hb, hr, hml, hown, hts, hX, hbl, hlocks, hgv⟩ := id C0
  have hs := flat_of_before _ hgv
  have hA : ∀ a : Nat, a < s.heap.size → ¬ (fun q : Nat => s.heap.size ≤ q) a := fun a h => Nat.not_le.mpr h
  obtain ⟨ad, had⟩ := x_strs (A := fun q : Nat => s.heap.size ≤ q) hs hA
  have hg : ∀ w ∈ xGood, w.before #[Value.ref b] s = true := fun w hw => hts w (List.mem_filter.mp hw).1
  obtain ⟨c0, iS0, hKn0⟩ := u_known (C := RX1) (T := TX1) (N := 1) (n := 1) hg xcls_0.1 (hg _ xcls_0.2.2.2.1)
  obtain ⟨c1, iS1, hKn1⟩ := u_known (C := RX2) (T := TX2) (N := 6) (n := 6) hg xcls_1.1 (hg _ xcls_1.2.2.2.1)
  obtain ⟨c2, iS2, hKn2⟩ := u_known (C := RX3) (T := TX3) (N := 7) (n := 7) hg xcls_2.1 (hg _ xcls_2.2.2.2.1)
  obtain ⟨c3, iS3, hKn3⟩ := u_known (C := RX4) (T := TX4) (N := 3) (n := 3) hg xcls_3.1 (hg _ xcls_3.2.2.2.1)
  obtain ⟨c4, iS4, hKn4⟩ := u_known (C := RX5) (T := TX5) (N := 8) (n := 8) hg xcls_4.1 (hg _ xcls_4.2.2.2.1)
  obtain ⟨c5, iS5, hKn5⟩ := u_known (C := RX6) (T := TX6) (N := 4) (n := 4) hg xcls_5.1 (hg _ xcls_5.2.2.2.1)
  obtain ⟨c6, iS6, hKn6⟩ := u_known (C := RX7) (T := TX7) (N := 1) (n := 1) hg xcls_6.1 (hg _ xcls_6.2.2.2.1)
  obtain ⟨c7, iS7, hKn7⟩ := u_known (C := RX8) (T := TX8) (N := 8) (n := 8) hg xcls_7.1 (hg _ xcls_7.2.2.2.1)
  obtain ⟨c8, iS8, hKn8⟩ := u_known (C := RX9) (T := TX9) (N := 24) (n := 24) hg xcls_8.1 (hg _ xcls_8.2.2.2.1)
  have hKc : ∀ (k : Nat) (q : vw_C), vwCl[k]? = some q → u_Kn s q.1 q.2.1 q.2.2 ((fun k : Nat => if k = 0 then c0 else if k = 1 then c1 else if k = 2 then c2 else if k = 3 then c3 else if k = 4 then c4 else if k = 5 then c5 else if k = 6 then c6 else if k = 7 then c7 else c8) k) ((fun k : Nat => if k = 0 then iS0 else if k = 1 then iS1 else if k = 2 then iS2 else if k = 3 then iS3 else if k = 4 then iS4 else if k = 5 then iS5 else if k = 6 then iS6 else if k = 7 then iS7 else iS8) k) := by
    intro k q hq
    match k, hq with
    | 0, hq => cases hq; exact hKn0
    | 1, hq => cases hq; exact hKn1
    | 2, hq => cases hq; exact hKn2
    | 3, hq => cases hq; exact hKn3
    | 4, hq => cases hq; exact hKn4
    | 5, hq => cases hq; exact hKn5
    | 6, hq => cases hq; exact hKn6
    | 7, hq => cases hq; exact hKn7
    | 8, hq => cases hq; exact hKn8
    | k + 9, hq => simp [vwCl] at hq
  obtain ⟨kI, cI, hI⟩ : ∃ (kI : Unit) (cI : ClassId), ArrOfT s cI .int ∧ va_RA s cI .int := by
    have h1 := hg _ x_objw.2.2.1
    obtain ⟨cI, kA, comp, h2, h3, h4⟩ := Cond.arrayClass_spec h1
    exact ⟨(), cI, fun n z => ⟨fun k h => (by cases h), kA, h3, comp, h4⟩, h2⟩
  have arrO : ∀ E : String, (Cond.arrayOver (.object E)).before #[Value.ref b] s = true → ∃ cA : ClassId, ArrOfT s cA (.object E) ∧ va_RA s cA (.object E) := by
    intro E h
    obtain ⟨comp, cA, k, h1, h2, h3, h4, h5⟩ := Cond.arrayOver_spec h
    exact ⟨cA, fun n z => ⟨fun k h => (by cases h), k, h3, comp, h4⟩, k, comp, h3, h4, h1, h5⟩
  have aS := hts (.arrayOver (.object "EchoValley$Sheet")) (List.mem_of_getElem? (i := 226) (by rfl))
  have aT := hts (.arrayOver (.object "java/lang/String")) (List.mem_of_getElem? (i := 919) (by rfl))
  obtain ⟨cS, hS⟩ := arrO _ aS
  obtain ⟨cT, hT⟩ := arrO _ aT
  obtain ⟨aA, hA1, hA2⟩ := va_Tof (tm := .static "EchoValley$Kinds" "ABOVE" "[I") (ty := .int) (N := 7) (f := fun j => .int (xabove j)) (A := fun q : Nat => s.heap.size ≤ q) (by decide) (hs _ (by decide +kernel)) (va_eqt (hs _ (by decide +kernel))) (fun j hj => by
    match j, hj with
    | 0, _ => exact va_eqt (hs _ (by decide +kernel))
    | 1, _ => exact va_eqt (hs _ (by decide +kernel))
    | 2, _ => exact va_eqt (hs _ (by decide +kernel))
    | 3, _ => exact va_eqt (hs _ (by decide +kernel))
    | 4, _ => exact va_eqt (hs _ (by decide +kernel))
    | 5, _ => exact va_eqt (hs _ (by decide +kernel))
    | 6, _ => exact va_eqt (hs _ (by decide +kernel))
    | j + 7, hj => exact absurd hj (by omega)) hA
  have hZ1 := va_Zof (A := fun q : Nat => s.heap.size ≤ q) (hts (.laysStatic "EchoValley$Kinds" "ABOVE" "[I") (List.mem_of_getElem? (i := 369) (by rfl))) (hts (.initialized "EchoValley$Kinds") (List.mem_of_getElem? (i := 69) (by rfl))) hA1 hA
  have hZ2 := va_Zof (A := fun q : Nat => s.heap.size ≤ q) (hts (.laysStatic "java/lang/String" "COMPACT_STRINGS" "Z") (List.mem_of_getElem? (i := 731) (by rfl))) (hts (.initialized "java/lang/String") (List.mem_of_getElem? (i := 73) (by rfl))) (va_eqi (hs (.eq (.static "java/lang/String" "COMPACT_STRINGS" "Z") (.int 1)) (by decide +kernel))) hA
  have hZ3 : ∃ ov : Value, xOk1 ov ∧ va_Z "jdk/internal/util/Preconditions" "SIOOBE_FORMATTER" "Ljava/util/function/BiFunction;" ov (fun q : Nat => s.heap.size ≤ q) s s.heap := by
    rcases va_Zqof (A := fun q : Nat => s.heap.size ≤ q) (hts (.laysStatic "jdk/internal/util/Preconditions" "SIOOBE_FORMATTER" "Ljava/util/function/BiFunction;") (List.mem_of_getElem? (i := 747) (by rfl))) (hts (.initialized "jdk/internal/util/Preconditions") (List.mem_of_getElem? (i := 75) (by rfl))) (hs (.isRef (.static "jdk/internal/util/Preconditions" "SIOOBE_FORMATTER" "Ljava/util/function/BiFunction;")) (by decide +kernel)) hA with h | ⟨t, h⟩
    · exact ⟨.null, Or.inl rfl, h⟩
    · exact ⟨.ref t, Or.inr ⟨t, rfl⟩, h⟩
  obtain ⟨ov, hov, hZ3⟩ := hZ3
  refine ⟨(l, s.heap.size, s.heap, (fun k : Nat => if k = 0 then c0 else if k = 1 then c1 else if k = 2 then c2 else if k = 3 then c3 else if k = 4 then c4 else if k = 5 then c5 else if k = 6 then c6 else if k = 7 then c7 else c8, fun k : Nat => if k = 0 then iS0 else if k = 1 then iS1 else if k = 2 then iS2 else if k = 3 then iS3 else if k = 4 then iS4 else if k = 5 then iS5 else if k = 6 then iS6 else if k = 7 then iS7 else iS8), (cI, cS, cT), (fun o : Nat => if o = 1000 then b else if o = 1001 then aA else if o < 1115 then (ad (o - 1100)).1 else (ad (o - 1200)).2), ov, L, xs), rfl, rfl, rfl, rfl, rfl, rfl, ⟨hKc, fun k q hq => ?_⟩, fun w hw => ?_, ⟨aS, aT⟩, ?_, fun i hi => ?_, hZ1, hA2, hZ2, hZ3, hX, hbl, hov, rfl⟩
  · match k, hq with
    | 0, hq => cases hq; exact hI
    | 1, hq => cases hq; exact hS
    | 2, hq => cases hq; exact hT
    | k + 3, hq => simp at hq
  · obtain ⟨h1, h2⟩ := List.mem_filter.mp hw
    exact va_Nw.of (x_nestw w h2) (hts w h1)
  · intro q hq
    obtain ⟨j, hj⟩ := List.getElem?_of_mem hq
    match j, hj with
    | 0, hj => cases hj; exact vk_R.of (hts (.stringRef "EchoValley$Reader" 35 "way") (List.mem_of_getElem? (i := 713) (by rfl))) (had 0 (by omega)).1
    | 1, hj => cases hj; exact vk_R.of (hts (.stringRef "EchoValley$Reader" 44 "person") (List.mem_of_getElem? (i := 779) (by rfl))) (had 1 (by omega)).1
    | 2, hj => cases hj; exact vk_R.of (hts (.stringRef "EchoValley$Reader" 49 "keep") (List.mem_of_getElem? (i := 787) (by rfl))) (had 4 (by omega)).1
    | 3, hj => cases hj; exact vk_R.of (hts (.stringRef "EchoValley$Reader" 54 "rain") (List.mem_of_getElem? (i := 792) (by rfl))) (had 5 (by omega)).1
    | 4, hj => cases hj; exact vk_R.of (hts (.stringRef "EchoValley$Reader" 96 "at") (List.mem_of_getElem? (i := 784) (by rfl))) (had 2 (by omega)).1
    | 5, hj => cases hj; exact vk_R.of (hts (.stringRef "EchoValley$Reader" 98 "hours") (List.mem_of_getElem? (i := 785) (by rfl))) (had 3 (by omega)).1
    | 6, hj => cases hj; exact vk_R.of (hts (.stringRef "EchoValley$Reader" 114 "hour") (List.mem_of_getElem? (i := 813) (by rfl))) (had 13 (by omega)).1
    | 7, hj => cases hj; exact vk_R.of (hts (.stringRef "EchoValley$Reader" 116 "loud") (List.mem_of_getElem? (i := 814) (by rfl))) (had 14 (by omega)).1
    | 8, hj => cases hj; exact vk_R.of (hts (.stringRef "EchoValley$Reader" 125 "once") (List.mem_of_getElem? (i := 801) (by rfl))) (had 6 (by omega)).1
    | 9, hj => cases hj; exact vk_R.of (hts (.stringRef "EchoValley$Reader" 132 "kept") (List.mem_of_getElem? (i := 802) (by rfl))) (had 7 (by omega)).1
    | 10, hj => cases hj; exact vk_R.of (hts (.stringRef "EchoValley$Reader" 134 "low") (List.mem_of_getElem? (i := 803) (by rfl))) (had 8 (by omega)).1
    | 11, hj => cases hj; exact vk_R.of (hts (.stringRef "EchoValley$Reader" 136 "over") (List.mem_of_getElem? (i := 804) (by rfl))) (had 9 (by omega)).1
    | 12, hj => cases hj; exact vk_R.of (hts (.stringRef "EchoValley$Reader" 138 "carried") (List.mem_of_getElem? (i := 805) (by rfl))) (had 10 (by omega)).1
    | 13, hj => cases hj; exact vk_R.of (hts (.stringRef "EchoValley$Reader" 140 "cursed") (List.mem_of_getElem? (i := 806) (by rfl))) (had 11 (by omega)).1
    | 14, hj => cases hj; exact vk_R.of (hts (.stringRef "EchoValley$Reader" 142 "hushed") (List.mem_of_getElem? (i := 807) (by rfl))) (had 12 (by omega)).1
    | 15, hj => cases hj; exact vk_R.of (hts (.stringRef "EchoValleyModel" 33 "once") (List.mem_of_getElem? (i := 920) (by rfl))) (had 6 (by omega)).2.1
    | 16, hj => cases hj; exact vk_R.of (hts (.stringRef "EchoValleyModel" 35 "kept") (List.mem_of_getElem? (i := 921) (by rfl))) (had 7 (by omega)).2.1
    | 17, hj => cases hj; exact vk_R.of (hts (.stringRef "EchoValleyModel" 36 "low") (List.mem_of_getElem? (i := 922) (by rfl))) (had 8 (by omega)).2.1
    | 18, hj => cases hj; exact vk_R.of (hts (.stringRef "EchoValleyModel" 38 "over") (List.mem_of_getElem? (i := 923) (by rfl))) (had 9 (by omega)).2.1
    | 19, hj => cases hj; exact vk_R.of (hts (.stringRef "EchoValleyModel" 40 "carried") (List.mem_of_getElem? (i := 924) (by rfl))) (had 10 (by omega)).2.1
    | 20, hj => cases hj; exact vk_R.of (hts (.stringRef "EchoValleyModel" 42 "cursed") (List.mem_of_getElem? (i := 925) (by rfl))) (had 11 (by omega)).2.1
    | 21, hj => cases hj; exact vk_R.of (hts (.stringRef "EchoValleyModel" 44 "hushed") (List.mem_of_getElem? (i := 926) (by rfl))) (had 12 (by omega)).2.1
    | 22, hj => cases hj; exact vk_R.of (hts (.stringRef "EchoValleyModel" 239 "way") (List.mem_of_getElem? (i := 1305) (by rfl))) (had 0 (by omega)).2.1
    | 23, hj => cases hj; exact vk_R.of (hts (.stringRef "EchoValleyModel" 248 "person") (List.mem_of_getElem? (i := 1306) (by rfl))) (had 1 (by omega)).2.1
    | 24, hj => cases hj; exact vk_R.of (hts (.stringRef "EchoValleyModel" 253 "keep") (List.mem_of_getElem? (i := 1312) (by rfl))) (had 4 (by omega)).2.1
    | 25, hj => cases hj; exact vk_R.of (hts (.stringRef "EchoValleyModel" 255 "rain") (List.mem_of_getElem? (i := 1313) (by rfl))) (had 5 (by omega)).2.1
    | 26, hj => cases hj; exact vk_R.of (hts (.stringRef "EchoValleyModel" 260 "at") (List.mem_of_getElem? (i := 1298) (by rfl))) (had 2 (by omega)).2.1
    | 27, hj => cases hj; exact vk_R.of (hts (.stringRef "EchoValleyModel" 262 "hour") (List.mem_of_getElem? (i := 1299) (by rfl))) (had 13 (by omega)).2.1
    | 28, hj => cases hj; exact vk_R.of (hts (.stringRef "EchoValleyModel" 264 "loud") (List.mem_of_getElem? (i := 1300) (by rfl))) (had 14 (by omega)).2.1
    | 29, hj => cases hj; exact vk_R.of (hts (.stringRef "EchoValleyModel" 266 "hours") (List.mem_of_getElem? (i := 1311) (by rfl))) (had 3 (by omega)).2.1
    | j + 30, hj => simp [xStr] at hj
  · obtain ⟨-, -, h1, h2, h3, h4⟩ := had i hi
    show va_O _ (if 1100 + i = 1000 then b else if 1100 + i = 1001 then aA else if 1100 + i < 1115 then (ad (1100 + i - 1100)).1 else (ad (1100 + i - 1200)).2) _ _ _ ∧ va_OF _ _ _ _ (if 1100 + i = 1000 then b else if 1100 + i = 1001 then aA else if 1100 + i < 1115 then (ad (1100 + i - 1100)).1 else (ad (1100 + i - 1200)).2) _ _ _ ∧ va_OF _ _ _ (.ref (if 1200 + i = 1000 then b else if 1200 + i = 1001 then aA else if 1200 + i < 1115 then (ad (1200 + i - 1100)).1 else (ad (1200 + i - 1200)).2)) (if 1100 + i = 1000 then b else if 1100 + i = 1001 then aA else if 1100 + i < 1115 then (ad (1100 + i - 1100)).1 else (ad (1100 + i - 1200)).2) _ _ _ ∧ va_T _ (if 1200 + i = 1000 then b else if 1200 + i = 1001 then aA else if 1200 + i < 1115 then (ad (1200 + i - 1100)).1 else (ad (1200 + i - 1200)).2) _ _ _ _ _
    rw [if_neg (show ¬ 1100 + i = 1000 by omega), if_neg (show ¬ 1100 + i = 1001 by omega), if_pos (show 1100 + i < 1115 by omega), if_neg (show ¬ 1200 + i = 1000 by omega), if_neg (show ¬ 1200 + i = 1001 by omega), if_neg (show ¬ 1200 + i < 1115 by omega), Nat.add_sub_cancel_left, Nat.add_sub_cancel_left]
    exact ⟨h1, h2, h3, h4⟩
