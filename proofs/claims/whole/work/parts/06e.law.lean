theorem xokC_app {cc : ByteArray} {pp : List (Nat × Nat)} {own : String} {ini : Bool} {nL : Nat} : ∀ {l1 l2 : List xE}, xokC cc pp own ini nL l1 = true → xokC cc pp own ini nL l2 = true → (∀ e, l1.getLast? = some e → ∀ f r, l2 = f :: r → Nat.beq f.1 (e.1 + xlen e.1 e.2.2.1) = true) → xokC cc pp own ini nL (l1 ++ l2) = true
  | [], l2, _, h2, _ => h2
  | [e], l2, h1, h2, h3 => by
    unfold xokC at h1 ⊢
    simp only [List.singleton_append, Bool.and_eq_true] at h1 ⊢
    refine ⟨⟨h1.1.1, ?_⟩, h2⟩
    cases l2 with
    | nil => rfl
    | cons f r => exact h3 e rfl f r rfl
  | e :: e' :: l1, l2, h1, h2, h3 => by
    unfold xokC at h1
    simp only [Bool.and_eq_true] at h1
    have ih := xokC_app (l1 := e' :: l1) (l2 := l2) h1.2 h2 (fun x hx f r hf => h3 x (by rw [List.getLast?_cons_cons]; exact hx) f r hf)
    show xokC cc pp own ini nL (e :: (e' :: (l1 ++ l2))) = true
    unfold xokC
    simp only [Bool.and_eq_true]
    exact ⟨h1.1, ih⟩
set_option maxRecDepth 100000 in
theorem oL_law_0 : xokC cL_law xpp_10 "EchoValleyLaw" false 4 kL_law_0 = true := by decide +kernel
set_option maxRecDepth 100000 in
theorem oL_law_1 : xokC cL_law xpp_10 "EchoValleyLaw" false 4 kL_law_1 = true := by decide +kernel
set_option maxRecDepth 100000 in
theorem oL_law_2 : xokC cL_law xpp_10 "EchoValleyLaw" false 4 kL_law_2 = true := by decide +kernel
set_option maxRecDepth 100000 in
theorem oL_law_3 : xokC cL_law xpp_10 "EchoValleyLaw" false 4 kL_law_3 = true := by decide +kernel
set_option maxRecDepth 100000 in
theorem oL_law_4 : xokC cL_law xpp_10 "EchoValleyLaw" false 4 kL_law_4 = true := by decide +kernel
set_option maxRecDepth 100000 in
theorem oL_law_5 : xokC cL_law xpp_10 "EchoValleyLaw" false 4 kL_law_5 = true := by decide +kernel
set_option maxRecDepth 100000 in
theorem oL_law_6 : xokC cL_law xpp_10 "EchoValleyLaw" false 4 kL_law_6 = true := by decide +kernel
set_option maxRecDepth 100000 in
theorem oL_law_7 : xokC cL_law xpp_10 "EchoValleyLaw" false 4 kL_law_7 = true := by decide +kernel
set_option maxRecDepth 100000 in
theorem oL_law_8 : xokC cL_law xpp_10 "EchoValleyLaw" false 4 kL_law_8 = true := by decide +kernel
set_option maxRecDepth 100000 in
theorem oL_law_9 : xokC cL_law xpp_10 "EchoValleyLaw" false 4 kL_law_9 = true := by decide +kernel
set_option maxRecDepth 100000 in
theorem oL_law_10 : xokC cL_law xpp_10 "EchoValleyLaw" false 4 kL_law_10 = true := by decide +kernel
set_option maxRecDepth 100000 in
theorem oL_law_11 : xokC cL_law xpp_10 "EchoValleyLaw" false 4 kL_law_11 = true := by decide +kernel
set_option maxRecDepth 100000 in
theorem oL_law_12 : xokC cL_law xpp_10 "EchoValleyLaw" false 4 kL_law_12 = true := by decide +kernel
theorem oL_from_12 : xokC cL_law xpp_10 "EchoValleyLaw" false 4 kL_law_12 = true := oL_law_12
theorem oL_from_11 : xokC cL_law xpp_10 "EchoValleyLaw" false 4 (kL_law_11 ++ (kL_law_12)) = true := xokC_app oL_law_11 oL_from_12 (fun e he f r hf => by cases he; cases hf; rfl)
theorem oL_from_10 : xokC cL_law xpp_10 "EchoValleyLaw" false 4 (kL_law_10 ++ (kL_law_11 ++ (kL_law_12))) = true := xokC_app oL_law_10 oL_from_11 (fun e he f r hf => by cases he; cases hf; rfl)
theorem oL_from_9 : xokC cL_law xpp_10 "EchoValleyLaw" false 4 (kL_law_9 ++ (kL_law_10 ++ (kL_law_11 ++ (kL_law_12)))) = true := xokC_app oL_law_9 oL_from_10 (fun e he f r hf => by cases he; cases hf; rfl)
theorem oL_from_8 : xokC cL_law xpp_10 "EchoValleyLaw" false 4 (kL_law_8 ++ (kL_law_9 ++ (kL_law_10 ++ (kL_law_11 ++ (kL_law_12))))) = true := xokC_app oL_law_8 oL_from_9 (fun e he f r hf => by cases he; cases hf; rfl)
theorem oL_from_7 : xokC cL_law xpp_10 "EchoValleyLaw" false 4 (kL_law_7 ++ (kL_law_8 ++ (kL_law_9 ++ (kL_law_10 ++ (kL_law_11 ++ (kL_law_12)))))) = true := xokC_app oL_law_7 oL_from_8 (fun e he f r hf => by cases he; cases hf; rfl)
theorem oL_from_6 : xokC cL_law xpp_10 "EchoValleyLaw" false 4 (kL_law_6 ++ (kL_law_7 ++ (kL_law_8 ++ (kL_law_9 ++ (kL_law_10 ++ (kL_law_11 ++ (kL_law_12))))))) = true := xokC_app oL_law_6 oL_from_7 (fun e he f r hf => by cases he; cases hf; rfl)
theorem oL_from_5 : xokC cL_law xpp_10 "EchoValleyLaw" false 4 (kL_law_5 ++ (kL_law_6 ++ (kL_law_7 ++ (kL_law_8 ++ (kL_law_9 ++ (kL_law_10 ++ (kL_law_11 ++ (kL_law_12)))))))) = true := xokC_app oL_law_5 oL_from_6 (fun e he f r hf => by cases he; cases hf; rfl)
theorem oL_from_4 : xokC cL_law xpp_10 "EchoValleyLaw" false 4 (kL_law_4 ++ (kL_law_5 ++ (kL_law_6 ++ (kL_law_7 ++ (kL_law_8 ++ (kL_law_9 ++ (kL_law_10 ++ (kL_law_11 ++ (kL_law_12))))))))) = true := xokC_app oL_law_4 oL_from_5 (fun e he f r hf => by cases he; cases hf; rfl)
theorem oL_from_3 : xokC cL_law xpp_10 "EchoValleyLaw" false 4 (kL_law_3 ++ (kL_law_4 ++ (kL_law_5 ++ (kL_law_6 ++ (kL_law_7 ++ (kL_law_8 ++ (kL_law_9 ++ (kL_law_10 ++ (kL_law_11 ++ (kL_law_12)))))))))) = true := xokC_app oL_law_3 oL_from_4 (fun e he f r hf => by cases he; cases hf; rfl)
theorem oL_from_2 : xokC cL_law xpp_10 "EchoValleyLaw" false 4 (kL_law_2 ++ (kL_law_3 ++ (kL_law_4 ++ (kL_law_5 ++ (kL_law_6 ++ (kL_law_7 ++ (kL_law_8 ++ (kL_law_9 ++ (kL_law_10 ++ (kL_law_11 ++ (kL_law_12))))))))))) = true := xokC_app oL_law_2 oL_from_3 (fun e he f r hf => by cases he; cases hf; rfl)
theorem oL_from_1 : xokC cL_law xpp_10 "EchoValleyLaw" false 4 (kL_law_1 ++ (kL_law_2 ++ (kL_law_3 ++ (kL_law_4 ++ (kL_law_5 ++ (kL_law_6 ++ (kL_law_7 ++ (kL_law_8 ++ (kL_law_9 ++ (kL_law_10 ++ (kL_law_11 ++ (kL_law_12)))))))))))) = true := xokC_app oL_law_1 oL_from_2 (fun e he f r hf => by cases he; cases hf; rfl)
theorem oL_from_0 : xokC cL_law xpp_10 "EchoValleyLaw" false 4 (kL_law_0 ++ (kL_law_1 ++ (kL_law_2 ++ (kL_law_3 ++ (kL_law_4 ++ (kL_law_5 ++ (kL_law_6 ++ (kL_law_7 ++ (kL_law_8 ++ (kL_law_9 ++ (kL_law_10 ++ (kL_law_11 ++ (kL_law_12))))))))))))) = true := xokC_app oL_law_0 oL_from_1 (fun e he f r hf => by cases he; cases hf; rfl)
theorem oL_law : xokC cL_law xpp_10 "EchoValleyLaw" false 4 kL_law = true := oL_from_0
