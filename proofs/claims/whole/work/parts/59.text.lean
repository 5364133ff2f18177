/-! text (stub). -/
section TX
variable {G : xG} {M : xM} {Q : Option Value → xH → Prop}
theorem st_text (I : Iv 0 M) (q : ∀ r M1, Aft G jX9_text [.ref 59] r M1 → Q (some (.int r)) (HH M1)) : CW G 11 jX8_text [.ref 0] (HH M) Q := sorry
end TX
