/-! String constants: length and signs. -/
section ST
variable {G : xG} {d : Nat} {M : xM} {Q : Option Value → xH → Prop}
theorem c_coder (i : Nat) (hi : i < 15) (q : Q (some (.int 0)) (HH M)) : CW G d jJ0_coder_7d493 [.ref (1100 + i)] (HH M) Q := by
  match i, hi with
  | 0, _ => exact CW_wp fJ0_coder_7d493 rfl rfl rfl (And.intro (by decide +kernel) q)
  | 1, _ => exact CW_wp fJ0_coder_7d493 rfl rfl rfl (And.intro (by decide +kernel) q)
  | 2, _ => exact CW_wp fJ0_coder_7d493 rfl rfl rfl (And.intro (by decide +kernel) q)
  | 3, _ => exact CW_wp fJ0_coder_7d493 rfl rfl rfl (And.intro (by decide +kernel) q)
  | 4, _ => exact CW_wp fJ0_coder_7d493 rfl rfl rfl (And.intro (by decide +kernel) q)
  | 5, _ => exact CW_wp fJ0_coder_7d493 rfl rfl rfl (And.intro (by decide +kernel) q)
  | 6, _ => exact CW_wp fJ0_coder_7d493 rfl rfl rfl (And.intro (by decide +kernel) q)
  | 7, _ => exact CW_wp fJ0_coder_7d493 rfl rfl rfl (And.intro (by decide +kernel) q)
  | 8, _ => exact CW_wp fJ0_coder_7d493 rfl rfl rfl (And.intro (by decide +kernel) q)
  | 9, _ => exact CW_wp fJ0_coder_7d493 rfl rfl rfl (And.intro (by decide +kernel) q)
  | 10, _ => exact CW_wp fJ0_coder_7d493 rfl rfl rfl (And.intro (by decide +kernel) q)
  | 11, _ => exact CW_wp fJ0_coder_7d493 rfl rfl rfl (And.intro (by decide +kernel) q)
  | 12, _ => exact CW_wp fJ0_coder_7d493 rfl rfl rfl (And.intro (by decide +kernel) q)
  | 13, _ => exact CW_wp fJ0_coder_7d493 rfl rfl rfl (And.intro (by decide +kernel) q)
  | 14, _ => exact CW_wp fJ0_coder_7d493 rfl rfl rfl (And.intro (by decide +kernel) q)
  | i + 15, hi => exact absurd hi (by omega)
theorem c_isLatin1 (i : Nat) (hi : i < 15) (q : Q (some (.int 1)) (HH M)) : CW G d jJ0_isLatin1_aae02 [.ref (1100 + i)] (HH M) Q := by
  match i, hi with
  | 0, _ => exact CW_wp fJ0_isLatin1_aae02 rfl rfl rfl q
  | 1, _ => exact CW_wp fJ0_isLatin1_aae02 rfl rfl rfl q
  | 2, _ => exact CW_wp fJ0_isLatin1_aae02 rfl rfl rfl q
  | 3, _ => exact CW_wp fJ0_isLatin1_aae02 rfl rfl rfl q
  | 4, _ => exact CW_wp fJ0_isLatin1_aae02 rfl rfl rfl q
  | 5, _ => exact CW_wp fJ0_isLatin1_aae02 rfl rfl rfl q
  | 6, _ => exact CW_wp fJ0_isLatin1_aae02 rfl rfl rfl q
  | 7, _ => exact CW_wp fJ0_isLatin1_aae02 rfl rfl rfl q
  | 8, _ => exact CW_wp fJ0_isLatin1_aae02 rfl rfl rfl q
  | 9, _ => exact CW_wp fJ0_isLatin1_aae02 rfl rfl rfl q
  | 10, _ => exact CW_wp fJ0_isLatin1_aae02 rfl rfl rfl q
  | 11, _ => exact CW_wp fJ0_isLatin1_aae02 rfl rfl rfl q
  | 12, _ => exact CW_wp fJ0_isLatin1_aae02 rfl rfl rfl q
  | 13, _ => exact CW_wp fJ0_isLatin1_aae02 rfl rfl rfl q
  | 14, _ => exact CW_wp fJ0_isLatin1_aae02 rfl rfl rfl q
  | i + 15, hi => exact absurd hi (by omega)
theorem c_length (i : Nat) (hi : i < 15) (q : Q (some (.int (nI (xslen i)))) (HH M)) : CW G (d + 1) jJ0_length_8abf5 [.ref (1100 + i)] (HH M) Q := by
  match i, hi, q with
  | 0, _, q => exact CW_wp fJ0_length_8abf5 rfl rfl rfl (c_coder 0 (by decide) q)
  | 1, _, q => exact CW_wp fJ0_length_8abf5 rfl rfl rfl (c_coder 1 (by decide) q)
  | 2, _, q => exact CW_wp fJ0_length_8abf5 rfl rfl rfl (c_coder 2 (by decide) q)
  | 3, _, q => exact CW_wp fJ0_length_8abf5 rfl rfl rfl (c_coder 3 (by decide) q)
  | 4, _, q => exact CW_wp fJ0_length_8abf5 rfl rfl rfl (c_coder 4 (by decide) q)
  | 5, _, q => exact CW_wp fJ0_length_8abf5 rfl rfl rfl (c_coder 5 (by decide) q)
  | 6, _, q => exact CW_wp fJ0_length_8abf5 rfl rfl rfl (c_coder 6 (by decide) q)
  | 7, _, q => exact CW_wp fJ0_length_8abf5 rfl rfl rfl (c_coder 7 (by decide) q)
  | 8, _, q => exact CW_wp fJ0_length_8abf5 rfl rfl rfl (c_coder 8 (by decide) q)
  | 9, _, q => exact CW_wp fJ0_length_8abf5 rfl rfl rfl (c_coder 9 (by decide) q)
  | 10, _, q => exact CW_wp fJ0_length_8abf5 rfl rfl rfl (c_coder 10 (by decide) q)
  | 11, _, q => exact CW_wp fJ0_length_8abf5 rfl rfl rfl (c_coder 11 (by decide) q)
  | 12, _, q => exact CW_wp fJ0_length_8abf5 rfl rfl rfl (c_coder 12 (by decide) q)
  | 13, _, q => exact CW_wp fJ0_length_8abf5 rfl rfl rfl (c_coder 13 (by decide) q)
  | 14, _, q => exact CW_wp fJ0_length_8abf5 rfl rfl rfl (c_coder 14 (by decide) q)
  | i + 15, hi, _ => exact absurd hi (by omega)
theorem c_preCheck (k n : Nat) (hk : k < n) (hn : n < 2 ^ 31) (o : Nat) (q : Q (some (.int (nI k))) (HH M)) : CW G d jJ3_checkIndex_8e157 [.int (nI k), .int (nI n), .ref o] (HH M) Q := by
  refine CW_wp fJ3_checkIndex_8e157 rfl rfl rfl ?_
  refine xelse (nI_pos (by omega)) ?_
  refine xif (nI_lt hk hn) ?_
  exact q
theorem c_strCheck (k n : Nat) (hk : k < n) (hn : n < 2 ^ 31) (q : Q none (HH M)) : CW G (d + 1) jJ0_checkIndex_df160 [.int (nI k), .int (nI n)] (HH M) Q := by
  refine CW_wp fJ0_checkIndex_df160 rfl rfl rfl ?_
  exact c_preCheck k n hk hn 1300 q
def xsb (i k : Nat) : Int32 := xsbyt i k
theorem xsb_ok : ∀ i, i < 15 → ∀ k, k < xslen i → ((xsbyt i k &&& 255).toUInt32 % 65536).toInt32 = xsbyt i k ∧ xslen i < 2 ^ 31 := by decide +kernel
theorem c_lat1 (i : Nat) (hi : i < 15) (k : Nat) (hk : k < xslen i) (q : Q (some (.int (xsbyt i k))) (HH M)) : CW G (d + 2) jJ1_charAt_3b067 [.ref (1200 + i), .int (nI k)] (HH M) Q := by
  have h1 := xsb_ok i hi k hk
  have h3 : (nI k).toNatClampNeg = k := nI_clamp (by omega)
  have h4 := pk_nc (xsbyt i k &&& 255)
  rw [h1.1] at h4
  match i, hi, hk, q, h1, h4 with
  | 0, _, hk, q, h1, h4 =>
    refine CW_wp fJ1_charAt_3b067 rfl rfl rfl ?_
    refine c_strCheck k (xslen 0) hk h1.2 ?_
    refine xelse (nin hk h1.2) ?_
    rw [h3]
    refine And.intro (a := narrow .char (.int ((xsbyt 0 k &&& 255).toUInt32 % 65536).toInt32) = .int ((xsbyt 0 k &&& 255).toUInt32 % 65536).toInt32) ?_ ?_
    · rw [h1.1]; exact h4
    · show Q (some (.int ((xsbyt 0 k &&& 255).toUInt32 % 65536).toInt32)) (HH M)
      rw [h1.1]; exact q
  | 1, _, hk, q, h1, h4 =>
    refine CW_wp fJ1_charAt_3b067 rfl rfl rfl ?_
    refine c_strCheck k (xslen 1) hk h1.2 ?_
    refine xelse (nin hk h1.2) ?_
    rw [h3]
    refine And.intro (a := narrow .char (.int ((xsbyt 1 k &&& 255).toUInt32 % 65536).toInt32) = .int ((xsbyt 1 k &&& 255).toUInt32 % 65536).toInt32) ?_ ?_
    · rw [h1.1]; exact h4
    · show Q (some (.int ((xsbyt 1 k &&& 255).toUInt32 % 65536).toInt32)) (HH M)
      rw [h1.1]; exact q
  | 2, _, hk, q, h1, h4 =>
    refine CW_wp fJ1_charAt_3b067 rfl rfl rfl ?_
    refine c_strCheck k (xslen 2) hk h1.2 ?_
    refine xelse (nin hk h1.2) ?_
    rw [h3]
    refine And.intro (a := narrow .char (.int ((xsbyt 2 k &&& 255).toUInt32 % 65536).toInt32) = .int ((xsbyt 2 k &&& 255).toUInt32 % 65536).toInt32) ?_ ?_
    · rw [h1.1]; exact h4
    · show Q (some (.int ((xsbyt 2 k &&& 255).toUInt32 % 65536).toInt32)) (HH M)
      rw [h1.1]; exact q
  | 3, _, hk, q, h1, h4 =>
    refine CW_wp fJ1_charAt_3b067 rfl rfl rfl ?_
    refine c_strCheck k (xslen 3) hk h1.2 ?_
    refine xelse (nin hk h1.2) ?_
    rw [h3]
    refine And.intro (a := narrow .char (.int ((xsbyt 3 k &&& 255).toUInt32 % 65536).toInt32) = .int ((xsbyt 3 k &&& 255).toUInt32 % 65536).toInt32) ?_ ?_
    · rw [h1.1]; exact h4
    · show Q (some (.int ((xsbyt 3 k &&& 255).toUInt32 % 65536).toInt32)) (HH M)
      rw [h1.1]; exact q
  | 4, _, hk, q, h1, h4 =>
    refine CW_wp fJ1_charAt_3b067 rfl rfl rfl ?_
    refine c_strCheck k (xslen 4) hk h1.2 ?_
    refine xelse (nin hk h1.2) ?_
    rw [h3]
    refine And.intro (a := narrow .char (.int ((xsbyt 4 k &&& 255).toUInt32 % 65536).toInt32) = .int ((xsbyt 4 k &&& 255).toUInt32 % 65536).toInt32) ?_ ?_
    · rw [h1.1]; exact h4
    · show Q (some (.int ((xsbyt 4 k &&& 255).toUInt32 % 65536).toInt32)) (HH M)
      rw [h1.1]; exact q
  | 5, _, hk, q, h1, h4 =>
    refine CW_wp fJ1_charAt_3b067 rfl rfl rfl ?_
    refine c_strCheck k (xslen 5) hk h1.2 ?_
    refine xelse (nin hk h1.2) ?_
    rw [h3]
    refine And.intro (a := narrow .char (.int ((xsbyt 5 k &&& 255).toUInt32 % 65536).toInt32) = .int ((xsbyt 5 k &&& 255).toUInt32 % 65536).toInt32) ?_ ?_
    · rw [h1.1]; exact h4
    · show Q (some (.int ((xsbyt 5 k &&& 255).toUInt32 % 65536).toInt32)) (HH M)
      rw [h1.1]; exact q
  | 6, _, hk, q, h1, h4 =>
    refine CW_wp fJ1_charAt_3b067 rfl rfl rfl ?_
    refine c_strCheck k (xslen 6) hk h1.2 ?_
    refine xelse (nin hk h1.2) ?_
    rw [h3]
    refine And.intro (a := narrow .char (.int ((xsbyt 6 k &&& 255).toUInt32 % 65536).toInt32) = .int ((xsbyt 6 k &&& 255).toUInt32 % 65536).toInt32) ?_ ?_
    · rw [h1.1]; exact h4
    · show Q (some (.int ((xsbyt 6 k &&& 255).toUInt32 % 65536).toInt32)) (HH M)
      rw [h1.1]; exact q
  | 7, _, hk, q, h1, h4 =>
    refine CW_wp fJ1_charAt_3b067 rfl rfl rfl ?_
    refine c_strCheck k (xslen 7) hk h1.2 ?_
    refine xelse (nin hk h1.2) ?_
    rw [h3]
    refine And.intro (a := narrow .char (.int ((xsbyt 7 k &&& 255).toUInt32 % 65536).toInt32) = .int ((xsbyt 7 k &&& 255).toUInt32 % 65536).toInt32) ?_ ?_
    · rw [h1.1]; exact h4
    · show Q (some (.int ((xsbyt 7 k &&& 255).toUInt32 % 65536).toInt32)) (HH M)
      rw [h1.1]; exact q
  | 8, _, hk, q, h1, h4 =>
    refine CW_wp fJ1_charAt_3b067 rfl rfl rfl ?_
    refine c_strCheck k (xslen 8) hk h1.2 ?_
    refine xelse (nin hk h1.2) ?_
    rw [h3]
    refine And.intro (a := narrow .char (.int ((xsbyt 8 k &&& 255).toUInt32 % 65536).toInt32) = .int ((xsbyt 8 k &&& 255).toUInt32 % 65536).toInt32) ?_ ?_
    · rw [h1.1]; exact h4
    · show Q (some (.int ((xsbyt 8 k &&& 255).toUInt32 % 65536).toInt32)) (HH M)
      rw [h1.1]; exact q
  | 9, _, hk, q, h1, h4 =>
    refine CW_wp fJ1_charAt_3b067 rfl rfl rfl ?_
    refine c_strCheck k (xslen 9) hk h1.2 ?_
    refine xelse (nin hk h1.2) ?_
    rw [h3]
    refine And.intro (a := narrow .char (.int ((xsbyt 9 k &&& 255).toUInt32 % 65536).toInt32) = .int ((xsbyt 9 k &&& 255).toUInt32 % 65536).toInt32) ?_ ?_
    · rw [h1.1]; exact h4
    · show Q (some (.int ((xsbyt 9 k &&& 255).toUInt32 % 65536).toInt32)) (HH M)
      rw [h1.1]; exact q
  | 10, _, hk, q, h1, h4 =>
    refine CW_wp fJ1_charAt_3b067 rfl rfl rfl ?_
    refine c_strCheck k (xslen 10) hk h1.2 ?_
    refine xelse (nin hk h1.2) ?_
    rw [h3]
    refine And.intro (a := narrow .char (.int ((xsbyt 10 k &&& 255).toUInt32 % 65536).toInt32) = .int ((xsbyt 10 k &&& 255).toUInt32 % 65536).toInt32) ?_ ?_
    · rw [h1.1]; exact h4
    · show Q (some (.int ((xsbyt 10 k &&& 255).toUInt32 % 65536).toInt32)) (HH M)
      rw [h1.1]; exact q
  | 11, _, hk, q, h1, h4 =>
    refine CW_wp fJ1_charAt_3b067 rfl rfl rfl ?_
    refine c_strCheck k (xslen 11) hk h1.2 ?_
    refine xelse (nin hk h1.2) ?_
    rw [h3]
    refine And.intro (a := narrow .char (.int ((xsbyt 11 k &&& 255).toUInt32 % 65536).toInt32) = .int ((xsbyt 11 k &&& 255).toUInt32 % 65536).toInt32) ?_ ?_
    · rw [h1.1]; exact h4
    · show Q (some (.int ((xsbyt 11 k &&& 255).toUInt32 % 65536).toInt32)) (HH M)
      rw [h1.1]; exact q
  | 12, _, hk, q, h1, h4 =>
    refine CW_wp fJ1_charAt_3b067 rfl rfl rfl ?_
    refine c_strCheck k (xslen 12) hk h1.2 ?_
    refine xelse (nin hk h1.2) ?_
    rw [h3]
    refine And.intro (a := narrow .char (.int ((xsbyt 12 k &&& 255).toUInt32 % 65536).toInt32) = .int ((xsbyt 12 k &&& 255).toUInt32 % 65536).toInt32) ?_ ?_
    · rw [h1.1]; exact h4
    · show Q (some (.int ((xsbyt 12 k &&& 255).toUInt32 % 65536).toInt32)) (HH M)
      rw [h1.1]; exact q
  | 13, _, hk, q, h1, h4 =>
    refine CW_wp fJ1_charAt_3b067 rfl rfl rfl ?_
    refine c_strCheck k (xslen 13) hk h1.2 ?_
    refine xelse (nin hk h1.2) ?_
    rw [h3]
    refine And.intro (a := narrow .char (.int ((xsbyt 13 k &&& 255).toUInt32 % 65536).toInt32) = .int ((xsbyt 13 k &&& 255).toUInt32 % 65536).toInt32) ?_ ?_
    · rw [h1.1]; exact h4
    · show Q (some (.int ((xsbyt 13 k &&& 255).toUInt32 % 65536).toInt32)) (HH M)
      rw [h1.1]; exact q
  | 14, _, hk, q, h1, h4 =>
    refine CW_wp fJ1_charAt_3b067 rfl rfl rfl ?_
    refine c_strCheck k (xslen 14) hk h1.2 ?_
    refine xelse (nin hk h1.2) ?_
    rw [h3]
    refine And.intro (a := narrow .char (.int ((xsbyt 14 k &&& 255).toUInt32 % 65536).toInt32) = .int ((xsbyt 14 k &&& 255).toUInt32 % 65536).toInt32) ?_ ?_
    · rw [h1.1]; exact h4
    · show Q (some (.int ((xsbyt 14 k &&& 255).toUInt32 % 65536).toInt32)) (HH M)
      rw [h1.1]; exact q
  | i + 15, hi, _, _, _, _ => exact absurd hi (by omega)
theorem c_charAt (i : Nat) (hi : i < 15) (k : Nat) (hk : k < xslen i) (q : Q (some (.int (xsbyt i k))) (HH M)) : CW G (d + 3) jJ0_charAt_5068e [.ref (1100 + i), .int (nI k)] (HH M) Q := by
  have h1 := xsb_ok i hi k hk
  have h4 := pk_nc (xsbyt i k &&& 255)
  rw [h1.1] at h4
  match i, hi, hk, q, h4 with
  | 0, _, hk, q, h4 =>
    refine CW_wp fJ0_charAt_5068e rfl rfl rfl ?_
    refine c_isLatin1 0 (by decide) ?_
    refine c_lat1 0 (by decide) k hk ?_
    exact And.intro h4 q
  | 1, _, hk, q, h4 =>
    refine CW_wp fJ0_charAt_5068e rfl rfl rfl ?_
    refine c_isLatin1 1 (by decide) ?_
    refine c_lat1 1 (by decide) k hk ?_
    exact And.intro h4 q
  | 2, _, hk, q, h4 =>
    refine CW_wp fJ0_charAt_5068e rfl rfl rfl ?_
    refine c_isLatin1 2 (by decide) ?_
    refine c_lat1 2 (by decide) k hk ?_
    exact And.intro h4 q
  | 3, _, hk, q, h4 =>
    refine CW_wp fJ0_charAt_5068e rfl rfl rfl ?_
    refine c_isLatin1 3 (by decide) ?_
    refine c_lat1 3 (by decide) k hk ?_
    exact And.intro h4 q
  | 4, _, hk, q, h4 =>
    refine CW_wp fJ0_charAt_5068e rfl rfl rfl ?_
    refine c_isLatin1 4 (by decide) ?_
    refine c_lat1 4 (by decide) k hk ?_
    exact And.intro h4 q
  | 5, _, hk, q, h4 =>
    refine CW_wp fJ0_charAt_5068e rfl rfl rfl ?_
    refine c_isLatin1 5 (by decide) ?_
    refine c_lat1 5 (by decide) k hk ?_
    exact And.intro h4 q
  | 6, _, hk, q, h4 =>
    refine CW_wp fJ0_charAt_5068e rfl rfl rfl ?_
    refine c_isLatin1 6 (by decide) ?_
    refine c_lat1 6 (by decide) k hk ?_
    exact And.intro h4 q
  | 7, _, hk, q, h4 =>
    refine CW_wp fJ0_charAt_5068e rfl rfl rfl ?_
    refine c_isLatin1 7 (by decide) ?_
    refine c_lat1 7 (by decide) k hk ?_
    exact And.intro h4 q
  | 8, _, hk, q, h4 =>
    refine CW_wp fJ0_charAt_5068e rfl rfl rfl ?_
    refine c_isLatin1 8 (by decide) ?_
    refine c_lat1 8 (by decide) k hk ?_
    exact And.intro h4 q
  | 9, _, hk, q, h4 =>
    refine CW_wp fJ0_charAt_5068e rfl rfl rfl ?_
    refine c_isLatin1 9 (by decide) ?_
    refine c_lat1 9 (by decide) k hk ?_
    exact And.intro h4 q
  | 10, _, hk, q, h4 =>
    refine CW_wp fJ0_charAt_5068e rfl rfl rfl ?_
    refine c_isLatin1 10 (by decide) ?_
    refine c_lat1 10 (by decide) k hk ?_
    exact And.intro h4 q
  | 11, _, hk, q, h4 =>
    refine CW_wp fJ0_charAt_5068e rfl rfl rfl ?_
    refine c_isLatin1 11 (by decide) ?_
    refine c_lat1 11 (by decide) k hk ?_
    exact And.intro h4 q
  | 12, _, hk, q, h4 =>
    refine CW_wp fJ0_charAt_5068e rfl rfl rfl ?_
    refine c_isLatin1 12 (by decide) ?_
    refine c_lat1 12 (by decide) k hk ?_
    exact And.intro h4 q
  | 13, _, hk, q, h4 =>
    refine CW_wp fJ0_charAt_5068e rfl rfl rfl ?_
    refine c_isLatin1 13 (by decide) ?_
    refine c_lat1 13 (by decide) k hk ?_
    exact And.intro h4 q
  | 14, _, hk, q, h4 =>
    refine CW_wp fJ0_charAt_5068e rfl rfl rfl ?_
    refine c_isLatin1 14 (by decide) ?_
    refine c_lat1 14 (by decide) k hk ?_
    exact And.intro h4 q
  | i + 15, hi, _, _, _ => exact absurd hi (by omega)
end ST
