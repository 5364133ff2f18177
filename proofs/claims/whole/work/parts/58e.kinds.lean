/-! The model's kinds. -/
section LQ
variable {G : xG} {d : Nat} {M : xM} {Q : Option Value → xH → Prop} {b : Nat → Nat} {T : Nat}
theorem m_kind0 (tp : TpM b T M) (e : Nat) (he : e ≤ T) (lx : LxM b T e M) (v : Int32) (q1 : wdT b T e 6 = true → Ev G (d + 5) jX9_readItem 4 [some (.ref 59), some (.int 0), some (.int 1), none] [] (HH M) 0 0 Q) (q0 : wdT b T e 6 = false → Ev G (d + 5) jX9_readItem 4 [some (.ref 59), some (.int v), some (.int 1), none] [] (HH M) 0 0 Q) : Ev G (d + 5) jX9_readItem 4 [some (.ref 59), some (.int v), some (.int 0), none] [] (HH M) 0 0 Q := by
  refine Ev_wp fX9_readItem rfl ?_
  refine m_isWord6 tp e he lx (fun c => ?_) (fun c => ?_)
  · exact q1 c
  · exact q0 c
theorem m_kind1 (tp : TpM b T M) (e : Nat) (he : e ≤ T) (lx : LxM b T e M) (v : Int32) (q1 : wdT b T e 7 = true → Ev G (d + 5) jX9_readItem 4 [some (.ref 59), some (.int 1), some (.int 2), none] [] (HH M) 0 0 Q) (q0 : wdT b T e 7 = false → Ev G (d + 5) jX9_readItem 4 [some (.ref 59), some (.int v), some (.int 2), none] [] (HH M) 0 0 Q) : Ev G (d + 5) jX9_readItem 4 [some (.ref 59), some (.int v), some (.int 1), none] [] (HH M) 0 0 Q := by
  refine Ev_wp fX9_readItem rfl ?_
  refine m_isWord7 tp e he lx (fun c => ?_) (fun c => ?_)
  · exact q1 c
  · exact q0 c
theorem m_kind2 (tp : TpM b T M) (e : Nat) (he : e ≤ T) (lx : LxM b T e M) (v : Int32) (q1 : wdT b T e 8 = true → Ev G (d + 5) jX9_readItem 4 [some (.ref 59), some (.int 2), some (.int 3), none] [] (HH M) 0 0 Q) (q0 : wdT b T e 8 = false → Ev G (d + 5) jX9_readItem 4 [some (.ref 59), some (.int v), some (.int 3), none] [] (HH M) 0 0 Q) : Ev G (d + 5) jX9_readItem 4 [some (.ref 59), some (.int v), some (.int 2), none] [] (HH M) 0 0 Q := by
  refine Ev_wp fX9_readItem rfl ?_
  refine m_isWord8 tp e he lx (fun c => ?_) (fun c => ?_)
  · exact q1 c
  · exact q0 c
theorem m_kind3 (tp : TpM b T M) (e : Nat) (he : e ≤ T) (lx : LxM b T e M) (v : Int32) (q1 : wdT b T e 9 = true → Ev G (d + 5) jX9_readItem 4 [some (.ref 59), some (.int 3), some (.int 4), none] [] (HH M) 0 0 Q) (q0 : wdT b T e 9 = false → Ev G (d + 5) jX9_readItem 4 [some (.ref 59), some (.int v), some (.int 4), none] [] (HH M) 0 0 Q) : Ev G (d + 5) jX9_readItem 4 [some (.ref 59), some (.int v), some (.int 3), none] [] (HH M) 0 0 Q := by
  refine Ev_wp fX9_readItem rfl ?_
  refine m_isWord9 tp e he lx (fun c => ?_) (fun c => ?_)
  · exact q1 c
  · exact q0 c
theorem m_kind4 (tp : TpM b T M) (e : Nat) (he : e ≤ T) (lx : LxM b T e M) (v : Int32) (q1 : wdT b T e 10 = true → Ev G (d + 5) jX9_readItem 4 [some (.ref 59), some (.int 4), some (.int 5), none] [] (HH M) 0 0 Q) (q0 : wdT b T e 10 = false → Ev G (d + 5) jX9_readItem 4 [some (.ref 59), some (.int v), some (.int 5), none] [] (HH M) 0 0 Q) : Ev G (d + 5) jX9_readItem 4 [some (.ref 59), some (.int v), some (.int 4), none] [] (HH M) 0 0 Q := by
  refine Ev_wp fX9_readItem rfl ?_
  refine m_isWord10 tp e he lx (fun c => ?_) (fun c => ?_)
  · exact q1 c
  · exact q0 c
theorem m_kind5 (tp : TpM b T M) (e : Nat) (he : e ≤ T) (lx : LxM b T e M) (v : Int32) (q1 : wdT b T e 11 = true → Ev G (d + 5) jX9_readItem 4 [some (.ref 59), some (.int 5), some (.int 6), none] [] (HH M) 0 0 Q) (q0 : wdT b T e 11 = false → Ev G (d + 5) jX9_readItem 4 [some (.ref 59), some (.int v), some (.int 6), none] [] (HH M) 0 0 Q) : Ev G (d + 5) jX9_readItem 4 [some (.ref 59), some (.int v), some (.int 5), none] [] (HH M) 0 0 Q := by
  refine Ev_wp fX9_readItem rfl ?_
  refine m_isWord11 tp e he lx (fun c => ?_) (fun c => ?_)
  · exact q1 c
  · exact q0 c
theorem m_kind6 (tp : TpM b T M) (e : Nat) (he : e ≤ T) (lx : LxM b T e M) (v : Int32) (q1 : wdT b T e 12 = true → Ev G (d + 5) jX9_readItem 4 [some (.ref 59), some (.int 6), some (.int 7), none] [] (HH M) 0 0 Q) (q0 : wdT b T e 12 = false → Ev G (d + 5) jX9_readItem 4 [some (.ref 59), some (.int v), some (.int 7), none] [] (HH M) 0 0 Q) : Ev G (d + 5) jX9_readItem 4 [some (.ref 59), some (.int v), some (.int 6), none] [] (HH M) 0 0 Q := by
  refine Ev_wp fX9_readItem rfl ?_
  refine m_isWord12 tp e he lx (fun c => ?_) (fun c => ?_)
  · exact q1 c
  · exact q0 c
theorem m_kinds (tp : TpM b T M) (e : Nat) (he : e ≤ T) (lx : LxM b T e M) (q : ∀ v : Int32, (∀ k, kdT b T e = some k → k < 7 ∧ v = nI k) → (kdT b T e = none → v = -1) → Ev G (d + 5) jX9_readItem 4 [some (.ref 59), some (.int v), some (.int 7), none] [] (HH M) 0 0 Q) : Ev G (d + 5) jX9_readItem 4 [some (.ref 59), some (.int (-1)), some (.int 0), none] [] (HH M) 0 0 Q := by
  unfold kdT at q
  refine m_kind0 tp e he lx _ (fun c => ?_) (fun c0 => ?_)
  · refine m_kind1 tp e he lx _ (fun c' => absurd (wd_inj (by decide) (by decide) c c') (by decide)) (fun _ => ?_)
    refine m_kind2 tp e he lx _ (fun c' => absurd (wd_inj (by decide) (by decide) c c') (by decide)) (fun _ => ?_)
    refine m_kind3 tp e he lx _ (fun c' => absurd (wd_inj (by decide) (by decide) c c') (by decide)) (fun _ => ?_)
    refine m_kind4 tp e he lx _ (fun c' => absurd (wd_inj (by decide) (by decide) c c') (by decide)) (fun _ => ?_)
    refine m_kind5 tp e he lx _ (fun c' => absurd (wd_inj (by decide) (by decide) c c') (by decide)) (fun _ => ?_)
    refine m_kind6 tp e he lx _ (fun c' => absurd (wd_inj (by decide) (by decide) c c') (by decide)) (fun _ => ?_)
    exact q 0 (fun k hk => by simp [c] at hk; subst hk; exact ⟨by decide, rfl⟩) (fun hk => by simp [c] at hk)
  refine m_kind1 tp e he lx _ (fun c => ?_) (fun c1 => ?_)
  · refine m_kind2 tp e he lx _ (fun c' => absurd (wd_inj (by decide) (by decide) c c') (by decide)) (fun _ => ?_)
    refine m_kind3 tp e he lx _ (fun c' => absurd (wd_inj (by decide) (by decide) c c') (by decide)) (fun _ => ?_)
    refine m_kind4 tp e he lx _ (fun c' => absurd (wd_inj (by decide) (by decide) c c') (by decide)) (fun _ => ?_)
    refine m_kind5 tp e he lx _ (fun c' => absurd (wd_inj (by decide) (by decide) c c') (by decide)) (fun _ => ?_)
    refine m_kind6 tp e he lx _ (fun c' => absurd (wd_inj (by decide) (by decide) c c') (by decide)) (fun _ => ?_)
    exact q 1 (fun k hk => by simp [c0, c] at hk; subst hk; exact ⟨by decide, rfl⟩) (fun hk => by simp [c0, c] at hk)
  refine m_kind2 tp e he lx _ (fun c => ?_) (fun c2 => ?_)
  · refine m_kind3 tp e he lx _ (fun c' => absurd (wd_inj (by decide) (by decide) c c') (by decide)) (fun _ => ?_)
    refine m_kind4 tp e he lx _ (fun c' => absurd (wd_inj (by decide) (by decide) c c') (by decide)) (fun _ => ?_)
    refine m_kind5 tp e he lx _ (fun c' => absurd (wd_inj (by decide) (by decide) c c') (by decide)) (fun _ => ?_)
    refine m_kind6 tp e he lx _ (fun c' => absurd (wd_inj (by decide) (by decide) c c') (by decide)) (fun _ => ?_)
    exact q 2 (fun k hk => by simp [c0, c1, c] at hk; subst hk; exact ⟨by decide, rfl⟩) (fun hk => by simp [c0, c1, c] at hk)
  refine m_kind3 tp e he lx _ (fun c => ?_) (fun c3 => ?_)
  · refine m_kind4 tp e he lx _ (fun c' => absurd (wd_inj (by decide) (by decide) c c') (by decide)) (fun _ => ?_)
    refine m_kind5 tp e he lx _ (fun c' => absurd (wd_inj (by decide) (by decide) c c') (by decide)) (fun _ => ?_)
    refine m_kind6 tp e he lx _ (fun c' => absurd (wd_inj (by decide) (by decide) c c') (by decide)) (fun _ => ?_)
    exact q 3 (fun k hk => by simp [c0, c1, c2, c] at hk; subst hk; exact ⟨by decide, rfl⟩) (fun hk => by simp [c0, c1, c2, c] at hk)
  refine m_kind4 tp e he lx _ (fun c => ?_) (fun c4 => ?_)
  · refine m_kind5 tp e he lx _ (fun c' => absurd (wd_inj (by decide) (by decide) c c') (by decide)) (fun _ => ?_)
    refine m_kind6 tp e he lx _ (fun c' => absurd (wd_inj (by decide) (by decide) c c') (by decide)) (fun _ => ?_)
    exact q 4 (fun k hk => by simp [c0, c1, c2, c3, c] at hk; subst hk; exact ⟨by decide, rfl⟩) (fun hk => by simp [c0, c1, c2, c3, c] at hk)
  refine m_kind5 tp e he lx _ (fun c => ?_) (fun c5 => ?_)
  · refine m_kind6 tp e he lx _ (fun c' => absurd (wd_inj (by decide) (by decide) c c') (by decide)) (fun _ => ?_)
    exact q 5 (fun k hk => by simp [c0, c1, c2, c3, c4, c] at hk; subst hk; exact ⟨by decide, rfl⟩) (fun hk => by simp [c0, c1, c2, c3, c4, c] at hk)
  refine m_kind6 tp e he lx _ (fun c => ?_) (fun c6 => ?_)
  · exact q 6 (fun k hk => by simp [c0, c1, c2, c3, c4, c5, c] at hk; subst hk; exact ⟨by decide, rfl⟩) (fun hk => by simp [c0, c1, c2, c3, c4, c5, c] at hk)
  exact q (-1) (fun k hk => by simp [c0, c1, c2, c3, c4, c5, c6] at hk) (fun _ => rfl)
end LQ
