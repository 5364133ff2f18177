/-! THE LAW out of a pure statement on the small machine. -/
/-- what is owed of pure data: the law's code, from its entry, comes to its end with 1, by the contracts at the depth 11 -/
def LawPure : Prop := ∀ (G : xG), gN G ≤ 3072 → ∀ (LE : Nat → xL → List Value → xH → Nat → Nat → Prop),
  (∀ (pc : Nat) (ls : xL) (st : List Value) (h : xH) (cs ss : Nat), wpI (xX (gN G) (gX G)) (CW G 11) xal 600000 7302250 2 (fun w _ => w = some (.int 1)) LE kL_law 400 true (xseek pc kL_law) ls st h cs ss → LE pc ls st h cs ss) →
  LE 0 [some (.ref 1000), none, none, none] [] ([], fun _ _ => none, fun _ _ => 0) 0 0
theorem whole_of (law : LawPure) {p : Program} {e : Env} {s : State} {m : MethodId} {below : List Frame} {meth : Method} {c : Code} (l : Launch) {b L : Nat} {xs : Nat → Int32} (hL : L ≤ 3072) (C0 : lw_At p s m meth c b L xs) : W p l e room_1 s m #[Value.ref b] below meth c s.heap [] 0 0 (lw_Z below #[Value.ref b] s) (entryFrame m ([Value.ref b] : List Value).toArray 4) := by
  obtain ⟨G, hGL, hGB, hGH, hGN, hGX, hGE, hG⟩ := x_world l C0
  obtain ⟨hx, hb, hr, hml, hown, hts, hX, hbl, hlocks, hgv⟩ := id C0
  have hO := hG.2.2.2.2.2.2.2.2.2.2.2.1
  have C : xCx G p room_1 s m #[Value.ref b] c cL_law 4 "EchoValleyLaw" := ⟨hx, hb, hml, hown, fun w hw => hts w (List.mem_filter.mp hw).1, hG, ⟨by rw [hGB]; exact Nat.le_refl _, fun q _ => by rw [hGH]⟩, by decide, by decide⟩
  have hret : xRet G p e room_1 s m #[Value.ref b] below meth c cL_law 600000 7302250 2 (lw_Z below #[Value.ref b] s) (fun w _ => w = some (.int 1)) := by
    intro w h H locs cs ss pc LS ins hw hrep hl hz hc hs hok hdg
    subst hw
    have hins : ins = .ireturn := by
      rcases hok with ⟨h1, -⟩ | ⟨-, -, x, h2⟩ | ⟨-, -, h2⟩
      · exact h1
      · cases h2
      · cases h2
    subst hins
    rw [hGL]
    refine va_forget (fun q hq => by rw [← hGB]; exact hl q hq) ?_
    refine W.widen (k := 600000) (n := 7302250) hc hs ?_
    exact lw_ret hx hb hr hlocks hdg
  have key := law G (by rw [hGN]; exact hL) (fun pc ls st h cs ss => ∀ (H : Heap) (locs : List Loc) (LS : Array Slot), xSt G s 4 600000 7302250 h ls cs ss H locs LS → W p (gL G) e room_1 s m #[Value.ref b] below meth c H locs cs ss (lw_Z below #[Value.ref b] s) (F0 m pc LS (st.map (xcv G))))
    (fun pc ls st h cs ss hw H locs LS S => x_run (d := 11) C (Or.inl ⟨by decide, by decide⟩) ⟨rfl, rfl⟩ (fun z => by cases z) hret (fun a as h Q hk => by rw [← CW_eq]; exact hk) oL_law (fun t ls st h cs ss H locs LS hE S => hE H locs LS S) 400 true (xseek pc kL_law) pc (xokC_seek oL_law) (fun f is' hh => xseek_head f is' hh) _ _ _ _ _ _ _ _ hw S)
  have hl := lv_entry ([Value.ref b]) (n := 4) (Nat.le_of_ble_eq_true rfl)
  rw [lg_entry_eq]
  generalize (lg_sl ([Value.ref b]) ++ List.replicate (4 - (lg_sl ([Value.ref b])).length) Slot.unset).toArray = LS at hl ⊢
  have e1 : ([Value.ref 1000] : List Value).map (xcv G) = [Value.ref b] := by
    rw [List.map_cons, x_refX (by omega) (by omega), hGE]; rfl
  have hl2 : lv_has LS 4 (xprs G [some (.ref 1000), none, none, none]) := x_entry (vs := [.ref 1000]) hO (by rw [e1]; exact hl)
  rw [← hGL]
  exact key s.heap [] LS ⟨⟨⟨Nat.zero_le _, fun k j q hq => by cases hq⟩, by rw [hGB]; rfl, fun k q hk => by simp at hk, fun k q ci hk => by simp at hk, fun q _ => by rw [hGH]⟩, hl2, fun q hq => absurd hq List.not_mem_nil, Nat.le_refl _, Nat.zero_le _, Nat.zero_le _⟩
