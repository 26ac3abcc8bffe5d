theorem mo_arr {args : Array Value} {s : State} {ty : FieldType} (h : (Cond.arrayClass ty).before args s = true) (hp : ∀ cA : ClassId, s.vm.findClass ("[" ++ ty.toString) = some cA → va_RA s cA ty) : ∃ cA : ClassId, ArrOfT s cA ty ∧ va_RA s cA ty := by
  obtain ⟨cA, kA, comp, h1, h2, h3⟩ := Cond.arrayClass_spec h
  exact ⟨cA, fun n z => ⟨fun k h => (by cases h), kA, h2, comp, h3⟩, hp cA h1⟩
theorem mo_arq {args : Array Value} {s : State} {C : String} (h : (Cond.arrayOver (.object C)).before args s = true) : ∃ cA : ClassId, ArrOfT s cA (.object C) ∧ va_RA s cA (.object C) := by
  obtain ⟨comp, c, k, h1, h2, h3, h4, h5⟩ := Cond.arrayOver_spec h
  exact ⟨c, fun n z => ⟨fun k h => (by cases h), k, h3, comp, h4⟩, k, comp, h3, h4, h1, h5⟩
set_option maxRecDepth 100000 in
theorem mo_K0 {s : State} {b : Nat} (hts : ∀ w ∈ lw_tbl, w.before #[Value.ref b] s = true) : ∃ (D : va_G) (dA : Nat → ClassId), mo_K D dA s := by
  have hw : ∀ w ∈ wsL_law, w.before #[Value.ref b] s = true := fun w h => hts w (tt_law w h)
  obtain ⟨c0, iS0, hKn0⟩ := u_known (C := RX0) (T := TX0) (N := 4) (n := 4) hw inlX0 (hw _ tb_32)
  obtain ⟨c1, iS1, hKn1⟩ := u_known (C := RX1) (T := TX1) (N := 8) (n := 8) hw inlX1 (hw _ tb_68)
  obtain ⟨c2, iS2, hKn2⟩ := u_known (C := RX2) (T := TX2) (N := 6) (n := 6) hw inlX2 (hw _ tb_71)
  obtain ⟨c3, iS3, hKn3⟩ := u_known (C := RX3) (T := TX3) (N := 9) (n := 9) hw inlX3 (hw _ tb_64)
  obtain ⟨c4, iS4, hKn4⟩ := u_known (C := RX4) (T := TX4) (N := 4) (n := 4) hw inlX4 (hw _ tb_207)
  obtain ⟨c5, iS5, hKn5⟩ := u_known (C := RX5) (T := TX5) (N := 5) (n := 5) hw inlX5 (hw _ tb_28)
  obtain ⟨c6, iS6, hKn6⟩ := u_known (C := RX6) (T := TX6) (N := 3) (n := 3) hw inlX6 (hw _ tb_90)
  obtain ⟨c7, iS7, hKn7⟩ := u_known (C := RX7) (T := TX7) (N := 9) (n := 9) hw inlX7 (hw _ tb_17)
  obtain ⟨c8, iS8, hKn8⟩ := u_known (C := RX8) (T := TX8) (N := 5) (n := 5) hw inlX8 (hw _ tb_662)
  obtain ⟨c9, iS9, hKn9⟩ := u_known (C := RX9) (T := TX9) (N := 2) (n := 2) hw inlX9 (hw _ tb_45)
  obtain ⟨c10, iS10, hKn10⟩ := u_known (C := RX10) (T := TX10) (N := 5) (n := 5) hw inlX10 (hw _ tb_1)
  obtain ⟨c11, iS11, hKn11⟩ := u_known (C := RX11) (T := TX11) (N := 56) (n := 56) hw inlX11 (hw _ tb_4)
  obtain ⟨a0, ha0⟩ := mo_arr (hw _ tb_40) (fun _ h => h)
  obtain ⟨a1, ha1⟩ := mo_arr (hw _ tb_120) (fun _ h => h)
  obtain ⟨a2, ha2⟩ := mo_arq (hts _ tt_988)
  obtain ⟨a3, ha3⟩ := mo_arq (hts _ tt_989)
  obtain ⟨a4, ha4⟩ := mo_arq (hts _ tt_990)
  obtain ⟨a5, ha5⟩ := mo_arq (hts _ tt_991)
  refine ⟨(fun k => match k with | 0 => c0 | 1 => c1 | 2 => c2 | 3 => c3 | 4 => c4 | 5 => c5 | 6 => c6 | 7 => c7 | 8 => c8 | 9 => c9 | 10 => c10 | _ => c11, fun k => match k with | 0 => iS0 | 1 => iS1 | 2 => iS2 | 3 => iS3 | 4 => iS4 | 5 => iS5 | 6 => iS6 | 7 => iS7 | 8 => iS8 | 9 => iS9 | 10 => iS10 | _ => iS11), fun k => match k with | 0 => a0 | 1 => a1 | 2 => a2 | 3 => a3 | 4 => a4 | _ => a5, ⟨?_, ?_⟩, fun w h => ?_, va_AO.of (hts _ tt_988), va_AO.of (hts _ tt_989), va_AO.of (hts _ tt_990), va_AO.of (hts _ tt_991), fun w h => word_at (State.WarmedH.refl s) (tb_gd h) (hw w h)⟩
  · intro k q hq
    match k, hq with
    | 0, hq => cases hq; exact hKn0
    | 1, hq => cases hq; exact hKn1
    | 2, hq => cases hq; exact hKn2
    | 3, hq => cases hq; exact hKn3
    | 4, hq => cases hq; exact hKn4
    | 5, hq => cases hq; exact hKn5
    | 6, hq => cases hq; exact hKn6
    | 7, hq => cases hq; exact hKn7
    | 8, hq => cases hq; exact hKn8
    | 9, hq => cases hq; exact hKn9
    | 10, hq => cases hq; exact hKn10
    | 11, hq => cases hq; exact hKn11
    | n + 12, hq => simp [vwCl] at hq
  · intro k q hq
    match k, hq with
    | 0, hq => cases hq; exact ha0
    | 1, hq => cases hq; exact ha1
    | 2, hq => cases hq; exact ha2
    | 3, hq => cases hq; exact ha3
    | 4, hq => cases hq; exact ha4
    | 5, hq => cases hq; exact ha5
    | n + 6, hq => simp [mo_T] at hq
  · have hn := List.all_eq_true.mp mo_Ns_ok w h
    have hz := hts w (tt_Ns w h)
    unfold mo_isN at hn
    split at hn
    · exact va_Nw.of rfl hz
    · exact va_Nw.of rfl hz
    · cases hn
/-- the claim's walk out of the law's program: what is left is pure -/
theorem whole_open (PURE : ∀ (L sz : Nat) (xs : Nat → Int32), L ≤ 2561 → ∃ h2 : mo_H, (F_L_law L xs).1 ((fun _ => none, sz, 0) : mo_H) = some (1, h2) ∧ h2.2.1 - sz ≤ 600000 ∧ h2.2.2 ≤ 7000000) {p : Program} {e : Env} {s : State} {m : MethodId} {below : List Frame} {meth : Method} {c : Code} (l : Launch) {b L : Nat} {xs : Nat → Int32} (hL : L ≤ 2561) (C0 : lw_At p s m meth c b L xs) : W p l e room_1 s m #[Value.ref b] below meth c s.heap [] 0 0 (lw_Z below #[Value.ref b] s) (entryFrame m ([Value.ref b] : List Value).toArray 4) := by
  obtain ⟨hx, hb, hr, hml, hown, hts, hX, hbl, hlocks, hgv⟩ := C0
  obtain ⟨D, dA, hK⟩ := mo_K0 hts
  obtain ⟨h2, hF, hc, hs⟩ := PURE L s.heap.size xs hL
  have hl := lv_entry ([.ref b]) (n := 4) (Nat.le_of_ble_eq_true rfl)
  rw [lg_entry_eq]
  generalize (lg_sl ([.ref b]) ++ List.replicate (4 - (lg_sl ([.ref b])).length) Slot.unset).toArray = ls at hl ⊢
  have hl : lv_has ls 4 [(0, .ref b)] := hl
  have hk := mo_law (l := l) (e := e) (below := below) (h0 := (fun _ => none, s.heap.size, 0)) ⟨hx, hb, hown, fun w h => hts w (tt_law w h), hK, ⟨Nat.le_trans hc (Nat.le_of_ble_eq_true rfl), Nat.le_trans (Nat.sub_le _ _) (Nat.le_trans hs (Nat.le_of_ble_eq_true rfl))⟩, Nat.le_refl _⟩ hml hr hlocks hX hbl hF ⟨⟨rfl, Nat.le_refl _, fun a e h => by cases h⟩, va_S.rf, mo_le.rf _⟩ hl
  rw [Nat.sub_self, Nat.sub_self] at hk
  exact hk
