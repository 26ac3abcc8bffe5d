/-! THE START: the plan, the actions -/
def PL (h : mo_H) (P nd : Nat) (fp : List Value) : Prop := h.1 P = some (.inr (7, fp)) ∧ h.1 (P + 1) = some (.inl (0, nd, .inl (fun j => if j < nd then nI (2 ^ j) else 0))) ∧ h.1 (P + 2) = some (.inl (2, nd, gRef (fun j => if j < nd then some (P + 4 + 2 * j) else none))) ∧ h.1 (P + 3) = some (aI nd 0) ∧ (∀ j, j < nd → RwF h (P + 4 + 2 * j) 8)
def PK (h : mo_H) (P nd i : Nat) : Prop := h.1 (P + 4 + 2 * nd) = some (.inl (3, 12, gRef (fun _ => none))) ∧ h.1 (P + 5 + 2 * nd) = some (.inl (2, 3, gRef (fun j => if j < i then some (P + 7 + 2 * nd + 4 * j) else none))) ∧ h.1 (P + 6 + 2 * nd) = some (.inl (2, 3, gRef (fun j => if j < i then some (P + 9 + 2 * nd + 4 * j) else none))) ∧ ∀ j, j < i → RwF h (P + 7 + 2 * nd + 4 * j) 4 ∧ RwF h (P + 9 + 2 * nd + 4 * j) 4
def fpl (P nd : Nat) : List Value := [.int (nI nd), .ref (P + 1), .ref (P + 4 + 2 * nd), .int 0, .ref (P + 2), .ref (P + 3), .ref (P + 5 + 2 * nd), .ref (P + 6 + 2 * nd), .int 0]
section FJ
variable {h h0 h1 h' : mo_H} {P nd S : Nat} {fp : List Value}
theorem PL.cg (x : PL h P nd fp) (e : ∀ q, P ≤ q → q < P + 4 + 2 * nd → h'.1 q = h.1 q) : PL h' P nd fp := ⟨by rw [e _ (by omega) (by omega)]; exact x.1, by rw [e _ (by omega) (by omega)]; exact x.2.1, by rw [e _ (by omega) (by omega)]; exact x.2.2.1, by rw [e _ (by omega) (by omega)]; exact x.2.2.2.1, fun j hj => (x.2.2.2.2 j hj).cg (fun q h1 h2 => e q (by omega) (by omega))⟩
theorem PK.cg {i : Nat} (hi : i ≤ 3) (x : PK h P nd i) (e : ∀ q, P + 4 + 2 * nd ≤ q → q < P + 7 + 2 * nd + 4 * i → h'.1 q = h.1 q) : PK h' P nd i := ⟨by rw [e _ (by omega) (by omega)]; exact x.1, by rw [e _ (by omega) (by omega)]; exact x.2.1, by rw [e _ (by omega) (by omega)]; exact x.2.2.1, fun j hj => ⟨(x.2.2.2 j hj).1.cg (fun q h1 h2 => e q (by omega) (by omega)), (x.2.2.2 j hj).2.cg (fun q h1 h2 => e q (by omega) (by omega))⟩⟩
theorem f_p95 (hnd : nd ≤ 6) : ∀ (fu i : Nat) (h : mo_H), 3 - i < fu → i ≤ 3 → h.2.1 = P + 7 + 2 * nd + 4 * i → h.2.2 ≤ S + 12 * i → (∀ q, q < P → h.1 q = h0.1 q) → PL h P nd (fpl P nd) → PK h P nd i → fh (F_X7_init_95 fu P (nI i)) h (fun _ h' => h'.2.1 = P + 19 + 2 * nd ∧ h'.2.2 ≤ S + 36 ∧ (∀ q, q < P → h'.1 q = h0.1 q) ∧ PL h' P nd (fpl P nd) ∧ PK h' P nd 3)
  | 0, i, h, hf, _, _, _, _, _, _ => by omega
  | fu + 1, i, h, hf, hi, x1, x2, x3, x4, x5 => by
    unfold F_X7_init_95
    by_cases c : 3 ≤ i
    · have e : i = 3 := by omega
      subst e
      exact f_T ((nI_leI (a := 3) (by omega) (by omega)).mpr c) (f_r ⟨by omega, by omega, x3, x4, x5⟩)
    · refine f_F (fun q => c ((nI_leI (a := 3) (by omega) (by omega)).mp q)) ?_
      refine f_gR x4.1 rfl (f_row (m := 4) rfl (by omega) (by omega) (fun h1 a1 a2 => ?_))
      have a3 := a1.2
      have b1 : h1.2.1 = P + 9 + 2 * nd + 4 * i := by rw [a1.1, x1]; omega
      rw [x1] at a2 a3 ⊢
      refine f_sq a2.1 (by rw [a3 _ (by omega)]; exact x5.2.1) rfl (by omega) (by omega) (fun h2 c1 c2 c3 => ?_)
      have x42 : PL h2 P nd (fpl P nd) := x4.cg (fun q h1 h2 => by rw [c3 q (by omega), a3 q (by omega)])
      have b2 : h2.2.1 = P + 9 + 2 * nd + 4 * i := by rw [c1, b1]
      refine f_gR x42.1 rfl (f_row (m := 4) rfl (by omega) (by omega) (fun h3 d1 d2 => ?_))
      have d3 := d1.2
      rw [b2] at d2 d3 ⊢
      refine f_sq d2.1 (by rw [d3 _ (by omega), c3 _ (by omega), a3 _ (by omega)]; exact x5.2.2.1) rfl (by omega) (by omega) (fun h4 g1 g2 g3 => ?_)
      rw [nI_1]
      refine f_p95 hnd fu (i + 1) h4 (by omega) (by omega) ?_ ?_ (fun q hq => ?_) (x42.cg (fun q h1 h2 => by rw [g3 q (by omega), d3 q (by omega)])) ⟨?_, ?_, ?_, fun j hj => ?_⟩
      · rw [g1, d1.1, b2]; show P + 9 + 2 * nd + 4 * i + 2 = _; omega
      · rw [g1, d1.1]; show h2.2.2 + (2 + 4) ≤ _; rw [c1, a1.1]; show h.2.2 + (2 + 4) + (2 + 4) ≤ _; omega
      · rw [g3 q (by omega), d3 q (by omega), c3 q (by omega), a3 q (by omega)]; exact x3 q hq
      · rw [g3 _ (by omega), d3 _ (by omega), c3 _ (by omega), a3 _ (by omega)]; exact x5.1
      · rw [g3 _ (by omega), d3 _ (by omega), c2, vu (g := fun j => P + 7 + 2 * nd + 4 * j)]
      · rw [g2, vu (g := fun j => P + 9 + 2 * nd + 4 * j)]
      · by_cases e : j = i
        · subst e
          exact ⟨a2.cg (fun q h1 h2 => by rw [g3 q (by omega), d3 q (by omega), c3 q (by omega)]), d2.cg (fun q h1 h2 => g3 q (by omega))⟩
        · have := x5.2.2.2 j (by omega)
          exact ⟨this.1.cg (fun q h1 h2 => by rw [g3 q (by omega), d3 q (by omega), c3 q (by omega), a3 q (by omega)]), this.2.cg (fun q h1 h2 => by rw [g3 q (by omega), d3 q (by omega), c3 q (by omega), a3 q (by omega)])⟩
def PA (h0 h : mo_H) (P nd S i : Nat) : Prop := h.2.1 = P + 4 + 2 * i ∧ h.2.2 ≤ S + 10 * i ∧ (∀ q, q < P → h.1 q = h0.1 q) ∧ h.1 P = some (.inr (7, [.int (nI nd), .ref (P + 1), .null, .int 0, .ref (P + 2), .ref (P + 3), .null, .null, .int 0])) ∧ h.1 (P + 1) = some (.inl (0, nd, .inl (fun j => if j < i then nI (2 ^ j) else 0))) ∧ h.1 (P + 2) = some (.inl (2, nd, gRef (fun j => if j < i then some (P + 4 + 2 * j) else none))) ∧ h.1 (P + 3) = some (aI nd 0) ∧ ∀ j, j < i → RwF h (P + 4 + 2 * j) 8
theorem f_p68 (hnd : nd ≤ 6) (x : PA h0 h P nd S nd) : fh (F_X7_init_68 P) h (fun _ h' => h'.2.1 = P + 19 + 2 * nd ∧ h'.2.2 ≤ S + 200 ∧ (∀ q, q < P → h'.1 q = h0.1 q) ∧ PL h' P nd (fpl P nd) ∧ PK h' P nd 3) := by
  obtain ⟨x1, x2, x3, x4, x5, x6, x7, x8⟩ := x
  unfold F_X7_init_68
  refine f_nq (m := 12) rfl (by omega) (fun h1 a1 a2 a3 => ?_)
  rw [x1] at a2 a3 ⊢
  have b1 : h1.2.1 = P + 5 + 2 * nd := by rw [a1, x1]; omega
  refine f_pV (a := P) (by rw [a3 _ (by omega)]; exact x4) (by show 2 < 9; omega) (fun h2 c1 c2 c3 => ?_)
  have b2 : h2.2.1 = P + 5 + 2 * nd := by rw [c1, b1]
  refine f_nq (m := 3) rfl (by omega) (fun h3 d1 d2 d3 => ?_)
  rw [b2] at d2 d3 ⊢
  have b3 : h3.2.1 = P + 6 + 2 * nd := by rw [d1, b2]; omega
  refine f_pV (a := P) (by rw [d3 _ (by omega)]; exact c2) (by show 6 < 9; omega) (fun h4 g1 g2 g3 => ?_)
  have b4 : h4.2.1 = P + 6 + 2 * nd := by rw [g1, b3]
  refine f_nq (m := 3) rfl (by omega) (fun h5 i1 i2 i3 => ?_)
  rw [b4] at i2 i3 ⊢
  have b5 : h5.2.1 = P + 7 + 2 * nd := by rw [i1, b4]; omega
  refine f_pV (a := P) (by rw [i3 _ (by omega)]; exact g2) (by show 7 < 9; omega) (fun h6 j1 j2 j3 => ?_)
  have old : ∀ q, q < P + 4 + 2 * nd → q ≠ P → h6.1 q = h.1 q := fun q q1 q2 => by rw [j3 q q2, i3 q (by omega), g3 q q2, d3 q (by omega), c3 q q2, a3 q (by omega)]
  have hz : F_X7_init_95 mo_fu P (0 : Int32) = F_X7_init_95 mo_fu P (nI 0) := rfl
  rw [hz]
  have main := f_p95 (S := h6.2.2) (h0 := h0) (P := P) hnd mo_fu 0 h6 (by unfold mo_fu; omega) (Nat.zero_le _) (by rw [j1, b5]; rfl) (Nat.le_refl _) (fun q hq => by rw [old q (by omega) (by omega)]; exact x3 q hq) ⟨by rw [j2]; rfl, by rw [old _ (by omega) (by omega)]; exact x5, by rw [old _ (by omega) (by omega)]; exact x6, by rw [old _ (by omega) (by omega)]; exact x7, fun j hj => (x8 j hj).cg (fun q h1 h2 => old q (by omega) (by omega))⟩ ⟨by rw [j3 _ (by omega), i3 _ (by omega), g3 _ (by omega), d3 _ (by omega), c3 _ (by omega)]; exact a2, by rw [j3 _ (by omega), i3 _ (by omega), g3 _ (by omega), d2]; rfl, by rw [j3 _ (by omega), i2]; rfl, fun j hj => by omega⟩
  obtain ⟨r, h7, e, q1, q2, q3⟩ := main
  refine ⟨r, h7, e, q1, ?_, q3⟩
  have s6 : h6.2.2 = h.2.2 + 18 := by
    rw [j1, i1]; show h4.2.2 + 3 = _; rw [g1, d1]; show h2.2.2 + 3 + 3 = _; rw [c1, a1]
  omega
theorem vi {f : Nat → Int32} {i : Nat} : upd (fun j => if j < i then f j else 0) i (f i) = fun j => if j < i + 1 then f j else 0 := by
  funext j
  unfold upd
  by_cases e : j = i
  · rw [if_pos e, if_pos (by omega), e]
  · rw [if_neg e]
    show (if j < i then f j else 0) = _
    by_cases c : j < i
    · rw [if_pos c, if_pos (by omega)]
    · rw [if_neg c, if_neg (by omega)]
theorem f_p33 (hnd : nd ≤ 6) : ∀ (fu i : Nat) (h : mo_H), nd - i < fu → i ≤ nd → PA h0 h P nd S i → fh (F_X7_init_33 fu P (nI nd) (nI i)) h (fun _ h' => h'.2.1 = P + 19 + 2 * nd ∧ h'.2.2 ≤ S + 200 ∧ (∀ q, q < P → h'.1 q = h0.1 q) ∧ PL h' P nd (fpl P nd) ∧ PK h' P nd 3)
  | 0, i, h, hf, _, _ => by omega
  | fu + 1, i, h, hf, hi, x => by
    unfold F_X7_init_33
    by_cases c : nd ≤ i
    · have e : i = nd := by omega
      subst e
      exact f_T ((nI_leI (by omega) (by omega)).mpr c) (f_p68 hnd x)
    · obtain ⟨x1, x2, x3, x4, x5, x6, x7, x8⟩ := x
      refine f_F (fun q => c ((nI_leI (by omega) (by omega)).mp q)) ?_
      refine f_gR x4 rfl (f_sa (j := i) x5 rfl (by omega) (by omega) (fun h1 a1 a2 a3 => ?_))
      rw [bt_sh i (by omega), vi (f := fun j => nI (2 ^ j))] at a2
      have b1 : h1.2.1 = P + 4 + 2 * i := by rw [a1, x1]
      refine f_gR (by rw [a3 _ (by omega)]; exact x4) rfl (f_row (m := 8) rfl (by omega) (by omega) (fun h2 c1 c2 => ?_))
      have c3 := c1.2
      rw [b1] at c2 c3 ⊢
      refine f_sq c2.1 (by rw [c3 _ (by omega), a3 _ (by omega)]; exact x6) rfl (by omega) (by omega) (fun h3 d1 d2 d3 => ?_)
      rw [nI_1]
      refine f_p33 hnd fu (i + 1) h3 (by omega) (by omega) ⟨?_, ?_, fun q hq => ?_, ?_, ?_, ?_, ?_, fun j hj => ?_⟩
      · rw [d1, c1.1, b1]; show P + 4 + 2 * i + 2 = _; omega
      · rw [d1, c1.1]; show h1.2.2 + (2 + 8) ≤ _; rw [a1]; omega
      · rw [d3 q (by omega), c3 q (by omega), a3 q (by omega)]; exact x3 q hq
      · rw [d3 _ (by omega), c3 _ (by omega), a3 _ (by omega)]; exact x4
      · rw [d3 _ (by omega), c3 _ (by omega)]; exact a2
      · rw [d2, vu (g := fun j => P + 4 + 2 * j)]
      · rw [d3 _ (by omega), c3 _ (by omega), a3 _ (by omega)]; exact x7
      · by_cases e : j = i
        · subst e
          exact c2.cg (fun q h1 h2 => d3 q (by omega))
        · exact (x8 j (by omega)).cg (fun q h1 h2 => by rw [d3 q (by omega), c3 q (by omega), a3 q (by omega)])
theorem f_plan (hnd : nd ≤ 6) (e1 : h.2.1 = P + 1) (e2 : h.1 P = some (.inr (7, dfX7))) : fh (F_X7_init P (nI nd)) h (fun _ h' => h'.2.1 = P + 19 + 2 * nd ∧ h'.2.2 ≤ h.2.2 + 300 ∧ (∀ q, q < P → h'.1 q = h.1 q) ∧ PL h' P nd (fpl P nd) ∧ PK h' P nd 3) := by
  unfold F_X7_init
  refine f_pV e2 (by show 0 < 9; omega) (fun h1 a1 a2 a3 => ?_)
  have b1 : h1.2.1 = P + 1 := by rw [a1, e1]
  refine f_na rfl (by omega) (fun h2 c1 c2 c3 => ?_)
  rw [b1] at c2 c3 ⊢
  refine f_pV (a := P) (by rw [c3 _ (by omega)]; exact a2) (by show 1 < 9; omega) (fun h3 d1 d2 d3 => ?_)
  have b3 : h3.2.1 = P + 2 := by rw [d1, c1, b1]
  refine f_nq rfl (by omega) (fun h4 g1 g2 g3 => ?_)
  rw [b3] at g2 g3 ⊢
  refine f_pV (a := P) (by rw [g3 _ (by omega)]; exact d2) (by show 4 < 9; omega) (fun h5 i1 i2 i3 => ?_)
  have b5 : h5.2.1 = P + 3 := by rw [i1, g1, b3]
  refine f_na rfl (by omega) (fun h6 j1 j2 j3 => ?_)
  rw [b5] at j2 j3 ⊢
  refine f_pV (a := P) (by rw [j3 _ (by omega)]; exact i2) (by show 5 < 9; omega) (fun h7 k1 k2 k3 => ?_)
  have s7 : h7.2.2 ≤ h.2.2 + 3 * nd := by
    rw [k1, j1]; show h5.2.2 + nd ≤ _; rw [i1, g1]; show h3.2.2 + nd + nd ≤ _; rw [d1, c1]; show h1.2.2 + nd + nd + nd ≤ _; rw [a1]; omega
  have hz : F_X7_init_33 mo_fu P (nI nd) (0 : Int32) = F_X7_init_33 mo_fu P (nI nd) (nI 0) := rfl
  rw [hz]
  have main := f_p33 (S := h7.2.2) (h0 := h) (P := P) hnd mo_fu 0 h7 (by unfold mo_fu; omega) (Nat.zero_le _) ⟨by rw [k1, j1]; show h5.2.1 + 1 = _; rw [b5], Nat.le_refl _, fun q hq => by rw [k3 q (by omega), j3 q (by omega), i3 q (by omega), g3 q (by omega), d3 q (by omega), c3 q (by omega), a3 q (by omega)], by rw [k2]; rfl, by rw [k3 _ (by omega), j3 _ (by omega), i3 _ (by omega), g3 _ (by omega), d3 _ (by omega), c2]; rfl, by rw [k3 _ (by omega), j3 _ (by omega), i3 _ (by omega), g2]; rfl, by rw [k3 _ (by omega)]; exact j2, fun j hj => by omega⟩
  obtain ⟨r, h8, e, q1, q2, q3⟩ := main
  exact ⟨r, h8, e, q1, by omega, q3⟩
def AF (h : mo_H) (N : Nat) : Prop := h.1 N = some (.inr (0, [.ref (N + 1), .ref (N + 3), .ref (N + 5), .ref (N + 7)])) ∧ RwF h (N + 1) 32 ∧ RwF h (N + 3) 32 ∧ RwF h (N + 5) 32 ∧ RwF h (N + 7) 32
theorem f_acts {N : Nat} (e1 : h.2.1 = N + 1) (e2 : h.1 N = some (.inr (0, dfX0))) : fh (F_X0_init N) h (fun _ h' => h'.2.1 = N + 9 ∧ h'.2.2 = h.2.2 + 136 ∧ (∀ q, q < N → h'.1 q = h.1 q) ∧ AF h' N) := by
  unfold F_X0_init
  refine f_row (m := 32) rfl (by omega) (by omega) (fun h1 a1 a2 => ?_)
  have a3 := a1.2
  rw [e1] at a2 a3 ⊢
  refine f_pV (a := N) (by rw [a3 _ (by omega)]; exact e2) (by show 0 < 4; omega) (fun h2 b1 b2 b3 => ?_)
  have m2 : h2.2.1 = N + 3 := by rw [b1, a1.1, e1]
  refine f_row (m := 32) rfl (by omega) (by omega) (fun h3 c1 c2 => ?_)
  have c3 := c1.2
  rw [m2] at c2 c3 ⊢
  refine f_pV (a := N) (by rw [c3 _ (by omega)]; exact b2) (by show 1 < 4; omega) (fun h4 d1 d2 d3 => ?_)
  have m4 : h4.2.1 = N + 5 := by rw [d1, c1.1, m2]
  refine f_row (m := 32) rfl (by omega) (by omega) (fun h5 g1 g2 => ?_)
  have g3 := g1.2
  rw [m4] at g2 g3 ⊢
  refine f_pV (a := N) (by rw [g3 _ (by omega)]; exact d2) (by show 2 < 4; omega) (fun h6 i1 i2 i3 => ?_)
  have m6 : h6.2.1 = N + 7 := by rw [i1, g1.1, m4]
  refine f_row (m := 32) rfl (by omega) (by omega) (fun h7 j1 j2 => ?_)
  have j3 := j1.2
  rw [m6] at j2 j3 ⊢
  refine f_pV (a := N) (by rw [j3 _ (by omega)]; exact i2) (by show 3 < 4; omega) (fun h8 k1 k2 k3 => f_r ⟨?_, ?_, fun q hq => ?_, ?_, ?_, ?_, ?_, ?_⟩)
  · rw [k1, j1.1]; show h6.2.1 + 2 = _; rw [m6]
  · rw [k1, j1.1]; show h6.2.2 + (2 + 32) = _; rw [i1, g1.1]; show h4.2.2 + (2 + 32) + (2 + 32) = _; rw [d1, c1.1]; show h2.2.2 + (2 + 32) + (2 + 32) + (2 + 32) = _; rw [b1, a1.1]
  · rw [k3 q (by omega), j3 q (by omega), i3 q (by omega), g3 q (by omega), d3 q (by omega), c3 q (by omega), b3 q (by omega), a3 q (by omega)]
  · rw [k2]; rfl
  · exact a2.cg (fun q h1 h2 => by rw [k3 q (by omega), j3 q (by omega), i3 q (by omega), g3 q (by omega), d3 q (by omega), c3 q (by omega), b3 q (by omega)])
  · exact c2.cg (fun q h1 h2 => by rw [k3 q (by omega), j3 q (by omega), i3 q (by omega), g3 q (by omega), d3 q (by omega)])
  · exact g2.cg (fun q h1 h2 => by rw [k3 q (by omega), j3 q (by omega), i3 q (by omega)])
  · exact j2.cg (fun q h1 h2 => k3 q (by omega))
end FJ
