/-! THE START: both objects, the store, the invariant -/
def iF (nd : Nat) (q : gK) : Nat → Int32 := if q = pk 1 0 0 then (fun f => if f = 0 then nI nd else 0) else if q = pk 2 0 0 then (fun j => if j < nd then nI (2 ^ j) else 0) else if q = pk 41 0 0 then (fun f => if f = 0 then nI nd else if f = 54 then -1 else 0) else fun _ => 0
def iLk (nd k : Nat) : Nat := if k = 2 ∨ k = 8 then nd else if k = 7 ∨ k = 20 ∨ k = 23 ∨ k = 25 then 8 else if k = 11 ∨ k = 14 then 4 else if k = 21 ∨ k = 34 then 32 else if 42 ≤ k then rLen k else 0
def iS (nd : Nat) (c : Nat × Nat) : gS := (iF nd, fun q => if q.2.1 = 0 then iLk nd q.1 else 0, c)
def iG (A nd : Nat) (q : gK) : Nat := iA A nd q.1 q.2.2
def iP (nd : Nat) : mP := (nd, 0, fun a => mS a, fun _ _ => 0, fun _ => [], fun _ => 0, fun _ => [])
def rTy (k : Nat) : Nat := if k = 43 ∨ k = 47 ∨ k = 58 ∨ (92 ≤ k ∧ k ≤ 95) ∨ k = 97 then 1 else 0
theorem ar_C {θ : gT} {Gs U : gK → Nat} {k : Nat} {f : Nat → Int32} {n : Nat} (hk : k = 43 ∨ (45 ≤ k ∧ k ≤ 54) ∨ (57 ≤ k ∧ k ≤ 95) ∨ k = 97) : gC θ Gs U k 0 0 f n = .inl (rTy k, n, .inl f) := by
  have : k = 43 ∨ k = 45 ∨ k = 46 ∨ k = 47 ∨ k = 48 ∨ k = 49 ∨ k = 50 ∨ k = 51 ∨ k = 52 ∨ k = 53 ∨ k = 54 ∨ k = 57 ∨ k = 58 ∨ k = 59 ∨ k = 60 ∨ k = 61 ∨ k = 62 ∨ k = 63 ∨ k = 64 ∨ k = 65 ∨ k = 66 ∨ k = 67 ∨ k = 68 ∨ k = 69 ∨ k = 70 ∨ k = 71 ∨ k = 72 ∨ k = 73 ∨ k = 74 ∨ k = 75 ∨ k = 76 ∨ k = 77 ∨ k = 78 ∨ k = 79 ∨ k = 80 ∨ k = 81 ∨ k = 82 ∨ k = 83 ∨ k = 84 ∨ k = 85 ∨ k = 86 ∨ k = 87 ∨ k = 88 ∨ k = 89 ∨ k = 90 ∨ k = 91 ∨ k = 92 ∨ k = 93 ∨ k = 94 ∨ k = 95 ∨ k = 97 := by omega
  rcases this with rfl | rfl | rfl | rfl | rfl | rfl | rfl | rfl | rfl | rfl | rfl | rfl | rfl | rfl | rfl | rfl | rfl | rfl | rfl | rfl | rfl | rfl | rfl | rfl | rfl | rfl | rfl | rfl | rfl | rfl | rfl | rfl | rfl | rfl | rfl | rfl | rfl | rfl | rfl | rfl | rfl | rfl | rfl | rfl | rfl | rfl | rfl | rfl | rfl | rfl | rfl <;> rfl
theorem rAL_k {k : Nat} (hk : k = 43 ∨ (45 ≤ k ∧ k ≤ 54) ∨ (57 ≤ k ∧ k ≤ 95) ∨ k = 97) : rAL.getD (iA 0 0 k 0 - 34) (0, 0) = (rLen k, rTy k) ∧ iA 0 0 k 0 - 34 < 51 ∧ 34 ≤ iA 0 0 k 0 := by
  have : k = 43 ∨ k = 45 ∨ k = 46 ∨ k = 47 ∨ k = 48 ∨ k = 49 ∨ k = 50 ∨ k = 51 ∨ k = 52 ∨ k = 53 ∨ k = 54 ∨ k = 57 ∨ k = 58 ∨ k = 59 ∨ k = 60 ∨ k = 61 ∨ k = 62 ∨ k = 63 ∨ k = 64 ∨ k = 65 ∨ k = 66 ∨ k = 67 ∨ k = 68 ∨ k = 69 ∨ k = 70 ∨ k = 71 ∨ k = 72 ∨ k = 73 ∨ k = 74 ∨ k = 75 ∨ k = 76 ∨ k = 77 ∨ k = 78 ∨ k = 79 ∨ k = 80 ∨ k = 81 ∨ k = 82 ∨ k = 83 ∨ k = 84 ∨ k = 85 ∨ k = 86 ∨ k = 87 ∨ k = 88 ∨ k = 89 ∨ k = 90 ∨ k = 91 ∨ k = 92 ∨ k = 93 ∨ k = 94 ∨ k = 95 ∨ k = 97 := by omega
  rcases this with rfl | rfl | rfl | rfl | rfl | rfl | rfl | rfl | rfl | rfl | rfl | rfl | rfl | rfl | rfl | rfl | rfl | rfl | rfl | rfl | rfl | rfl | rfl | rfl | rfl | rfl | rfl | rfl | rfl | rfl | rfl | rfl | rfl | rfl | rfl | rfl | rfl | rfl | rfl | rfl | rfl | rfl | rfl | rfl | rfl | rfl | rfl | rfl | rfl | rfl | rfl <;> exact ⟨rfl, by decide, by decide⟩
theorem iA_sh {A nd k : Nat} (hk : k = 43 ∨ (45 ≤ k ∧ k ≤ 54) ∨ (57 ≤ k ∧ k ≤ 95) ∨ k = 97) : iA A nd k 0 = A + 33 + 9 * nd + 1 + (iA 0 0 k 0 - 34) := by
  rcases hk with rfl | hk | hk | rfl
  · show A + 34 + 9 * nd = A + 33 + 9 * nd + 1 + 0
    omega
  · unfold iA
    repeat rw [if_neg (by omega)]
    rw [if_pos (by omega)]
    repeat rw [if_neg (by omega)]
    rw [if_pos (by omega)]
    omega
  · unfold iA
    repeat rw [if_neg (by omega)]
    rw [if_pos (by omega)]
    repeat rw [if_neg (by omega)]
    rw [if_pos (by omega)]
    omega
  · show A + 84 + 9 * nd = A + 33 + 9 * nd + 1 + 50
    omega
section FM2
variable {h h0 h' : mo_H} {A nd S : Nat}
/-- the kernel's object -/
def KF (h : mo_H) (A nd : Nat) : Prop := h.1 A = some (.inr (10, [.ref (A + 1), .ref (A + 20 + 2 * nd), .ref (A + 24 + 9 * nd), .null, .null])) ∧ PL h (A + 1) nd (fpl (A + 1) nd) ∧ PK h (A + 1) nd 3 ∧ MF h (A + 20 + 2 * nd) (A + 1) nd 0 (fun _ => 0) (fun _ => 0) (fun _ => 0) ∧ AF h (A + 24 + 9 * nd)
theorem f_x10 {x : Int32} (hnd : nd ≤ 6) (ex : (if (2 : Int32) < (if x < (6 : Int32) then x else (6 : Int32)) then (if x < (6 : Int32) then x else (6 : Int32)) else (2 : Int32)) = nI nd) (e1 : h.2.1 = A + 1) (e2 : h.1 A = some (.inr (10, dfX10))) : fh (F_X10_init A x) h (fun _ h' => h'.2.1 = A + 33 + 9 * nd ∧ h'.2.2 ≤ h.2.2 + 2000 ∧ (∀ q, q < A → h'.1 q = h.1 q) ∧ KF h' A nd) := by
  unfold F_X10_init
  rw [ex]
  refine f_nc (fun h1 a1 a2 a3 => ?_)
  rw [e1] at a2 a3 ⊢
  have m1 : h1.2.1 = A + 1 + 1 := by rw [a1, e1]
  have s1 : h1.2.2 = h.2.2 + 9 := by rw [a1]; rfl
  refine f_c (f_plan hnd m1 a2) (fun _ h2 q => ?_)
  obtain ⟨b1, b2, b3, b4, b5⟩ := q
  refine f_pV (a := A) (by rw [b3 _ (by omega), a3 _ (by omega)]; exact e2) (by show 0 < 5; omega) (fun h3 c1 c2 c3 => ?_)
  have m3 : h3.2.1 = A + 20 + 2 * nd := by rw [c1, b1]
  have pl3 : PL h3 (A + 1) nd (fpl (A + 1) nd) := b4.cg (fun q h1 h2 => c3 q (by omega))
  have pk3 : PK h3 (A + 1) nd 3 := b5.cg (by omega) (fun q h1 h2 => c3 q (by omega))
  refine f_nc (fun h4 d1 d2 d3 => ?_)
  refine f_gR (by rw [d3 _ (by omega)]; exact c2) rfl ?_
  have pf : PF h3 h3.2.1 (A + 1) nd 0 (fun _ => 0) (fun _ => 0) (fun _ => 0) := ⟨by omega, hnd, by omega, ⟨fpl (A + 1) nd, A + 1 + 4 + 2 * nd, fun _ => none, pl3.1, rfl, rfl, rfl, by omega, pk3.1, fun j hj => by omega⟩, fun j hj => by omega⟩
  refine f_c (f_mi pf (by rw [d1]; rfl) d2 d3) (fun _ h5 q => ?_)
  obtain ⟨g1, g2, g3, g4⟩ := q
  rw [m3] at g1 g3 g4 ⊢
  refine f_pV (a := A) (by rw [g3 _ (by omega)]; exact c2) (by show 1 < 5; omega) (fun h6 i1 i2 i3 => ?_)
  have m6 : h6.2.1 = A + 24 + 9 * nd := by rw [i1, g1]; omega
  refine f_nc (fun h7 j1 j2 j3 => ?_)
  rw [m6] at j2 j3 ⊢
  have m7 : h7.2.1 = A + 24 + 9 * nd + 1 := by rw [j1, m6]
  refine f_c (f_acts m7 j2) (fun _ h8 q => ?_)
  obtain ⟨k1, k2, k3, k4⟩ := q
  refine f_pV (a := A) (by rw [k3 _ (by omega), j3 _ (by omega)]; exact i2) (by show 2 < 5; omega) (fun h9 l1 l2 l3 => f_r ⟨?_, ?_, fun q hq => ?_, ?_, ?_, ?_, ?_, ?_⟩)
  · rw [l1, k1]; omega
  · rw [l1, k2, j1]; show h6.2.2 + 4 + 136 ≤ _; rw [i1]; have : h3.2.2 = h2.2.2 := by rw [c1]
    omega
  · rw [l3 q (by omega), k3 q (by omega), j3 q (by omega), i3 q (by omega), g3 q (by omega), c3 q (by omega), b3 q (by omega), a3 q (by omega)]
  · rw [l2]; rfl
  · exact pl3.cg (fun q h1 h2 => by rw [l3 q (by omega), k3 q (by omega), j3 q (by omega), i3 q (by omega), g3 q (by omega)])
  · exact pk3.cg (by omega) (fun q h1 h2 => by rw [l3 q (by omega), k3 q (by omega), j3 q (by omega), i3 q (by omega), g3 q (by omega)])
  · have cg : ∀ q, A + 20 + 2 * nd ≤ q → q < A + 24 + 9 * nd → h9.1 q = h5.1 q := fun q h1 h2 => by rw [l3 q (by omega), k3 q (by omega), j3 q (by omega), i3 q (by omega)]
    obtain ⟨n1, n2, n3, n4, n5, n6⟩ := g4
    exact ⟨by rw [cg _ (by omega) (by omega)]; exact n1, by rw [cg _ (by omega) (by omega)]; exact n2, fun j hj => (n3 j hj).cg (fun q h1 h2 => cg q (by omega) (by omega)), by rw [cg _ (by omega) (by omega)]; exact n4, fun j hj => by omega, by rw [cg _ (by omega) (by omega)]; exact n6⟩
  · obtain ⟨n1, n2, n3, n4, n5⟩ := k4
    exact ⟨by rw [l3 _ (by omega)]; exact n1, n2.cg (fun q h1 h2 => l3 q (by omega)), n3.cg (fun q h1 h2 => l3 q (by omega)), n4.cg (fun q h1 h2 => l3 q (by omega)), n5.cg (fun q h1 h2 => l3 q (by omega))⟩
end FM2
