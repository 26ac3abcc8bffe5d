/-! THE START: the invariant -/
section FO
variable {h h0 h' : mo_H} {A nd S : Nat}
theorem iF_0 {k w i : Nat} (h : ¬ (k = 1 ∨ k = 2 ∨ k = 41)) : iF nd (pk k w i) = fun _ => 0 := by
  unfold iF
  rw [if_neg (pk_ne (by omega)), if_neg (pk_ne (by omega)), if_neg (pk_ne (by omega))]
theorem iF_1 : iF nd (pk 1 0 0) = fun f => if f = 0 then nI nd else 0 := if_pos rfl
theorem iF_2 : iF nd (pk 2 0 0) = fun j => if j < nd then nI (2 ^ j) else 0 := by
  unfold iF
  rw [if_neg (pk_ne (by omega)), if_pos rfl]
theorem iF_41 : iF nd (pk 41 0 0) = fun f => if f = 0 then nI nd else if f = 54 then -1 else 0 := by
  unfold iF
  rw [if_neg (pk_ne (by omega)), if_neg (pk_ne (by omega)), if_pos rfl]
theorem i_41 {R : Nat} (hR : R = A + 33 + 9 * nd) : rFS R (nI nd) (-1) = [.int (nI nd), .ref (iG A nd (pk 43 0 0)), .int 0, .ref (iG A nd (pk 45 0 0)), .ref (iG A nd (pk 46 0 0)), .ref (iG A nd (pk 47 0 0)), .ref (iG A nd (pk 48 0 0)), .ref (iG A nd (pk 49 0 0)), .ref (iG A nd (pk 50 0 0)), .ref (iG A nd (pk 51 0 0)), .ref (iG A nd (pk 52 0 0)), .ref (iG A nd (pk 53 0 0)), .ref (iG A nd (pk 54 0 0)), .int 0, .int 0, .ref (iG A nd (pk 57 0 0)), .ref (iG A nd (pk 58 0 0)), .ref (iG A nd (pk 59 0 0)), .ref (iG A nd (pk 60 0 0)), .ref (iG A nd (pk 61 0 0)), .ref (iG A nd (pk 62 0 0)), .ref (iG A nd (pk 63 0 0)), .ref (iG A nd (pk 64 0 0)), .ref (iG A nd (pk 65 0 0)), .ref (iG A nd (pk 66 0 0)), .ref (iG A nd (pk 67 0 0)), .ref (iG A nd (pk 68 0 0)), .ref (iG A nd (pk 69 0 0)), .ref (iG A nd (pk 70 0 0)), .ref (iG A nd (pk 71 0 0)), .ref (iG A nd (pk 72 0 0)), .ref (iG A nd (pk 73 0 0)), .ref (iG A nd (pk 74 0 0)), .ref (iG A nd (pk 75 0 0)), .ref (iG A nd (pk 76 0 0)), .ref (iG A nd (pk 77 0 0)), .ref (iG A nd (pk 78 0 0)), .ref (iG A nd (pk 79 0 0)), .ref (iG A nd (pk 80 0 0)), .ref (iG A nd (pk 81 0 0)), .ref (iG A nd (pk 82 0 0)), .ref (iG A nd (pk 83 0 0)), .ref (iG A nd (pk 84 0 0)), .ref (iG A nd (pk 85 0 0)), .ref (iG A nd (pk 86 0 0)), .ref (iG A nd (pk 87 0 0)), .ref (iG A nd (pk 88 0 0)), .ref (iG A nd (pk 89 0 0)), .ref (iG A nd (pk 90 0 0)), .ref (iG A nd (pk 91 0 0)), .ref (iG A nd (pk 92 0 0)), .ref (iG A nd (pk 93 0 0)), .ref (iG A nd (pk 94 0 0)), .ref (iG A nd (pk 95 0 0)), .int (-1), .ref (iG A nd (pk 97 0 0))] := by
  have e43 : iG A nd (pk 43 0 0) = R + 1 := by
    show A + 34 + 9 * nd = _
    omega
  have e45 : iG A nd (pk 45 0 0) = R + 2 := by
    show A + 34 + 9 * nd + (45 - 44) = _
    omega
  have e46 : iG A nd (pk 46 0 0) = R + 3 := by
    show A + 34 + 9 * nd + (46 - 44) = _
    omega
  have e47 : iG A nd (pk 47 0 0) = R + 4 := by
    show A + 34 + 9 * nd + (47 - 44) = _
    omega
  have e48 : iG A nd (pk 48 0 0) = R + 5 := by
    show A + 34 + 9 * nd + (48 - 44) = _
    omega
  have e49 : iG A nd (pk 49 0 0) = R + 6 := by
    show A + 34 + 9 * nd + (49 - 44) = _
    omega
  have e50 : iG A nd (pk 50 0 0) = R + 7 := by
    show A + 34 + 9 * nd + (50 - 44) = _
    omega
  have e51 : iG A nd (pk 51 0 0) = R + 8 := by
    show A + 34 + 9 * nd + (51 - 44) = _
    omega
  have e52 : iG A nd (pk 52 0 0) = R + 9 := by
    show A + 34 + 9 * nd + (52 - 44) = _
    omega
  have e53 : iG A nd (pk 53 0 0) = R + 10 := by
    show A + 34 + 9 * nd + (53 - 44) = _
    omega
  have e54 : iG A nd (pk 54 0 0) = R + 11 := by
    show A + 34 + 9 * nd + (54 - 44) = _
    omega
  have e57 : iG A nd (pk 57 0 0) = R + 12 := by
    show A + 34 + 9 * nd + (57 - 46) = _
    omega
  have e58 : iG A nd (pk 58 0 0) = R + 13 := by
    show A + 34 + 9 * nd + (58 - 46) = _
    omega
  have e59 : iG A nd (pk 59 0 0) = R + 14 := by
    show A + 34 + 9 * nd + (59 - 46) = _
    omega
  have e60 : iG A nd (pk 60 0 0) = R + 15 := by
    show A + 34 + 9 * nd + (60 - 46) = _
    omega
  have e61 : iG A nd (pk 61 0 0) = R + 16 := by
    show A + 34 + 9 * nd + (61 - 46) = _
    omega
  have e62 : iG A nd (pk 62 0 0) = R + 17 := by
    show A + 34 + 9 * nd + (62 - 46) = _
    omega
  have e63 : iG A nd (pk 63 0 0) = R + 18 := by
    show A + 34 + 9 * nd + (63 - 46) = _
    omega
  have e64 : iG A nd (pk 64 0 0) = R + 19 := by
    show A + 34 + 9 * nd + (64 - 46) = _
    omega
  have e65 : iG A nd (pk 65 0 0) = R + 20 := by
    show A + 34 + 9 * nd + (65 - 46) = _
    omega
  have e66 : iG A nd (pk 66 0 0) = R + 21 := by
    show A + 34 + 9 * nd + (66 - 46) = _
    omega
  have e67 : iG A nd (pk 67 0 0) = R + 22 := by
    show A + 34 + 9 * nd + (67 - 46) = _
    omega
  have e68 : iG A nd (pk 68 0 0) = R + 23 := by
    show A + 34 + 9 * nd + (68 - 46) = _
    omega
  have e69 : iG A nd (pk 69 0 0) = R + 24 := by
    show A + 34 + 9 * nd + (69 - 46) = _
    omega
  have e70 : iG A nd (pk 70 0 0) = R + 25 := by
    show A + 34 + 9 * nd + (70 - 46) = _
    omega
  have e71 : iG A nd (pk 71 0 0) = R + 26 := by
    show A + 34 + 9 * nd + (71 - 46) = _
    omega
  have e72 : iG A nd (pk 72 0 0) = R + 27 := by
    show A + 34 + 9 * nd + (72 - 46) = _
    omega
  have e73 : iG A nd (pk 73 0 0) = R + 28 := by
    show A + 34 + 9 * nd + (73 - 46) = _
    omega
  have e74 : iG A nd (pk 74 0 0) = R + 29 := by
    show A + 34 + 9 * nd + (74 - 46) = _
    omega
  have e75 : iG A nd (pk 75 0 0) = R + 30 := by
    show A + 34 + 9 * nd + (75 - 46) = _
    omega
  have e76 : iG A nd (pk 76 0 0) = R + 31 := by
    show A + 34 + 9 * nd + (76 - 46) = _
    omega
  have e77 : iG A nd (pk 77 0 0) = R + 32 := by
    show A + 34 + 9 * nd + (77 - 46) = _
    omega
  have e78 : iG A nd (pk 78 0 0) = R + 33 := by
    show A + 34 + 9 * nd + (78 - 46) = _
    omega
  have e79 : iG A nd (pk 79 0 0) = R + 34 := by
    show A + 34 + 9 * nd + (79 - 46) = _
    omega
  have e80 : iG A nd (pk 80 0 0) = R + 35 := by
    show A + 34 + 9 * nd + (80 - 46) = _
    omega
  have e81 : iG A nd (pk 81 0 0) = R + 36 := by
    show A + 34 + 9 * nd + (81 - 46) = _
    omega
  have e82 : iG A nd (pk 82 0 0) = R + 37 := by
    show A + 34 + 9 * nd + (82 - 46) = _
    omega
  have e83 : iG A nd (pk 83 0 0) = R + 38 := by
    show A + 34 + 9 * nd + (83 - 46) = _
    omega
  have e84 : iG A nd (pk 84 0 0) = R + 39 := by
    show A + 34 + 9 * nd + (84 - 46) = _
    omega
  have e85 : iG A nd (pk 85 0 0) = R + 40 := by
    show A + 34 + 9 * nd + (85 - 46) = _
    omega
  have e86 : iG A nd (pk 86 0 0) = R + 41 := by
    show A + 34 + 9 * nd + (86 - 46) = _
    omega
  have e87 : iG A nd (pk 87 0 0) = R + 42 := by
    show A + 34 + 9 * nd + (87 - 46) = _
    omega
  have e88 : iG A nd (pk 88 0 0) = R + 43 := by
    show A + 34 + 9 * nd + (88 - 46) = _
    omega
  have e89 : iG A nd (pk 89 0 0) = R + 44 := by
    show A + 34 + 9 * nd + (89 - 46) = _
    omega
  have e90 : iG A nd (pk 90 0 0) = R + 45 := by
    show A + 34 + 9 * nd + (90 - 46) = _
    omega
  have e91 : iG A nd (pk 91 0 0) = R + 46 := by
    show A + 34 + 9 * nd + (91 - 46) = _
    omega
  have e92 : iG A nd (pk 92 0 0) = R + 47 := by
    show A + 34 + 9 * nd + (92 - 46) = _
    omega
  have e93 : iG A nd (pk 93 0 0) = R + 48 := by
    show A + 34 + 9 * nd + (93 - 46) = _
    omega
  have e94 : iG A nd (pk 94 0 0) = R + 49 := by
    show A + 34 + 9 * nd + (94 - 46) = _
    omega
  have e95 : iG A nd (pk 95 0 0) = R + 50 := by
    show A + 34 + 9 * nd + (95 - 46) = _
    omega
  have e97 : iG A nd (pk 97 0 0) = R + 51 := by
    show A + 84 + 9 * nd = _
    omega
  rw [e43, e45, e46, e47, e48, e49, e50, e51, e52, e53, e54, e57, e58, e59, e60, e61, e62, e63, e64, e65, e66, e67, e68, e69, e70, e71, e72, e73, e74, e75, e76, e77, e78, e79, e80, e81, e82, e83, e84, e85, e86, e87, e88, e89, e90, e91, e92, e93, e94, e95, e97]
  rfl
set_option maxHeartbeats 2000000 in
theorem gI_0 (h6 : nd ≤ 6) (K : KF h' A nd) (I : RI h0 h' (A + 33 + 9 * nd) S 51 rAL (rFS (A + 33 + 9 * nd) (nI nd) (-1))) : gI (nd, 0, false, false) (iG A nd) (iG A nd) h' (iS nd h'.2) := by
  obtain ⟨r1, r2, r3, r4, r5, r6⟩ := I
  obtain ⟨k0, ⟨p1, p2, p3, p4, p5⟩, ⟨l1, l2, l3, l4⟩, ⟨m1, m2, m3, m4, m5, m6⟩, ⟨a1, a2, a3, a4, a5⟩⟩ := K
  have eA : ∀ k i, gA (iG A nd) (iG A nd) k 0 i = iA A nd k i := fun k i => by
    unfold gA
    split <;> rfl
  refine ⟨fun k w i hv => ?_, ⟨iO A nd, fun k w i hv => ?_⟩, rfl⟩
  · obtain ⟨rfl, hk⟩ := gV_i hv
    have hb := (iO_w (A := A) hk).2
    rw [eA]
    refine ⟨?_, by rw [r1]; omega⟩
    have ar : k = 43 ∨ (45 ≤ k ∧ k ≤ 54) ∨ (57 ≤ k ∧ k ≤ 95) ∨ k = 97 → i = 0 → h'.1 (iA A nd k i) = some (gC (nd, 0, false, false) (iG A nd) (iG A nd) k 0 i ((iS nd h'.2).1 (pk k 0 i)) ((iS nd h'.2).2.1 (pk k 0 i))) := fun hkk hi => by
      subst hi
      have q := rAL_k hkk
      rw [ar_C hkk, iA_sh hkk, r5 _ q.2.1, q.1]
      have e1 : (iS nd h'.2).1 (pk k 0 0) = fun _ => 0 := iF_0 (by omega)
      have e2 : (iS nd h'.2).2.1 (pk k 0 0) = rLen k := by
        show iLk nd k = _
        unfold iLk
        rw [if_neg (by omega), if_neg (by omega), if_neg (by omega), if_neg (by omega), if_pos (by omega)]
      rw [e1, e2]
      rfl
    unfold iK at hk
    rcases hk with ⟨hk, rfl⟩ | ⟨hk, hi⟩ | ⟨hk, hi⟩ | ⟨hk, hi⟩
    · rcases hk with rfl | rfl | rfl | rfl | rfl | rfl | rfl | rfl | rfl | rfl | rfl | rfl | rfl | rfl | hk3
      · exact k0
      · show h'.1 (A + 1) = some (.inr (7, [.int (iF nd (pk 1 0 0) 0), .ref (A + 2), .ref (A + 5 + 2 * nd), .int (iF nd (pk 1 0 0) 3), .ref (A + 3), .ref (A + 4), .ref (A + 6 + 2 * nd), .ref (A + 7 + 2 * nd), .int (iF nd (pk 1 0 0) 8)]))
        rw [iF_1]
        exact p1
      · show h'.1 (A + 2) = some (.inl (0, nd, .inl (iF nd (pk 2 0 0))))
        rw [iF_2]
        exact p2
      · show h'.1 (A + 5 + 2 * nd) = some (.inl (3, 12, gRef (fun j => if j < 0 then some (iG A nd (pk 4 0 j)) else none)))
        have : (fun j => if j < 0 then some (iG A nd (pk 4 0 j)) else none) = fun _ => none := by
          funext j
          exact if_neg (Nat.not_lt_zero _)
        rw [this]
        exact l1
      · exact p3
      · show h'.1 (A + 4) = some (.inl (0, nd, .inl (iF nd (pk 8 0 0))))
        rw [iF_0 (by omega)]
        exact p4
      · exact l2
      · exact l3
      · show h'.1 (A + 20 + 2 * nd) = some (.inr (5, [.ref (A + 1), .ref (A + 21 + 2 * nd), .ref (A + 22 + 9 * nd), .ref (A + 23 + 9 * nd), .int (iF nd (pk 15 0 0) 4)]))
        rw [iF_0 (by omega), m1, show A + 20 + 2 * nd + 1 = A + 21 + 2 * nd by omega, show A + 20 + 2 * nd + 2 + 7 * nd = A + 22 + 9 * nd by omega, show A + 20 + 2 * nd + 3 + 7 * nd + 6 * 0 = A + 23 + 9 * nd by omega]
      · show h'.1 (A + 21 + 2 * nd) = some (.inl (4, nd, gRef (fun j => if j < nd then some (A + 22 + 2 * nd + 7 * j + (19 - 19)) else none)))
        rw [show A + 21 + 2 * nd = A + 20 + 2 * nd + 1 by omega, m2]
        have : (fun j => if j < nd then some (A + 20 + 2 * nd + 2 + 7 * j) else none) = fun j => if j < nd then some (A + 22 + 2 * nd + 7 * j + (19 - 19)) else none := by
          funext j
          rw [show A + 20 + 2 * nd + 2 + 7 * j = A + 22 + 2 * nd + 7 * j + (19 - 19) by omega]
        rw [this]
      · show h'.1 (A + 22 + 9 * nd) = some (.inl (5, 12, gRef (fun j => if j < 0 then some (iG A nd (pk 26 0 j)) else none)))
        have : (fun j => if j < 0 then some (iG A nd (pk 26 0 j)) else none) = fun j => if j < 0 then some (A + 20 + 2 * nd + 3 + 7 * nd + 6 * j) else none := by
          funext j
          rw [if_neg (Nat.not_lt_zero _), if_neg (Nat.not_lt_zero _)]
        rw [this, show A + 22 + 9 * nd = A + 20 + 2 * nd + 2 + 7 * nd by omega]
        exact m4
      · show h'.1 (A + 23 + 9 * nd) = some (.inr (2, [.ref (A + 1), .int (iF nd (pk 18 0 0) 1), .int (iF nd (pk 18 0 0) 2), .int (iF nd (pk 18 0 0) 3), .int (iF nd (pk 18 0 0) 4), .int (iF nd (pk 18 0 0) 5)]))
        rw [iF_0 (by omega), show A + 23 + 9 * nd = A + 20 + 2 * nd + 3 + 7 * nd + 6 * 0 by omega]
        exact m6
      · show h'.1 (A + 24 + 9 * nd) = some (.inr (0, [.ref (A + 25 + 9 * nd + 2 * 0), .ref (A + 25 + 9 * nd + 2 * 1), .ref (A + 25 + 9 * nd + 2 * 2), .ref (A + 25 + 9 * nd + 2 * 3)]))
        rw [a1, show A + 24 + 9 * nd + 1 = A + 25 + 9 * nd + 2 * 0 by omega, show A + 24 + 9 * nd + 3 = A + 25 + 9 * nd + 2 * 1 by omega, show A + 24 + 9 * nd + 5 = A + 25 + 9 * nd + 2 * 2 by omega, show A + 24 + 9 * nd + 7 = A + 25 + 9 * nd + 2 * 3 by omega]
      · show h'.1 (A + 33 + 9 * nd) = some (gC (nd, 0, false, false) (iG A nd) (iG A nd) 41 0 0 (iF nd (pk 41 0 0)) 0)
        rw [iF_41, r4, i_41 rfl]
        rfl
      · exact ar (by omega) rfl
    · rcases hk with rfl | rfl | hk3
      · show h'.1 (A + 5 + 2 * i) = some (.inr (9, [.ref (A + 6 + 2 * i), .int (iF nd (pk 6 0 i) 1)]))
        rw [iF_0 (by omega)]
        have := (p5 i hi).1
        rw [show A + 1 + 4 + 2 * i = A + 5 + 2 * i by omega] at this
        rw [this, show A + 5 + 2 * i + 1 = A + 6 + 2 * i by omega]
      · show h'.1 (A + 6 + 2 * i) = some (.inl (0, 8, .inl (iF nd (pk 7 0 i))))
        rw [iF_0 (by omega)]
        have := (p5 i hi).2
        rw [show A + 1 + 4 + 2 * i + 1 = A + 6 + 2 * i by omega] at this
        exact this
      · have dd : DF h' (A + 22 + 2 * nd + 7 * i) := by
          have := m3 i hi
          rw [show A + 20 + 2 * nd + 2 + 7 * i = A + 22 + 2 * nd + 7 * i by omega] at this
          exact this
        obtain ⟨d1, d2, d3, d4, d5⟩ := dd
        have : k = 19 ∨ k = 20 ∨ k = 21 ∨ k = 22 ∨ k = 23 ∨ k = 24 ∨ k = 25 := by omega
        have z : (iS nd h'.2).1 (pk k 0 i) = fun _ => 0 := iF_0 (by omega)
        rw [z]
        rcases this with rfl | rfl | rfl | rfl | rfl | rfl | rfl
        · exact d1
        · exact d2
        · exact d3
        · exact d4.1
        · exact d4.2
        · exact d5.1
        · exact d5.2
    · have q := l4 i hi
      have z : (iS nd h'.2).1 (pk k 0 i) = fun _ => 0 := iF_0 (by omega)
      rw [z]
      rcases hk with rfl | rfl | rfl | rfl
      · show h'.1 (A + 8 + 2 * nd + 4 * i) = some (.inr (9, [.ref (A + 9 + 2 * nd + 4 * i), .int 0]))
        have := q.1.1
        rw [show A + 1 + 7 + 2 * nd + 4 * i = A + 8 + 2 * nd + 4 * i by omega] at this
        rw [this, show A + 8 + 2 * nd + 4 * i + 1 = A + 9 + 2 * nd + 4 * i by omega]
      · have := q.1.2
        rw [show A + 1 + 7 + 2 * nd + 4 * i + 1 = A + 9 + 2 * nd + 4 * i by omega] at this
        exact this
      · show h'.1 (A + 10 + 2 * nd + 4 * i) = some (.inr (9, [.ref (A + 11 + 2 * nd + 4 * i), .int 0]))
        have := q.2.1
        rw [show A + 1 + 9 + 2 * nd + 4 * i = A + 10 + 2 * nd + 4 * i by omega] at this
        rw [this, show A + 10 + 2 * nd + 4 * i + 1 = A + 11 + 2 * nd + 4 * i by omega]
      · have := q.2.2
        rw [show A + 1 + 9 + 2 * nd + 4 * i + 1 = A + 11 + 2 * nd + 4 * i by omega] at this
        exact this
    · have q : RwF h' (A + 25 + 9 * nd + 2 * i) 32 := by
        have : i = 0 ∨ i = 1 ∨ i = 2 ∨ i = 3 := by omega
        rcases this with rfl | rfl | rfl | rfl
        · rw [show A + 25 + 9 * nd + 2 * 0 = A + 24 + 9 * nd + 1 by omega]; exact a2
        · rw [show A + 25 + 9 * nd + 2 * 1 = A + 24 + 9 * nd + 3 by omega]; exact a3
        · rw [show A + 25 + 9 * nd + 2 * 2 = A + 24 + 9 * nd + 5 by omega]; exact a4
        · rw [show A + 25 + 9 * nd + 2 * 3 = A + 24 + 9 * nd + 7 by omega]; exact a5
      have z : (iS nd h'.2).1 (pk k 0 i) = fun _ => 0 := iF_0 (by omega)
      rw [z]
      rcases hk with rfl | rfl
      · show h'.1 (A + 25 + 9 * nd + 2 * i) = some (.inr (9, [.ref (A + 26 + 9 * nd + 2 * i), .int 0]))
        rw [q.1, show A + 25 + 9 * nd + 2 * i + 1 = A + 26 + 9 * nd + 2 * i by omega]
      · have := q.2
        rw [show A + 25 + 9 * nd + 2 * i + 1 = A + 26 + 9 * nd + 2 * i by omega] at this
        exact this
  · obtain ⟨rfl, hk⟩ := gV_i hv
    rw [eA]
    exact (iO_w hk).1
end FO
