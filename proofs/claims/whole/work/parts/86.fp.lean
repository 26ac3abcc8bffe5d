/-! THE LAW ANSWERS 1 -/
theorem gp_max : gsum (fun q => gcap q.1) gGL = 2217312 := by decide +kernel
theorem nd_of (x : Int32) : ∃ nd, 2 ≤ nd ∧ nd ≤ 6 ∧ (if (2 : Int32) < (if x < (6 : Int32) then x else (6 : Int32)) then (if x < (6 : Int32) then x else (6 : Int32)) else (2 : Int32)) = nI nd ∧ ((2 ≤ x ∧ x ≤ 6 ∧ x = nI nd) ∨ (2 ≤ x ∧ ¬ x ≤ 6 ∧ nd = 6) ∨ (¬ 2 ≤ x ∧ nd = 2)) := by
  by_cases c2 : (2 : Int32) ≤ x
  · have hx0 : ¬ x < 0 := fun q => absurd (Int32.lt_of_le_of_lt c2 q) (by decide)
    obtain ⟨m, hm, rfl⟩ := nI_of hx0
    have m2 : 2 ≤ m := (nI_leI (a := 2) (by omega) hm).mp c2
    by_cases c6 : nI m ≤ (6 : Int32)
    · have m6 : m ≤ 6 := (nI_leI (b := 6) hm (by omega)).mp c6
      refine ⟨m, m2, m6, ?_, Or.inl ⟨c2, c6, rfl⟩⟩
      have e1 : (if nI m < (6 : Int32) then nI m else (6 : Int32)) = nI m := by
        by_cases q : nI m < (6 : Int32)
        · rw [if_pos q]
        · rw [if_neg q]
          have : ¬ m < 6 := fun z => q ((nI_ltI (b := 6) hm (by omega)).mpr z)
          have : m = 6 := by omega
          rw [this]; rfl
      rw [e1]
      by_cases q : (2 : Int32) < nI m
      · rw [if_pos q]
      · rw [if_neg q]
        have : ¬ 2 < m := fun z => q ((nI_ltI (a := 2) (by omega) hm).mpr z)
        have : m = 2 := by omega
        rw [this]; rfl
    · have m6 : ¬ m ≤ 6 := fun z => c6 ((nI_leI (b := 6) hm (by omega)).mpr z)
      refine ⟨6, by omega, by omega, ?_, Or.inr (Or.inl ⟨c2, c6, rfl⟩)⟩
      have n6 : ¬ nI m < (6 : Int32) := fun q => absurd ((nI_ltI (b := 6) hm (by omega)).mp q) (by omega)
      rw [if_neg n6]
      rfl
  · refine ⟨2, by omega, by omega, ?_, Or.inr (Or.inr ⟨c2, rfl⟩)⟩
    have c3 : x < 2 := Int32.not_le.mp c2
    rw [if_pos (Int32.lt_trans c3 (by decide)), if_neg (fun q => Int32.lt_irrefl (Int32.lt_trans q c3))]
    rfl
theorem f_cell {L : Nat} (xs : Nat → Int32) (hL : L ≤ 2561) : ∃ v, ∀ h : mo_H, (F_L_cell L xs (0 : Int32)).1 h = some (v, h) := by
  unfold F_L_cell
  by_cases c : Int32.ofNat L ≤ (0 : Int32)
  · rw [if_pos c]
    exact ⟨0, fun h => rfl⟩
  · rw [if_neg c]
    have hl : 0 < L := by
      refine Nat.pos_of_ne_zero (fun e => c ?_)
      rw [e]
      decide
    refine ⟨xs 0, fun h => ?_⟩
    rw [sl_e (i := 0) (x := 0) rfl hl hL]
    rfl
section FQ
variable {nd sz : Nat} {c : Nat × Nat}
theorem iS_2 {k i : Nat} : (iS nd c).2.1 (pk k 0 i) = iLk nd k := by
  show (if (0 : Nat) = 0 then iLk nd k else 0) = _
  rw [if_pos rfl]
theorem JI_0 (h2 : 2 ≤ nd) (h6 : nd ≤ 6) (c1 : c.1 ≤ sz + 900) (c2 : c.2 ≤ 100000) : JI (nd, 0, false, false) (iP nd) false [] 0 0 mz (4 * (sz + cb (nd, 0, false, false))) (sb (nd, 0, false, false)) (iS nd c) := by
  have f0 : ∀ k w i, ¬ (k = 1 ∨ k = 2 ∨ k = 41) → (iS nd c).1 (pk k w i) = fun _ => 0 := fun k w i h => iF_0 h
  have row : ∀ k i m, ¬ (k = 1 ∨ k = 2 ∨ k = 41) → iLk nd (k + 1) = m → 4 ≤ m → m ≤ 1000 → cRow (iS nd c) k 0 i [] := fun k i m hk hm h4 h5 => by
    unfold cRow
    rw [f0 k 0 i hk, iS_2, hm]
    exact ⟨rfl, Nat.zero_le _, h4, by omega, fun x hx => absurd hx (Nat.not_lt_zero _)⟩
  have g41 : (iS nd c).1 (rk 41) = fun f => if f = 0 then nI nd else if f = 54 then -1 else 0 := iF_41
  refine JI_un ?_ ?_ (fun k hk => ?_) (fun k x k1 k2 => ?_) ?_ ?_ ?_ ?_ ?_ ?_ rfl rfl ?_ (fun k i k1 k2 _ => ?_) ⟨fun k i _ _ => rfl, fun k i _ _ => rfl⟩
  · refine ⟨fun j i k hr' => ?_, ⟨fun d hd => ⟨?_, ?_⟩, fun i hi => absurd hi (Nat.not_lt_zero _)⟩, fun d hd => ⟨row 22 d 8 (by omega) rfl (by omega) (by omega), row 24 d 8 (by omega) rfl (by omega) (by omega)⟩, fun i hi => absurd hi (Nat.not_lt_zero _), ?_, fr.rf⟩
    · have f := cF_1 0 j i k
      have g := cKd_r j k
      have e : (cF 0 j i k).1 = pk (cKd j k) 0 (cF 0 j i k).1.2.2 := Prod.ext f.1 (Prod.ext f.2 rfl)
      rw [e, f0 _ _ _ (by omega)]
      rfl
    · rw [iS_2]; rfl
    · rw [iS_2]; rfl
    · refine ⟨⟨rfl, rfl, h6, h2, by show 0 ≤ 12; omega⟩, ?_, ?_, ⟨?_, fun a ha => ?_⟩, fun i k hi _ => absurd hi (Nat.not_lt_zero _), fun d hd => row 6 d 8 (by omega) rfl (by omega) (by omega), ⟨?_, fun d hd => ?_⟩, fun a ha => ⟨row 10 a 4 (by omega) rfl (by omega) (by omega), row 13 a 4 (by omega) rfl (by omega) (by omega)⟩⟩
      · show iF nd (pk 1 0 0) 0 = _
        rw [iF_1]; rfl
      · show iF nd (pk 1 0 0) 3 = _
        rw [iF_1]; rfl
      · rw [iS_2]; rfl
      · have ha' : a < nd := ha
        show iF nd (pk 2 0 0) a = nI (fbits (mS a) nd)
        rw [iF_2, fb_1 ha']
        exact if_pos ha'
      · rw [iS_2]; rfl
      · rw [f0 8 0 0 (by omega)]; rfl
  · have z : ∀ k, 42 ≤ k → (iS nd c).1 (rk k) = fun _ => 0 := fun k hk => f0 k 0 0 (by omega)
    refine ⟨⟨h6, h2, by show 0 ≤ 12; omega⟩, ?_, ?_, fun a b ha hb hab => ?_, fun i k hi _ => absurd hi (Nat.not_lt_zero _), fun d hd => ⟨?_, fun p hp => absurd hp (Nat.not_lt_zero _)⟩, fun d hd => ?_, fun a ha => ⟨?_, fun b hb => absurd hb (Nat.not_lt_zero _)⟩⟩
    · rw [g41]; rfl
    · rw [g41]; rfl
    · rw [z 43 (by omega)]
      show (0 : Int32) = if (if b = a then true else false) = true then 1 else 0
      have hn : ¬ b = a := fun e => hab e.symm
      simp [hn]
    · rw [z 50 (by omega)]; rfl
    · rw [z 51 (by omega)]; rfl
    · rw [z 54 (by omega)]; rfl
  · show (iS nd c).2.1 (pk k 0 0) = _
    rw [iS_2]
    unfold iLk
    rw [if_neg (by omega), if_neg (by omega), if_neg (by omega), if_neg (by omega), if_pos (by omega)]
  · have : (iS nd c).1 (rk k) = fun _ => 0 := f0 k 0 0 (by omega)
    rw [this]
  · show iF nd (pk 1 0 0) 8 = _
    rw [iF_1]; rfl
  · rw [g41]; rfl
  · rw [g41]; rfl
  · rw [g41]; rfl
  · exact ⟨row 33 0 32 (by omega) rfl (by omega) (by omega), row 33 1 32 (by omega) rfl (by omega) (by omega), row 33 2 32 (by omega) rfl (by omega) (by omega), row 33 3 32 (by omega) rfl (by omega) (by omega)⟩
  · refine ⟨⟨fun x hx => if_pos rfl, fun i hi => absurd hi (Nat.not_lt_zero _), h6, by show 0 ≤ 12; omega, h2⟩, fun a ha => ⟨by show 0 ≤ 12; omega, fun b hb => absurd hb (Nat.not_lt_zero _)⟩, fun d hd => by show 0 ≤ 64; omega, fun i hi => absurd hi (Nat.not_lt_zero _), fun d hd => Or.inl rfl⟩
  · refine ⟨fun q => ?_, ?_, ?_⟩
    · show (if q.2.1 = 0 then iLk nd q.1 else 0) ≤ gcap q.1
      by_cases e : q.2.1 = 0
      · rw [if_pos e]
        have := rLen_le q.1
        unfold iLk gcap
        repeat' split
        all_goals omega
      · rw [if_neg e]; exact Nat.zero_le _
    · show 4 * c.1 ≤ 4 * (sz + 1000) + _
      omega
    · show c.2 ≤ 100000 + _
      omega
  · rw [iS_2]
    unfold iLk
    rw [if_neg (by omega), if_neg (by omega), if_neg (by omega), if_neg (by omega), if_neg (by omega)]
end FQ
/-- what is left of the claim -/
theorem PURE (L sz : Nat) (xs : Nat → Int32) (hL : L ≤ 2561) : ∃ h2 : mo_H, (F_L_law L xs).1 ((fun _ => none, sz, 0) : mo_H) = some (1, h2) ∧ h2.2.1 - sz ≤ 600000 ∧ h2.2.2 ≤ 7000000 := by
  suffices hs : fh (F_L_law L xs) ((fun _ => none, sz, 0) : mo_H) (fun r h' => r = 1 ∧ ∃ R, LJ sz R sz 200000 h') by
    obtain ⟨r, h', e, rfl, R, θ, Gs, U, s, π, sl, acts, T, n, W, H, e1, e2, J, hT', h6⟩ := hs
    obtain ⟨j1, j2, j3⟩ := J.jb
    have hp : gpot s ≤ 2217312 := by
      rw [← gp_max]
      exact gsum_le gGL (fun q _ => j1 q)
    have hb : cb θ ≤ 1520 := by
      unfold cb
      have a1 : (if θ.2.2.1 = true then 200 else 0) ≤ 200 := by split <;> omega
      have a2 : (if θ.2.2.2 = true then 200 else 0) ≤ 200 := by split <;> omega
      omega
    have hb2 : sb θ ≤ 106000 := by
      unfold sb
      have a1 : (if θ.2.2.1 = true then 2000 else 0) ≤ 2000 := by split <;> omega
      have a2 : (if θ.2.2.2 = true then 2000 else 0) ≤ 2000 := by split <;> omega
      omega
    have hh : h'.2 = s.2.2 := H.2.2
    refine ⟨h', e, ?_, ?_⟩
    · rw [hh]; omega
    · rw [hh]; omega
  obtain ⟨v, hv⟩ := f_cell xs hL
  obtain ⟨nd, d2, d6, dx, dy⟩ := nd_of v
  unfold F_L_law
  refine f_nc (fun h1 a1 a2 a3 => ?_)
  have m1 : h1.2.1 = sz + 1 := by rw [a1]
  have s1 : h1.2.2 = 5 := by rw [a1]; rfl
  refine f_b (hv h1) (f_c (f_x10 (A := sz) d6 dx m1 a2) (fun _ h2 q => ?_))
  obtain ⟨b1, b2, b3, b4⟩ := q
  refine f_nc (fun h3 c1 c2 c3 => f_b (hv h3) ?_)
  rw [b1] at c2 c3 ⊢
  have I0 : RI h2 h3 (sz + 33 + 9 * nd) h3.2.2 0 [] dfX11 := ⟨by rw [c1, b1], rfl, c3, c2, fun j hj => absurd hj (Nat.not_lt_zero _), rfl⟩
  refine f_c (f_x11 dy I0) (fun _ h4 I => ?_)
  have K4 : KF h4 sz nd := by
    have cg : ∀ q, q < sz + 33 + 9 * nd → h4.1 q = h2.1 q := I.2.2.1
    obtain ⟨k0, k1, k2, ⟨n1, n2, n3, n4, n5, n6⟩, ⟨o1, o2, o3, o4, o5⟩⟩ := b4
    exact ⟨by rw [cg _ (by omega)]; exact k0, k1.cg (fun q h1 h2 => cg q (by omega)), k2.cg (by omega) (fun q h1 h2 => cg q (by omega)), ⟨by rw [cg _ (by omega)]; exact n1, by rw [cg _ (by omega)]; exact n2, fun j hj => (n3 j hj).cg (fun q h1 h2 => cg q (by omega)), by rw [cg _ (by omega)]; exact n4, fun j hj => by omega, by rw [cg _ (by omega)]; exact n6⟩, ⟨by rw [cg _ (by omega)]; exact o1, o2.cg (fun q h1 h2 => cg q (by omega)), o3.cg (fun q h1 h2 => cg q (by omega)), o4.cg (fun q h1 h2 => cg q (by omega)), o5.cg (fun q h1 h2 => cg q (by omega))⟩⟩
  have s3 : h3.2.2 = h2.2.2 + 56 := by rw [c1]; rfl
  have sum : (rAL.map fun x => x.1).sum = 77679 := by decide +kernel
  have s4 : h4.2.2 = h3.2.2 + 77679 := by rw [I.2.1, sum]
  have G := gI_0 d6 K4 I
  have J := JI_0 (nd := nd) (sz := sz) (c := h4.2) d2 d6 (by rw [I.1]; omega) (by rw [s4, s3]; omega)
  have L0 : LJ sz (sz + 33 + 9 * nd) sz (200 * 0) h4 := ⟨(nd, 0, false, false), iG sz nd, iG sz nd, iS nd h4.2, iP nd, false, [], 0, 0, mz, G, rfl, rfl, J, Nat.zero_le _, d6, by show 0 ≤ 12; omega⟩
  have run := f_law28 (xs := xs) hL mo_fu 0 h4 (by unfold mo_fu; omega) (by omega) L0
  obtain ⟨r, h5, e, q1, q2⟩ := run
  exact ⟨r, h5, e, q1, _, q2⟩
