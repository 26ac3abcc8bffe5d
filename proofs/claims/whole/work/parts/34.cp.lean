/-! THE CLASS'S INSTRUCTIONS -/
theorem fb_lt (f : Nat → Bool) : ∀ n, fbits f n < 2 ^ n
  | 0 => Nat.one_pos
  | n + 1 => by
    have := fb_lt f n
    show fbits f n + (if f n = true then 2 ^ n else 0) < 2 ^ (n + 1)
    rw [Nat.pow_succ]
    split <;> omega
theorem fb_test (f : Nat → Bool) : ∀ n b, b < n → (fbits f n).testBit b = f b
  | 0, b, h => by omega
  | n + 1, b, h => by
    have hlt := fb_lt f n
    show (fbits f n + (if f n = true then 2 ^ n else 0)).testBit b = f b
    by_cases e : b = n
    · subst e
      by_cases c : f b = true
      · rw [if_pos c, Nat.add_comm, Nat.testBit_two_pow_add_eq, Nat.testBit_lt_two_pow hlt, c]; rfl
      · rw [if_neg c, Nat.add_zero, Nat.testBit_lt_two_pow hlt]
        cases hf : f b
        · rfl
        · exact absurd hf c
    · have hb : b < n := by omega
      have ih := fb_test f n b hb
      by_cases c : f n = true
      · rw [if_pos c, Nat.add_comm, Nat.testBit_two_pow_add_gt hb, ih]
      · rw [if_neg c, Nat.add_zero, ih]
theorem fb_all (f : Nat → Bool) : ∀ n, fbits f n = 2 ^ n - 1 ↔ ∀ k, k < n → f k = true
  | 0 => ⟨fun _ k hk => by omega, fun _ => rfl⟩
  | n + 1 => by
    have hlt := fb_lt f n
    have ih := fb_all f n
    have hp : 0 < 2 ^ n := Nat.two_pow_pos n
    show fbits f n + (if f n = true then 2 ^ n else 0) = 2 ^ (n + 1) - 1 ↔ _
    rw [Nat.pow_succ]
    constructor
    · intro h k hk
      by_cases c : f n = true
      · rw [if_pos c] at h
        by_cases e : k = n
        · rw [e]; exact c
        · exact ih.mp (by omega) k (by omega)
      · rw [if_neg c] at h
        omega
    · intro h
      rw [if_pos (h n (by omega))]
      have := ih.mpr (fun k hk => h k (by omega))
      omega
theorem bt_and : ∀ m, m < 64 → ∀ b, b < 6 → ((nI m &&& ((1 : Int32) <<< (nI b &&& 31)) = 0) ↔ m.testBit b = false) := by decide +kernel
theorem bt_all : ∀ n, n < 7 → ((1 : Int32) <<< (nI n &&& 31)) - 1 = nI (2 ^ n - 1) := by decide +kernel
def mcv (W : mW) (d : Nat) (x : Int32) : Int32 := if xop x = 1 then x >>> ((16 : Int32) &&& 31) else if xop x = 2 then W.1 0 d (xb x % 8) else if xop x = 3 then W.1 0 d (xb x % 8) + W.1 0 d (xc x % 8) else if xop x = 4 then W.1 0 d (xb x % 8) - W.1 0 d (xc x % 8) else if xop x = 5 then W.1 0 d (xb x % 8) * W.1 0 d (xc x % 8) else if xop x = 6 then W.1 0 d (xb x % 8) &&& W.1 0 d (xc x % 8) else if xop x = 7 then W.1 0 d (xb x % 8) ^^^ W.1 0 d (xc x % 8) else if W.1 0 d (xb x % 8) < W.1 0 d (xc x % 8) then 1 else 0
theorem mop_cv {π : mP} {W : mW} {d : Nat} {x : Int32} (h1 : 1 ≤ xop x) (h2 : xop x ≤ 8) : mop π W d x = some (mset W d (xa x % 8) (mcv W d x)) := by
  have : xop x = 1 ∨ xop x = 2 ∨ xop x = 3 ∨ xop x = 4 ∨ xop x = 5 ∨ xop x = 6 ∨ xop x = 7 ∨ xop x = 8 := by omega
  unfold mop mcv
  rcases this with e | e | e | e | e | e | e | e <;> simp only [e] <;> rfl
def mpl (W : mW) (d : Nat) (x : Int32) : Int32 := if xop x = 0 then W.1 2 d 4 else if xop x = 9 then nI (xb x) else if xop x = 10 then (if W.1 0 d (xa x % 8) = 0 then nI (xb x) else W.1 2 d 4 + 1) else if xop x = 11 then (if W.1 0 d (xa x % 8) = 0 then W.1 2 d 4 + 1 else nI (xb x)) else W.1 2 d 4 + 1
theorem nI_lit {a b : Nat} (ha : a < 256) (hb : b < 256) : (nI a = nI b) ↔ a = b := nI_eq (by omega) (by omega)
def cPf (θ : gT) (π : mP) (n w : Nat) (s0 : gS) (d : Nat) (x : Int32) (W1 : mW) (r : Int32) (s' : gS) : Prop := (r = 1 ∧ ∃ W2 W3, cT θ π (n + 1) w s0 s' W2 ∧ mop π W1 d x = some W3 ∧ (∀ j i k, mR π j i k → W3.1 j i k = (mA W2 2 d 4 (mpl W2 d x)).1 j i k) ∧ W3.2 = W2.2) ∨ (r = 0 ∧ cT θ π (n + 1) w s0 s' W1 ∧ mop π W1 d x = none)
section CP
variable {θ : gT} {π : mP} {n t w : Nat} {s0 s s' : gS} {W W' : mW} {d : Nat} {x : Int32}
theorem cPf_nx {W2 : mW} (ho : xop x ≠ 0 ∧ xop x ≠ 9 ∧ xop x ≠ 10 ∧ xop x ≠ 11) (h : cT θ π (n + 1) w s0 s' W2) (hm : mop π W d x = some (mnx W2 d)) : cPf θ π n w s0 d x W 1 s' := by
  refine Or.inl ⟨rfl, W2, _, h, hm, fun j i k _ => ?_, rfl⟩
  unfold mpl
  rw [if_neg ho.1, if_neg ho.2.1, if_neg ho.2.2.1, if_neg ho.2.2.2]
  rfl
theorem cPf_no (h : cT θ π n w s0 s' W) (hm : mop π W d x = none) : cPf θ π n w s0 d x W 0 s' := Or.inr ⟨rfl, h.mono (Nat.le_succ n), hm⟩
theorem gif_op {a b : gM Int32} {m : Nat} (hm : m < 256) {y : Int32} (hy : y = nI m) {Q : Int32 → gS → Prop} (k1 : xop x = m → gh a s Q) (k2 : xop x ≠ m → gh b s Q) : gh (gif (nI (xop x) = y) a b) s Q := by
  subst hy
  refine hif (fun c => k1 ((nI_lit (xop_lt x) hm).mp c)) (fun c => k2 (fun e => c (by rw [e])))
theorem e_comp (h : cT θ π n w s0 s W) (hd : d < π.1) (ho : 1 ≤ xop x ∧ xop x ≤ 8) : G_X3_computed θ w d x s = some (mcv W d x, s) := gh_eq (by
  unfold G_X3_computed mcv
  refine hb e_pb (hb (e_read h hd (xb_lt x)) (hb e_pc (hb (e_read h hd (xc_lt x)) (hb e_op ?_))))
  refine gif_op (m := 1) (by omega) rfl (fun e => by rw [if_pos e]; exact hr ⟨rfl, rfl⟩) (fun e => ?_)
  rw [if_neg e]
  refine gif_op (m := 2) (by omega) rfl (fun e => by rw [if_pos e]; exact hr ⟨rfl, rfl⟩) (fun e => ?_)
  rw [if_neg e]
  refine gif_op (m := 3) (by omega) rfl (fun e => by rw [if_pos e]; exact hr ⟨rfl, rfl⟩) (fun e => ?_)
  rw [if_neg e]
  refine gif_op (m := 4) (by omega) rfl (fun e => by rw [if_pos e]; exact hr ⟨rfl, rfl⟩) (fun e => ?_)
  rw [if_neg e]
  refine gif_op (m := 5) (by omega) rfl (fun e => by rw [if_pos e]; exact hr ⟨rfl, rfl⟩) (fun e => ?_)
  rw [if_neg e]
  refine gif_op (m := 6) (by omega) rfl (fun e => by rw [if_pos e]; exact hr ⟨rfl, rfl⟩) (fun e => ?_)
  rw [if_neg e]
  refine gif_op (m := 7) (by omega) rfl (fun e => by rw [if_pos e]; exact hr ⟨rfl, rfl⟩) (fun e => ?_)
  rw [if_neg e]
  refine hif (fun c => ?_) (fun c => ?_)
  · rw [if_neg (Int32.not_lt.mpr c)]; exact hr ⟨rfl, rfl⟩
  · rw [if_pos (Int32.not_le.mp c)]; exact hr ⟨rfl, rfl⟩)
theorem mop_x {o : Option mW} {m : Nat} (e : xop x = m) (h : (∀ y, xop y = m → y = x → mop π W d y = o)) : mop π W d x = o := h x e rfl
/-- the instructions that touch nothing but their domain -/
theorem c_alone (h : cT θ π n w s0 s W) (hI : mI π n t W) (hd : d < π.1) (hw : w < 3) (hd6 : π.1 ≤ 6) (hx : xop x ≤ 13 ∨ xop x = 18 ∨ xop x = 19) : gh (G_X3_performAlone θ w d x) s (cPf θ π n w s0 d x W) := by
  have hn := h.mono (Nat.le_succ n)
  unfold G_X3_performAlone
  refine hb e_pa (hb e_pb (hb (e_read h hd (xb_lt x)) (hb e_op ?_)))
  refine gif_op (m := 0) (by omega) rfl (fun e => ?_) (fun e0 => ?_)
  · refine hp (hr1 (Or.inl ⟨rfl, _, _, hn.wr (j := 2) (i := d) (k := 5) (v := 1) ⟨hd, by omega, by omega⟩, (show mop π W d x = some (mA W 2 d 5 1) by unfold mop; rw [if_pos e]), fun j i k _ => ?_, rfl⟩))
    unfold mpl
    rw [if_pos e]
    by_cases c : j = 2 ∧ i = d ∧ k = 4
    · obtain ⟨rfl, rfl, rfl⟩ := c
      rw [mA_s]
    · rw [mA_n c]
  refine gif_op (m := 9) (by omega) rfl (fun e => ?_) (fun e9 => ?_)
  · refine hr1 (Or.inl ⟨rfl, W, mA W 2 d 4 (nI (xb x)), hn, ?_, fun j i k _ => ?_, rfl⟩)
    · unfold mop; simp only [e]; rfl
    · unfold mpl; simp only [e]; rfl
  refine gif_op (m := 10) (by omega) rfl (fun e => ?_) (fun e10 => ?_)
  · refine hr1 (Or.inl ⟨rfl, W, (if W.1 0 d (xa x % 8) = 0 then mA W 2 d 4 (nI (xb x)) else mnx W d), hn, ?_, fun j i k _ => ?_, ?_⟩)
    · unfold mop; simp only [e]; rfl
    · unfold mpl; simp only [e]
      by_cases c : W.1 0 d (xa x % 8) = 0
      · simp only [if_pos c]; rfl
      · simp only [if_neg c]; rfl
    · split <;> rfl
  refine gif_op (m := 11) (by omega) rfl (fun e => ?_) (fun e11 => ?_)
  · refine hr1 (Or.inl ⟨rfl, W, (if W.1 0 d (xa x % 8) = 0 then mnx W d else mA W 2 d 4 (nI (xb x))), hn, ?_, fun j i k _ => ?_, ?_⟩)
    · unfold mop; simp only [e]; rfl
    · unfold mpl; simp only [e]
      by_cases c : W.1 0 d (xa x % 8) = 0
      · simp only [if_pos c]; rfl
      · simp only [if_neg c]; rfl
    · split <;> rfl
  have hno : xop x ≠ 0 ∧ xop x ≠ 9 ∧ xop x ≠ 10 ∧ xop x ≠ 11 := ⟨e0, e9, e10, e11⟩
  refine gif_op (m := 12) (by omega) rfl (fun e => ?_) (fun e12 => ?_)
  · have em : mop π W d x = if mcl (W.1 0 d (xb x % 8)) 1 then some (mset W d (xa x % 8) (W.1 1 d (W.1 0 d (xb x % 8)).toNatClampNeg)) else none := by unfold mop; simp only [e]; rfl
    unfold G_X3_load
    by_cases c : mcl (W.1 0 d (xb x % 8)) 1
    · rw [if_pos c] at em
      obtain ⟨j, hj, ej⟩ := nI_of c.1
      have c2 := c.2
      rw [ej, nI_clamp hj] at c2
      rw [ej, nI_clamp hj] at em
      have hh : G_X3_hasCells θ (W.1 0 d (xb x % 8)) 1 s = some (1, s) := by
        have := e_has (θ := θ) (x := W.1 0 d (xb x % 8)) (s := s) (m := 1) (by omega)
        rw [if_pos c] at this
        exact this
      refine hc (Q1 := cPf θ π n w s0 d x W) ?_ (fun r s1 q => hrz (q.elim (fun q => Or.inr q.1) (fun q => Or.inl q.1)) q)
      refine hb hh (hF (by decide) ?_)
      refine hl (i := j) ej (by rw [(h.ln.1 d hd).2]; omega) hj (h.sc 1 d j ⟨hd, by omega⟩) ?_
      exact hc (c_write hn hd (xa_lt x)) (fun _ s1 h1 => hr1 (cPf_nx hno h1 em))
    · rw [if_neg c] at em
      have hh : G_X3_hasCells θ (W.1 0 d (xb x % 8)) 1 s = some (0, s) := by
        have := e_has (θ := θ) (x := W.1 0 d (xb x % 8)) (s := s) (m := 1) (by omega)
        rw [if_neg c] at this
        exact this
      refine hc (Q1 := cPf θ π n w s0 d x W) ?_ (fun r s1 q => hrz (q.elim (fun q => Or.inr q.1) (fun q => Or.inl q.1)) q)
      exact hb hh (hT rfl (hr0 (cPf_no h em)))
  refine gif_op (m := 13) (by omega) rfl (fun e => ?_) (fun e13 => ?_)
  · have em : mop π W d x = if mcl (W.1 0 d (xb x % 8)) 1 then some (mnx (mA W 1 d (W.1 0 d (xb x % 8)).toNatClampNeg (W.1 0 d (xa x % 8))) d) else none := by unfold mop; simp only [e]; rfl
    refine hb (e_read h hd (xa_lt x)) ?_
    unfold G_X3_store
    by_cases c : mcl (W.1 0 d (xb x % 8)) 1
    · rw [if_pos c] at em
      obtain ⟨j, hj, ej⟩ := nI_of c.1
      have c2 := c.2
      rw [ej, nI_clamp hj] at c2
      rw [ej, nI_clamp hj] at em
      have hh : G_X3_hasCells θ (W.1 0 d (xb x % 8)) 1 s = some (1, s) := by
        have := e_has (θ := θ) (x := W.1 0 d (xb x % 8)) (s := s) (m := 1) (by omega)
        rw [if_pos c] at this
        exact this
      refine hc (Q1 := cPf θ π n w s0 d x W) ?_ (fun r s1 q => hrz (q.elim (fun q => Or.inr q.1) (fun q => Or.inl q.1)) q)
      refine hb hh (hF (by decide) ?_)
      refine hs (i := j) ej (by rw [(h.ln.1 d hd).2]; omega) hj ?_
      exact hr1 (cPf_nx hno (hn.wr (j := 1) (i := d) (k := j) ⟨hd, by omega⟩) em)
    · rw [if_neg c] at em
      have hh : G_X3_hasCells θ (W.1 0 d (xb x % 8)) 1 s = some (0, s) := by
        have := e_has (θ := θ) (x := W.1 0 d (xb x % 8)) (s := s) (m := 1) (by omega)
        rw [if_neg c] at this
        exact this
      refine hc (Q1 := cPf θ π n w s0 d x W) ?_ (fun r s1 q => hrz (q.elim (fun q => Or.inr q.1) (fun q => Or.inl q.1)) q)
      exact hb hh (hT rfl (hr0 (cPf_no h em)))
  refine gif_op (m := 18) (by omega) rfl (fun e => ?_) (fun e18 => ?_)
  · have em : mop π W d x = if (W.2.1 1 d).length = 200 then none else some (mnx (mB W 1 d (W.2.1 1 d ++ [W.1 0 d (xa x % 8)])) d) := by unfold mop; simp only [e]; rfl
    have hlen := (hI.io d hd).2
    refine hb (e_read h hd (xa_lt x)) ?_
    refine hc (Q1 := cPf θ π n w s0 d x W) ?_ (fun r s1 q => hrz (q.elim (fun q => Or.inr q.1) (fun q => Or.inl q.1)) q)
    unfold G_X3_putOut
    refine hg (h.rw d hd).2.1 ?_
    refine hif (fun c => ?_) (fun c => ?_)
    · have c' : (W.2.1 1 d).length = 200 := (nI_eq (b := 200) (by omega) (by omega)).mp c
      rw [if_pos c'] at em
      exact hr0 (cPf_no h em)
    · have c' : ¬ (W.2.1 1 d).length = 200 := fun e => c (by rw [e]; rfl)
      rw [if_neg c'] at em
      refine hc (c_add (h.rw d hd).2 _ (gGL_mem (by decide) hw (by omega)) (by show _ ≤ 400; omega)) (fun _ s1 q => hr1 (cPf_nx hno (hn.row1 q.1 q.2) em))
  refine gif_op (m := 19) (by omega) rfl (fun e => ?_) (fun e19 => ?_)
  · have em : mop π W d x = (match W.2.1 0 d with
      | [] => some (mset W d 7 0)
      | v :: t => some (mset (mB (mA W 0 d (xa x % 8) v) 0 d t) d 7 1)) := by unfold mop; simp only [e]; rfl
    have hlen := (hI.io d hd).1
    have hrow := (h.rw d hd).1
    unfold G_X3_takeInput
    refine hc (Q1 := fun _ s1 => cPf θ π n w s0 d x W 1 s1) ?_ (fun r s1 q => hr1 q)
    refine hg hrow.1 ?_
    cases hV : W.2.1 0 d with
    | nil =>
      rw [hV] at em
      refine hT rfl ?_
      exact hc (c_report hn hd) (fun _ s1 h1 => hr (cPf_nx hno h1 em))
    | cons v tl =>
      rw [hV] at em hrow hlen
      rw [List.length_cons] at hlen
      refine hF (nI_ne0 (by rw [List.length_cons]; omega) (by rw [List.length_cons]; omega)) ?_
      refine hb (e_getn hrow (a := 0) rfl (by omega)) ?_
      refine hc (c_write hn hd (xa_lt x)) (fun _ s1 h1 => ?_)
      have hrow1 : cRow s1 22 w d (v :: tl) := by
        have := (h1.rw d hd).1
        have hz : (mA W 0 d (xa x % 8) ((v :: tl).getD 0 0)).2.1 0 d = v :: tl := hV
        rw [hz] at this
        exact this
      refine hc (c_rmF hrow1) (fun _ s2 q => ?_)
      exact hc (c_report (h1.row0 q.1 q.2) hd) (fun _ s3 h3 => hr (cPf_nx hno h3 em))
  refine hb (e_comp h hd (by omega)) ?_
  exact hc (c_write hn hd (xa_lt x)) (fun _ s1 h1 => hr1 (cPf_nx hno h1 (mop_cv (by omega) (by omega))))
theorem e_plA (h : cT θ π n w s0 s W) (hd : d < π.1) : G_X3_placeAfter θ w d x s = some (mpl W d x, s) := gh_eq (by
  have h4 := h.sc 2 d 4 ⟨hd, by omega, by omega⟩
  unfold G_X3_placeAfter mpl
  refine hb e_pa (hb (e_read h hd (xa_lt x)) (hb e_pb (hb e_op ?_)))
  refine gif_op (m := 0) (by omega) rfl (fun e => by rw [if_pos e]; exact hg h4 (hr ⟨rfl, rfl⟩)) (fun e => ?_)
  rw [if_neg e]
  refine gif_op (m := 9) (by omega) rfl (fun e => by rw [if_pos e]; exact hr ⟨rfl, rfl⟩) (fun e => ?_)
  rw [if_neg e]
  refine gif_op (m := 10) (by omega) rfl (fun e => ?_) (fun e => ?_)
  · rw [if_pos e]
    refine hif (fun c => ?_) (fun c => ?_)
    · rw [if_pos c]; exact hr ⟨rfl, rfl⟩
    · rw [if_neg c]; exact hg h4 (hr ⟨rfl, rfl⟩)
  rw [if_neg e]
  refine gif_op (m := 11) (by omega) rfl (fun e => ?_) (fun e => ?_)
  · rw [if_pos e]
    refine hif (fun c => ?_) (fun c => ?_)
    · rw [if_pos c]; exact hg h4 (hr ⟨rfl, rfl⟩)
    · rw [if_neg c]; exact hr ⟨rfl, rfl⟩
  rw [if_neg e]
  exact hg h4 (hr ⟨rfl, rfl⟩))
end CP
