/-! THE REFERENCE'S STEPS; a step and a domain's ticks -/
def m8 (e : Nat) (v : Int32) (W V : mW) : Prop := V = mA W 2 e 8 v
section M8
variable {π : mP} {e : Nat} {v0 : Int32} {W V : mW}
theorem m8.rd (h : m8 e v0 W V) {j i k : Nat} (hn : ¬ (j = 2 ∧ i = e ∧ k = 8)) : V.1 j i k = W.1 j i k := by
  rw [show V = mA W 2 e 8 v0 from h, mA_n hn]
theorem m8.s2 (h : m8 e v0 W V) : V.2 = W.2 := by rw [show V = mA W 2 e 8 v0 from h]; rfl
theorem m8.A (h : m8 e v0 W V) (j i k : Nat) (v : Int32) (hn : ¬ (j = 2 ∧ i = e ∧ k = 8)) : m8 e v0 (mA W j i k v) (mA V j i k v) := by
  unfold m8
  rw [show V = mA W 2 e 8 v0 from h]
  refine Prod.ext ?_ rfl
  funext j' i' k'
  show (if j' = j ∧ i' = i ∧ k' = k then v else if j' = 2 ∧ i' = e ∧ k' = 8 then v0 else W.1 j' i' k') = (if j' = 2 ∧ i' = e ∧ k' = 8 then v0 else if j' = j ∧ i' = i ∧ k' = k then v else W.1 j' i' k')
  by_cases c1 : j' = j ∧ i' = i ∧ k' = k
  · rw [if_pos c1, if_neg (fun q => hn ⟨c1.1 ▸ q.1, c1.2.1 ▸ q.2.1, c1.2.2 ▸ q.2.2⟩), if_pos c1]
  · rw [if_neg c1, if_neg c1]
theorem m8.Ar (h : m8 e v0 W V) (j i : Nat) (f : Nat → Int32) (hn : j ≠ 2) : m8 e v0 (mAr W j i f) (mAr V j i f) := by
  unfold m8
  rw [show V = mA W 2 e 8 v0 from h]
  refine Prod.ext ?_ rfl
  funext j' i' k'
  show (if j' = j ∧ i' = i then f k' else if j' = 2 ∧ i' = e ∧ k' = 8 then v0 else W.1 j' i' k') = (if j' = 2 ∧ i' = e ∧ k' = 8 then v0 else if j' = j ∧ i' = i then f k' else W.1 j' i' k')
  by_cases c1 : j' = j ∧ i' = i
  · rw [if_pos c1, if_neg (by omega), if_pos c1]
  · rw [if_neg c1, if_neg c1]
theorem m8.B (h : m8 e v0 W V) (j i : Nat) (l : List Int32) : m8 e v0 (mB W j i l) (mB V j i l) := by
  unfold m8
  rw [show V = mA W 2 e 8 v0 from h]
  rfl
theorem m8.C (h : m8 e v0 W V) (j i : Nat) (l : List (List Int32)) : m8 e v0 (mC W j i l) (mC V j i l) := by
  unfold m8
  rw [show V = mA W 2 e 8 v0 from h]
  rfl
theorem m8.nx (h : m8 e v0 W V) (d : Nat) : m8 e v0 (mnx W d) (mnx V d) := by
  unfold mnx
  rw [h.rd (by omega)]
  exact h.A _ _ _ _ (by omega)
theorem m8.set (h : m8 e v0 W V) (d r : Nat) (v : Int32) : m8 e v0 (mset W d r v) (mset V d r v) := (h.A 0 d r v (by omega)).nx d
theorem m8.put (h : m8 e v0 W V) (d f : Nat) (l : List Int32) : m8 e v0 (mput W d f l) (mput V d f l) := by
  unfold mput
  have : ∀ k, V.1 1 d k = W.1 1 d k := fun k => h.rd (by omega)
  simp only [this]
  exact h.Ar _ _ _ (by omega)
def m8o (e : Nat) (v0 : Int32) (o o' : Option mW) : Prop := match o, o' with
  | none, none => True
  | some W, some V => m8 e v0 W V
  | _, _ => False
theorem m8o_if {c : Prop} [Decidable c] {a b a' b' : Option mW} (h1 : c → m8o e v0 a a') (h2 : ¬ c → m8o e v0 b b') : m8o e v0 (if c then a else b) (if c then a' else b') := by
  by_cases hc : c
  · rw [if_pos hc, if_pos hc]; exact h1 hc
  · rw [if_neg hc, if_neg hc]; exact h2 hc
theorem mchan_8 (h : m8 e v0 W V) (d : Nat) (x y z : Int32) : m8o e v0 (mchan π W d x y z) (mchan π V d x y z) := by
  have hC : ∀ j c, V.2.2 j c = W.2.2 j c := fun j c => by rw [h.s2]
  have h3 : ∀ c k, V.1 3 c k = W.1 3 c k := fun c k => h.rd (by omega)
  have h1 : ∀ k, V.1 1 d k = W.1 1 d k := fun k => h.rd (by omega)
  have h4 : ∀ c k, V.1 4 c k = W.1 4 c k := fun c k => h.rd (by omega)
  have h5 : V.1 5 0 1 = W.1 5 0 1 := h.rd (by omega)
  have hag : ∀ c, mage V c = mage W c := fun c => by unfold mage; rw [h3, h3, h5]
  have hrow : ∀ f n, mrow V d f n = mrow W d f n := fun f n => by unfold mrow; simp only [h1]
  unfold mchan
  simp only [hC, h3, h1, h4, h5, hag, hrow]
  refine m8o_if (fun _ => ?_) (fun _ => ?_)
  · refine m8o_if (fun hc => ?_) (fun _ => trivial)
    refine m8o_if (fun _ => ?_) (fun _ => trivial)
    refine m8o_if (fun _ => h.set _ _ _) (fun _ => ?_)
    exact ((h.A _ _ _ _ (by omega)).C _ _ _).set _ _ _
  refine m8o_if (fun _ => ?_) (fun _ => ?_)
  · refine m8o_if (fun hc => ?_) (fun _ => trivial)
    cases hV : W.2.2 0 (xa x) with
    | nil => exact h.set _ _ _
    | cons m t =>
      refine m8o_if (fun _ => ?_) (fun _ => trivial)
      exact ((h.put _ _ _).C _ _ _).set _ _ _
  refine m8o_if (fun _ => ?_) (fun _ => ?_)
  · refine m8o_if (fun hc => ?_) (fun _ => trivial)
    exact (((h.Ar _ _ _ (by omega)).A _ _ _ _ (by omega)).A _ _ _ _ (by omega)).nx _
  refine m8o_if (fun _ => ?_) (fun _ => trivial)
  refine m8o_if (fun hc => ?_) (fun _ => trivial)
  exact (h.put _ _ _).set _ _ _
theorem mop_8 (h : m8 e v0 W V) (d : Nat) (x : Int32) : m8o e v0 (mop π W d x) (mop π V d x) := by
  have h0 : ∀ k, V.1 0 d k = W.1 0 d k := fun k => h.rd (by omega)
  have h1 : ∀ i k, V.1 1 i k = W.1 1 i k := fun i k => h.rd (by omega)
  have h5 : ∀ k, V.1 5 0 k = W.1 5 0 k := fun k => h.rd (by omega)
  have hB : ∀ j c, V.2.1 j c = W.2.1 j c := fun j c => by rw [h.s2]
  unfold mop
  simp only [h0, h1, h5, hB]
  refine m8o_if (fun _ => h.A _ _ _ _ (by omega)) (fun _ => ?_)
  refine m8o_if (fun _ => h.set _ _ _) (fun _ => ?_)
  refine m8o_if (fun _ => h.set _ _ _) (fun _ => ?_)
  refine m8o_if (fun _ => h.set _ _ _) (fun _ => ?_)
  refine m8o_if (fun _ => h.set _ _ _) (fun _ => ?_)
  refine m8o_if (fun _ => h.set _ _ _) (fun _ => ?_)
  refine m8o_if (fun _ => h.set _ _ _) (fun _ => ?_)
  refine m8o_if (fun _ => h.set _ _ _) (fun _ => ?_)
  refine m8o_if (fun _ => h.set _ _ _) (fun _ => ?_)
  refine m8o_if (fun _ => h.A _ _ _ _ (by omega)) (fun _ => ?_)
  refine m8o_if (fun _ => ?_) (fun _ => ?_)
  · show m8 e v0 (if _ then _ else _) (if _ then _ else _)
    split
    · exact h.A _ _ _ _ (by omega)
    · exact h.nx _
  refine m8o_if (fun _ => ?_) (fun _ => ?_)
  · show m8 e v0 (if _ then _ else _) (if _ then _ else _)
    split
    · exact h.nx _
    · exact h.A _ _ _ _ (by omega)
  refine m8o_if (fun _ => ?_) (fun _ => ?_)
  · exact m8o_if (fun _ => h.set _ _ _) (fun _ => trivial)
  refine m8o_if (fun _ => ?_) (fun _ => ?_)
  · exact m8o_if (fun _ => (h.A _ _ _ _ (by omega)).nx _) (fun _ => trivial)
  refine m8o_if (fun _ => ?_) (fun _ => ?_)
  · exact m8o_if (fun _ => trivial) (fun _ => (h.B _ _ _).nx _)
  refine m8o_if (fun _ => ?_) (fun _ => ?_)
  · cases hV : W.2.1 0 d with
    | nil => exact h.set _ _ _
    | cons v t => exact ((h.A _ _ _ _ (by omega)).B _ _ _).set _ _ _
  refine m8o_if (fun _ => h.set _ _ _) (fun _ => ?_)
  refine m8o_if (fun _ => (h.A _ _ _ _ (by omega)).nx _) (fun _ => ?_)
  refine m8o_if (fun _ => ?_) (fun _ => ?_)
  · exact m8o_if (fun _ => h.set _ _ _) (fun _ => trivial)
  refine m8o_if (fun _ => ?_) (fun _ => ?_)
  · exact m8o_if (fun _ => (h.A _ _ _ _ (by omega)).nx _) (fun _ => trivial)
  refine m8o_if (fun _ => h.set _ _ _) (fun _ => ?_)
  exact mchan_8 h d x _ _
theorem mfail_8 (h : m8 e v0 W V) (d : Nat) : m8 e v0 (mfail π W d) (mfail π V d) := by
  unfold mfail
  rw [h.rd (show ¬ (2 = 2 ∧ d = e ∧ 6 = 8) by omega)]
  have h1 := h.A 2 d 6 (W.1 2 d 6 + 1) (by omega)
  by_cases c1 : pwy π d = 1
  · simp only [if_pos c1]
    exact ((h1.A _ _ _ _ (by omega)).Ar _ _ _ (by omega)).Ar _ _ _ (by omega)
  · by_cases c2 : pwy π d = 2
    · simp only [if_neg c1, if_pos c2]
      exact h1.nx _
    · simp only [if_neg c1, if_neg c2]
      exact h1.A _ _ _ _ (by omega)
theorem mstep_8 (h : m8 e v0 W V) (d : Nat) : m8 e v0 (mstep π W d) (mstep π V d) := by
  have h4 : V.1 2 d 4 = W.1 2 d 4 := h.rd (by omega)
  have h7 : V.1 2 d 7 = W.1 2 d 7 := h.rd (by omega)
  unfold mstep mins
  rw [h4, h7]
  have h1 := h.A 2 d 7 (W.1 2 d 7 + 1) (by omega)
  by_cases hc : (W.1 2 d 4).toNatClampNeg < (ppr π d).length
  · simp only [if_pos hc]
    have ho := mop_8 (π := π) h1 d ((ppr π d).getD (W.1 2 d 4).toNatClampNeg 0)
    cases hw : mop π (mA W 2 d 7 (W.1 2 d 7 + 1)) d ((ppr π d).getD (W.1 2 d 4).toNatClampNeg 0) with
    | none =>
      cases hv : mop π (mA V 2 d 7 (W.1 2 d 7 + 1)) d ((ppr π d).getD (W.1 2 d 4).toNatClampNeg 0) with
      | none => exact mfail_8 h1 d
      | some V' => rw [hw, hv] at ho; exact ho.elim
    | some W' =>
      cases hv : mop π (mA V 2 d 7 (W.1 2 d 7 + 1)) d ((ppr π d).getD (W.1 2 d 4).toNatClampNeg 0) with
      | none => rw [hw, hv] at ho; exact ho.elim
      | some V' => rw [hw, hv] at ho; exact ho
  · simp only [if_neg hc]
    exact mfail_8 h1 d
/-- ticks first, then the step -/
theorem mstep_t (W : mW) (d : Nat) : mstep π (mA W 2 d 8 (W.1 2 d 8 + 1)) d = mA (mstep π W d) 2 d 8 ((mstep π W d).1 2 d 8 + 1) := by
  have e0 : mA W 2 d 8 (W.1 2 d 8) = W := by
    refine Prod.ext ?_ rfl
    funext j i k
    show (if j = 2 ∧ i = d ∧ k = 8 then W.1 2 d 8 else W.1 j i k) = W.1 j i k
    split
    · rename_i q; rw [q.1, q.2.1, q.2.2]
    · rfl
  have h1 : m8 d (W.1 2 d 8) W W := e0.symm
  have h2 := mstep_8 (π := π) h1 d
  have e8 : (mstep π W d).1 2 d 8 = W.1 2 d 8 := by
    have : mstep π W d = mA (mstep π W d) 2 d 8 (W.1 2 d 8) := h2
    rw [this, mA_s]
  rw [e8]
  exact mstep_8 (π := π) (show m8 d (W.1 2 d 8 + 1) W (mA W 2 d 8 (W.1 2 d 8 + 1)) from rfl) d
end M8
section RSt
variable {θ : gT} {π : mP} {n t w : Nat} {bv : Int32} {s0 s s' : gS} {W W' : mW} {d : Nat} {x : Int32} {o : Option mW}
theorem r_sends (h : rT π n w bv s0 s W) (hI : mI π n t W) (hQ : mQ π) (hd : d < π.1) (hn3 : n < 3000) (hx : xop x = 14 ∨ xop x = 15 ∨ xop x = 16 ∨ xop x = 17) : gh (G_X11_sends θ (nI w) (nI d) (nI (xop x)) (nI (xa x)) (W.1 0 d (xb x % 8)) (W.1 0 d (xc x % 8))) s (rSf π n w bv s0 d W (mop π W d x)) := by
  have ht := h.pl.t1
  have ha := xa_lt x
  have em := mchan_of (π := π) (W := W) (d := d) hx rfl rfl
  have hno : ∀ bd, (xop x = 14 ∨ xop x = 15 → bd = 0) → (xop x = 16 ∨ xop x = 17 → bd = 1) → ¬ (xa x < π.2.1 ∧ plk π (xa x) 2 = bd) → mop π W d x = none := fun bd b1 b2 hn => by
    rw [em]
    unfold mchan
    rcases hx with e | e | e | e
    · rw [b1 (Or.inl e)] at hn
      rw [if_pos e, if_neg (fun q => hn ⟨q.1, q.2.1⟩)]
    · rw [b1 (Or.inr e)] at hn
      rw [if_neg (by omega), if_pos e, if_neg (fun q => hn ⟨q.1, q.2.1⟩)]
    · rw [b2 (Or.inl e)] at hn
      rw [if_neg (by omega), if_neg (by omega), if_pos e, if_neg (fun q => hn ⟨q.1.1, q.1.2.1⟩)]
    · rw [b2 (Or.inr e)] at hn
      rw [if_neg (by omega), if_neg (by omega), if_neg (by omega), if_pos e, if_neg (fun q => hn ⟨q.1.1, q.1.2.1⟩)]
  unfold G_X11_sends
  refine hg h.pl.nc ?_
  refine hif (fun c => ?_) (fun c => ?_)
  · rw [nI_leI (by omega) (by omega)] at c
    by_cases e : xop x = 14 ∨ xop x = 15
    · exact hr0 (rSf_no h (hno 0 (fun _ => rfl) (fun q => by omega) (fun q => by omega)))
    · exact hr0 (rSf_no h (hno 1 (fun q => by omega) (fun _ => rfl) (fun q => by omega)))
  · rw [nI_leI (by omega) (by omega)] at c
    have hcc : xa x < π.2.1 := by omega
    refine hlr (i := xa x) rfl (h.ln 47 (by omega)) (by show _ < 12; omega) (h.pl.lk _ 2 hcc (by omega)) ?_
    have go : ∀ bd : Int32, (xop x = 14 ∨ xop x = 15 → bd = 0) → (xop x = 16 ∨ xop x = 17 → bd = 1) → gh (G_X11_sends_27 θ (nI w) (nI d) (nI (xop x)) (nI (xa x)) (W.1 0 d (xb x % 8)) (W.1 0 d (xc x % 8)) (plk π (xa x) 2) bd) s (rSf π n w bv s0 d W (mop π W d x)) := fun bd b1 b2 => by
      unfold G_X11_sends_27
      refine hif (fun c2 => ?_) (fun c2 => ?_)
      · have hb2 : plk π (xa x) 2 = if xop x = 14 ∨ xop x = 15 then 0 else 1 := by
          by_cases e : xop x = 14 ∨ xop x = 15
          · rw [if_pos e, c2, b1 e]
          · rw [if_neg e, c2, b2 (by omega)]
        refine hif (fun c3 => ?_) (fun c3 => ?_)
        · rw [op_par hx] at c3
          refine hlr (i := xa x) rfl (h.ln 45 (by omega)) (by show _ < 12; omega) (h.pl.lk _ 0 hcc (by omega)) ?_
          exact r_53 h hI hQ hd hn3 hx hcc hb2 (by rw [if_pos c3])
        · rw [op_par hx] at c3
          refine hlr (i := xa x) rfl (h.ln 46 (by omega)) (by show _ < 12; omega) (h.pl.lk _ 1 hcc (by omega)) ?_
          exact r_53 h hI hQ hd hn3 hx hcc hb2 (by rw [if_neg c3])
      · exact hr0 (rSf_no h (hno bd b1 b2 (fun q => c2 q.2)))
    refine hif (fun c2 => ?_) (fun c2 => ?_)
    · have c2' : xop x ≤ 15 := (nI_leI (b := 15) (by omega) (by omega)).mp c2
      exact go 0 (fun _ => rfl) (fun q => by omega)
    · have c2' : ¬ xop x ≤ 15 := fun q => c2 ((nI_leI (b := 15) (by omega) (by omega)).mpr q)
      exact go 1 (fun q => by omega) (fun _ => rfl)
theorem mop_hi (h : 24 < xop x) : mop π W d x = none := by
  unfold mop mchan
  rw [if_neg (by omega), if_neg (by omega), if_neg (by omega), if_neg (by omega), if_neg (by omega), if_neg (by omega), if_neg (by omega), if_neg (by omega), if_neg (by omega), if_neg (by omega), if_neg (by omega), if_neg (by omega), if_neg (by omega), if_neg (by omega), if_neg (by omega), if_neg (by omega), if_neg (by omega), if_neg (by omega), if_neg (by omega), if_neg (by omega), if_neg (by omega), if_neg (by omega), if_neg (by omega), if_neg (by omega), if_neg (by omega)]
theorem r_does (h : rT π n w bv s0 s W) (hI : mI π n t W) (hQ : mQ π) (hd : d < π.1) (hn3 : n < 3000) : gh (G_X11_does θ (nI w) (nI d) x) s (rPf π n w bv s0 W (mop π W d x)) := by
  have ho := xop_lt x
  have e1 := b_rem (xb_lt x)
  have e2 := b_rem (xc_lt x)
  have e3 := b_rem (xa_lt x)
  unfold G_X11_does
  simp only [b_sb, b_sa, b_pc]
  simp only [b_op, e1, e2, e3, m_6, m_8, nI_add]
  refine rt_g h hQ (j := 0) (i := d) (k := xb x % 8) ⟨hd, by omega⟩ rfl rfl ?_
  refine rt_g h hQ (j := 0) (i := d) (k := xc x % 8) ⟨hd, by omega⟩ rfl rfl ?_
  refine hif (fun c => ?_) (fun c => ?_) <;> rw [b_op] at c
  · have c' : 24 < xop x := (nI_ltI (a := 24) (by omega) (by omega)).mp c
    exact hr0 (rPf_no h (mop_hi c'))
  have c' : ¬ 24 < xop x := fun q => c ((nI_ltI (a := 24) (by omega) (by omega)).mpr q)
  refine hif (fun c1 => ?_) (fun c1 => ?_) <;> rw [b_op] at c1
  · have c1' : xop x < 14 := (nI_ltI (b := 14) (by omega) (by omega)).mp c1
    exact r_138 h hI hQ hd (by omega)
  have c1' : ¬ xop x < 14 := fun q => c1 ((nI_ltI (b := 14) (by omega) (by omega)).mpr q)
  refine hif (fun c2 => ?_) (fun c2 => ?_) <;> rw [b_op] at c2
  · have c2' : 17 < xop x := (nI_ltI (a := 17) (by omega) (by omega)).mp c2
    exact r_138 h hI hQ hd (by omega)
  have c2' : ¬ 17 < xop x := fun q => c2 ((nI_ltI (a := 17) (by omega) (by omega)).mpr q)
  refine hc (r_sends h hI hQ hd hn3 (by omega)) (fun r s1 q => ?_)
  rcases q with ⟨rfl, W2, h2, em⟩ | ⟨rfl, h2, em⟩
  · refine hF (by decide) ?_
    unfold G_X11_does_138
    refine gif_o (m := 0) (by omega) rfl (fun e => by omega) (fun _ => ?_)
    refine gif_o (m := 1) (by omega) rfl (fun e => by omega) (fun _ => ?_)
    refine gif_o (m := 2) (by omega) rfl (fun e => by omega) (fun _ => ?_)
    refine gif_o (m := 3) (by omega) rfl (fun e => by omega) (fun _ => ?_)
    refine gif_o (m := 4) (by omega) rfl (fun e => by omega) (fun _ => ?_)
    refine gif_o (m := 5) (by omega) rfl (fun e => by omega) (fun _ => ?_)
    refine gif_o (m := 6) (by omega) rfl (fun e => by omega) (fun _ => ?_)
    refine gif_o (m := 7) (by omega) rfl (fun e => by omega) (fun _ => ?_)
    refine gif_o (m := 8) (by omega) rfl (fun e => by omega) (fun _ => ?_)
    refine gif_o (m := 9) (by omega) rfl (fun e => by omega) (fun _ => ?_)
    refine gif_o (m := 10) (by omega) rfl (fun e => by omega) (fun _ => ?_)
    refine gif_o (m := 11) (by omega) rfl (fun e => by omega) (fun _ => ?_)
    refine gif_o (m := 12) (by omega) rfl (fun e => by omega) (fun _ => ?_)
    refine gif_o (m := 13) (by omega) rfl (fun e => by omega) (fun _ => ?_)
    refine gif_o (m := 18) (by omega) rfl (fun e => by omega) (fun _ => ?_)
    refine gif_o (m := 19) (by omega) rfl (fun e => by omega) (fun _ => ?_)
    refine gif_o (m := 20) (by omega) rfl (fun e => by omega) (fun _ => ?_)
    refine gif_o (m := 21) (by omega) rfl (fun e => by omega) (fun _ => ?_)
    refine gif_o (m := 22) (by omega) rfl (fun e => by omega) (fun _ => ?_)
    refine gif_o (m := 23) (by omega) rfl (fun e => by omega) (fun _ => ?_)
    refine gif_o (m := 24) (by omega) rfl (fun e => by omega) (fun _ => ?_)
    exact r_737' h2 hQ hd em
  · exact hT rfl (hr0 (Or.inr ⟨rfl, h2, em⟩))
/-- registers and cells cleared -/
theorem r_clr (hQ : mQ π) (hd : d < π.1) {a len K : Nat} (ha : (a = 0 ∧ len = 8 ∧ K = 61) ∨ (a = 1 ∧ len = 32 ∧ K = 62)) {j : Nat} {s1 : gS} (hj : j < len) (h1 : rT π n w bv s0 s1 (mAr W a d (fun k => if k < j then 0 else W.1 a d k))) {β : Type} {Q : β → gS → Prop} {Kc : Unit → gM β} (kk : ∀ s2, rT π n w bv s0 s2 (mAr W a d (fun k => if k < j + 1 then 0 else W.1 a d k)) → gh (Kc ()) s2 Q) : gh (gb (gsa (pk K 0 0) (nI (len * (6 * w + d) + j)) 0) Kc) s1 Q := by
  have fin : ∀ s2, rT π n w bv s0 s2 (mA (mAr W a d (fun k => if k < j then 0 else W.1 a d k)) a d j 0) → gh (Kc ()) s2 Q := fun s2 h2 => kk s2 (h2.eqW (fun jj ii k _ => by
    by_cases y : jj = a ∧ ii = d
    · obtain ⟨rfl, rfl⟩ := y
      rw [mAr_s]
      by_cases y2 : k = j
      · subst y2
        rw [mA_s, if_pos (by omega)]
      · rw [mA_n (by omega), mAr_s]
        by_cases y3 : k < j
        · rw [if_pos y3, if_pos (by omega)]
        · rw [if_neg y3, if_neg (by omega)]
    · rw [mA_n (by omega), mAr_n y, mAr_n y]) (fun _ _ _ _ => rfl) (fun _ _ _ _ => rfl))
  rcases ha with ⟨rfl, rfl, rfl⟩ | ⟨rfl, rfl, rfl⟩
  · exact rt_s h1 hQ (j := 0) (i := d) (k := j) ⟨hd, hj⟩ rfl rfl fin
  · exact rt_s h1 hQ (j := 1) (i := d) (k := j) ⟨hd, hj⟩ rfl rfl fin
theorem r_148 (hQ : mQ π) (hd : d < π.1) : ∀ (fu j : Nat) (s1 : gS), 32 - j < fu → j ≤ 32 → rT π n w bv s0 s1 (mAr W 1 d (fun k => if k < j then 0 else W.1 1 d k)) → gh (G_X11_step_148 θ fu (nI (6 * w + d)) (nI j)) s1 (fun _ s' => rT π n w bv s0 s' (mAr W 1 d (fun _ => 0)))
  | 0, j, s1, h, _, _ => by omega
  | fu + 1, j, s1, hf, hj, h1 => by
    unfold G_X11_step_148 G_X11_step_174
    refine hif (fun c => ?_) (fun c => ?_)
    · have c' : 32 ≤ j := (nI_leI (a := 32) (by omega) (by omega)).mp c
      refine hr (h1.eqW (fun jj ii k hr => ?_) (fun _ _ _ _ => rfl) (fun _ _ _ _ => rfl))
      by_cases y : jj = 1 ∧ ii = d
      · obtain ⟨rfl, rfl⟩ := y
        have : k < 32 := hr.2
        rw [mAr_s, mAr_s, if_pos (by omega)]
      · rw [mAr_n y, mAr_n y]
    · have c' : ¬ 32 ≤ j := fun q => c ((nI_leI (a := 32) (by omega) (by omega)).mpr q)
      simp only [m_32, nI_add, nI_1]
      exact r_clr hQ hd (len := 32) (Or.inr ⟨rfl, rfl, rfl⟩) (by omega) h1 (fun s2 h2 => r_148 hQ hd fu (j + 1) s2 (by omega) (by omega) h2)
theorem r_119 (hQ : mQ π) (hd : d < π.1) : ∀ (fu j : Nat) (s1 : gS), 8 - j < fu → j ≤ 8 → rT π n w bv s0 s1 (mAr W 0 d (fun k => if k < j then 0 else W.1 0 d k)) → gh (G_X11_step_119 θ fu (nI (6 * w + d)) (nI j)) s1 (fun _ s' => rT π n w bv s0 s' (mAr (mAr W 0 d (fun _ => 0)) 1 d (fun _ => 0)))
  | 0, j, s1, h, _, _ => by omega
  | fu + 1, j, s1, hf, hj, h1 => by
    unfold G_X11_step_119
    refine hif (fun c => ?_) (fun c => ?_)
    · have c' : 8 ≤ j := (nI_leI (a := 8) (by omega) (by omega)).mp c
      unfold G_X11_step_145
      refine r_148 (W := mAr W 0 d (fun _ => 0)) hQ hd mo_fu 0 s1 (by unfold mo_fu; omega) (Nat.zero_le _) (h1.eqW (fun jj ii k hr => ?_) (fun _ _ _ _ => rfl) (fun _ _ _ _ => rfl))
      by_cases y : jj = 1 ∧ ii = d
      · obtain ⟨rfl, rfl⟩ := y
        rw [mAr_s, if_neg (by omega), mAr_n (by omega), mAr_n (by omega)]
      · rw [mAr_n y]
        by_cases y2 : jj = 0 ∧ ii = d
        · obtain ⟨rfl, rfl⟩ := y2
          have : k < 8 := hr.2
          rw [mAr_s, mAr_s, if_pos (by omega)]
        · rw [mAr_n y2, mAr_n y2]
    · have c' : ¬ 8 ≤ j := fun q => c ((nI_leI (a := 8) (by omega) (by omega)).mpr q)
      simp only [m_8, nI_add, nI_1]
      exact r_clr hQ hd (len := 8) (Or.inl ⟨rfl, rfl, rfl⟩) (by omega) h1 (fun s2 h2 => r_119 hQ hd fu (j + 1) s2 (by omega) (by omega) h2)
theorem r_fail (h : rT π n w bv s0 s W) (hQ : mQ π) (hd : d < π.1) : gh (G_X11_step_62 θ (nI d) (nI (6 * w + d)) 0) s (fun _ s' => rT π n w bv s0 s' (mfail π W d)) := by
  have ht := h.pl.t1
  unfold G_X11_step_62 mfail
  refine hT rfl (rt_g h hQ (j := 2) (i := d) (k := 6) ⟨hd, by omega, by omega⟩ rfl rfl ?_)
  refine rt_s h hQ (j := 2) (i := d) (k := 6) ⟨hd, by omega, by omega⟩ rfl rfl (fun s1 h1 => ?_)
  refine hlr (i := d) rfl (h1.ln 51 (by omega)) (by show _ < 6; omega) (h1.pl.wy d hd) ?_
  refine hif (fun c => ?_) (fun c => ?_)
  · have a1 : ¬ pwy π d = 1 := fun q => by rw [q] at c; exact absurd c (by decide)
    have a2 : ¬ pwy π d = 2 := fun q => by rw [q] at c; exact absurd c (by decide)
    simp only [if_neg a1, if_neg a2]
    exact rt_s h1 hQ (j := 2) (i := d) (k := 5) ⟨hd, by omega, by omega⟩ rfl rfl (fun s2 h2 => hr h2)
  · refine hlr (i := d) rfl (h1.ln 51 (by omega)) (by show _ < 6; omega) (h1.pl.wy d hd) ?_
    refine hif (fun c1 => ?_) (fun c1 => ?_)
    · simp only [if_pos c1]
      refine rt_s h1 hQ (j := 2) (i := d) (k := 4) ⟨hd, by omega, by omega⟩ rfl rfl (fun s2 h2 => ?_)
      refine r_119 hQ hd mo_fu 0 s2 (by unfold mo_fu; omega) (Nat.zero_le _) (h2.eqW (fun jj ii k hr => ?_) (fun _ _ _ _ => rfl) (fun _ _ _ _ => rfl))
      by_cases y : jj = 0 ∧ ii = d
      · obtain ⟨rfl, rfl⟩ := y
        rw [mAr_s, if_neg (by omega)]
      · rw [mAr_n y]
    · have a2 : pwy π d = 2 := by
        rcases hQ.wy d hd with q | q | q
        · exact absurd q c
        · exact absurd q c1
        · exact q
      simp only [if_neg c1, if_pos a2]
      refine rt_g h1 hQ (j := 2) (i := d) (k := 4) ⟨hd, by omega, by omega⟩ rfl rfl ?_
      exact rt_s h1 hQ (j := 2) (i := d) (k := 4) ⟨hd, by omega, by omega⟩ rfl rfl (fun s2 h2 => hr h2)
theorem r_step (h : rT π n w bv s0 s W) (hI : mI π n t W) (hQ : mQ π) (hd : d < π.1) (hn3 : n < 3000) : gh (G_X11_step θ (nI w) (nI d)) s (fun _ s' => rT π (n + 1) w bv s0 s' (mstep π W d)) := by
  have ht := h.pl.t1
  obtain ⟨p, hp1, hp2⟩ := hI.dm d hd
  have hlen := hQ.pr d hd
  unfold G_X11_step mstep G_X11_step_61
  simp only [m_6, nI_add]
  refine rt_g h hQ (j := 2) (i := d) (k := 7) ⟨hd, by omega, by omega⟩ rfl rfl ?_
  refine rt_s h hQ (j := 2) (i := d) (k := 7) ⟨hd, by omega, by omega⟩ rfl rfl (fun s1 h1 => ?_)
  have hI1 : mI π n t (mA W 2 d 7 (W.1 2 d 7 + 1)) := hI.A (by omega) (by omega) (by omega)
  have hp3 : (mA W 2 d 7 (W.1 2 d 7 + 1)).1 2 d 4 = nI p := (mA_n (by omega)).trans hp2
  refine rt_g h1 hQ (j := 2) (i := d) (k := 4) ⟨hd, by omega, by omega⟩ rfl rfl ?_
  rw [hp3]
  refine hlr (i := d) rfl (h1.ln 50 (by omega)) (by show _ < 6; omega) (h1.pl.pr d hd).1 ?_
  rw [hp2, nI_clamp (by omega)]
  refine hif (fun c => ?_) (fun c => ?_)
  · rw [nI_leI (by omega) (by omega)] at c
    simp only [if_neg (show ¬ p < (ppr π d).length by omega)]
    exact r_fail (h1.mono (Nat.le_succ n)) hQ hd
  · rw [nI_leI (by omega) (by omega)] at c
    simp only [if_pos (show p < (ppr π d).length by omega)]
    refine rt_g h1 hQ (j := 2) (i := d) (k := 4) ⟨hd, by omega, by omega⟩ rfl rfl ?_
    rw [hp3]
    simp only [m_64, nI_add]
    have hmi : mins π W d = (ppr π d).getD p 0 := by
      unfold mins
      rw [hp2, nI_clamp (by omega)]
    refine hlr (i := 64 * d + p) (v := mins π W d) rfl (h1.ln 49 (by omega)) (by show _ < 384; omega) (by rw [hmi]; exact (h1.pl.pr d hd).2 p (by omega)) ?_
    refine hc (r_does h1 hI1 hQ hd hn3) (fun r s2 q => ?_)
    rcases q with ⟨rfl, W3, h3, em⟩ | ⟨rfl, h3, em⟩
    · refine hF (by decide) ?_
      unfold G_X11_step_62
      rw [em]
      exact hF (by decide) (hr h3)
    · rw [em]
      exact hT rfl (r_fail h3 hQ hd)
end RSt
