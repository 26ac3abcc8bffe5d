/-! WHAT HOLDS OF A WORLD after n steps, at time t -/
def psz (π : mP) (c : Nat) : Nat := (plk π c 3).toNatClampNeg
def mQ (π : mP) : Prop := (mPok π) ∧ (∀ a, a < 3 → (psl π a).length ≤ 12 ∧ ∀ b, b < (psl π a).length → ((psl π a).getD b (0, 0)).1 < π.1 ∧ 1 ≤ ((psl π a).getD b (0, 0)).2 ∧ ((psl π a).getD b (0, 0)).2 ≤ 20) ∧ (0 < (psl π 0).length) ∧ (∀ d, d < π.1 → (ppr π d).length ≤ 64) ∧ (∀ c, c < π.2.1 → 1 ≤ psz π c ∧ psz π c ≤ 4 ∧ plk π c 3 = nI (psz π c) ∧ (plk π c 2 = 0 ∨ plk π c 2 = 1)) ∧ (∀ d, d < π.1 → pwy π d = 0 ∨ pwy π d = 1 ∨ pwy π d = 2)
theorem mQ.pok {π : mP} (h : mQ π) : mPok π := h.1
theorem mQ.sl {π : mP} (h : mQ π) : ∀ a, a < 3 → (psl π a).length ≤ 12 ∧ ∀ b, b < (psl π a).length → ((psl π a).getD b (0, 0)).1 < π.1 ∧ 1 ≤ ((psl π a).getD b (0, 0)).2 ∧ ((psl π a).getD b (0, 0)).2 ≤ 20 := h.2.1
theorem mQ.s0 {π : mP} (h : mQ π) : 0 < (psl π 0).length := h.2.2.1
theorem mQ.pr {π : mP} (h : mQ π) : ∀ d, d < π.1 → (ppr π d).length ≤ 64 := h.2.2.2.1
theorem mQ.lk {π : mP} (h : mQ π) : ∀ c, c < π.2.1 → 1 ≤ psz π c ∧ psz π c ≤ 4 ∧ plk π c 3 = nI (psz π c) ∧ (plk π c 2 = 0 ∨ plk π c 2 = 1) := h.2.2.2.2.1
theorem mQ.wy {π : mP} (h : mQ π) : ∀ d, d < π.1 → pwy π d = 0 ∨ pwy π d = 1 ∨ pwy π d = 2 := h.2.2.2.2.2
def mIc (π : mP) (t : Nat) (W : mW) : Prop := W.1 5 0 1 = nI t ∧ (∃ a b l, a < 3 ∧ W.1 5 0 2 = nI a ∧ b < (psl π a).length ∧ W.1 5 0 3 = nI b ∧ 1 ≤ l ∧ l ≤ ((psl π a).getD b (0, 0)).2 ∧ W.1 5 0 4 = nI l) ∧ (∃ a, a < 3 ∧ W.1 5 0 5 = nI a) ∧ (W.1 5 0 6 = 0 ∨ W.1 5 0 6 = 1)
def mI (π : mP) (n t : Nat) (W : mW) : Prop := (mIc π t W) ∧ (∀ d, d < π.1 → ∃ p, p ≤ 256 + n ∧ W.1 2 d 4 = nI p) ∧ (∀ d, d < π.1 → (W.2.1 0 d).length ≤ 8 ∧ (W.2.1 1 d).length ≤ 200) ∧ (∀ c, c < π.2.1 → ∃ k, k ≤ psz π c ∧ W.1 3 c 3 = nI k) ∧ (∀ c j, c < π.2.1 → j < 2 → (∀ m, m ∈ W.2.2 j c → 1 ≤ m.length ∧ m.length ≤ 4) ∧ (plk π c 2 = 1 → W.2.2 j c = []))
theorem mI.ck {π : mP} {n t : Nat} {W : mW} (h : mI π n t W) : mIc π t W := h.1
theorem mI.dm {π : mP} {n t : Nat} {W : mW} (h : mI π n t W) : ∀ d, d < π.1 → ∃ p, p ≤ 256 + n ∧ W.1 2 d 4 = nI p := h.2.1
theorem mI.io {π : mP} {n t : Nat} {W : mW} (h : mI π n t W) : ∀ d, d < π.1 → (W.2.1 0 d).length ≤ 8 ∧ (W.2.1 1 d).length ≤ 200 := h.2.2.1
theorem mI.ch {π : mP} {n t : Nat} {W : mW} (h : mI π n t W) : ∀ c, c < π.2.1 → ∃ k, k ≤ psz π c ∧ W.1 3 c 3 = nI k := h.2.2.2.1
theorem mI.ms {π : mP} {n t : Nat} {W : mW} (h : mI π n t W) : ∀ c j, c < π.2.1 → j < 2 → (∀ m, m ∈ W.2.2 j c → 1 ≤ m.length ∧ m.length ≤ 4) ∧ (plk π c 2 = 1 → W.2.2 j c = []) := h.2.2.2.2
section INV
variable {π : mP} {n t : Nat} {W W' : mW} {d : Nat}
theorem mI.cg (h : mI π n t W) (h5 : ∀ k, W'.1 5 0 k = W.1 5 0 k) (h2 : ∀ d, W'.1 2 d 4 = W.1 2 d 4) (h3 : ∀ c, W'.1 3 c 3 = W.1 3 c 3) (hB : W'.2 = W.2) : mI π n t W' := by
  refine ⟨?_, fun d hd => ?_, ?_, fun c hc => ?_, ?_⟩
  · unfold mIc; simp only [h5]; exact h.ck
  · rw [h2]; exact h.dm d hd
  · rw [hB]; exact h.io
  · rw [h3]; exact h.ch c hc
  · rw [hB]; exact h.ms
theorem mI.A (h : mI π n t W) {j i k : Nat} {v : Int32} (h5 : j ≠ 5) (h2 : ¬ (j = 2 ∧ k = 4)) (h3 : ¬ (j = 3 ∧ k = 3)) : mI π n t (mA W j i k v) :=
  h.cg (fun _ => mA_n (by omega)) (fun _ => mA_n (by omega)) (fun _ => mA_n (by omega)) rfl
theorem mI.Ar (h : mI π n t W) {j i : Nat} {f : Nat → Int32} (hj : j = 0 ∨ j = 1 ∨ j = 4) : mI π n t (mAr W j i f) :=
  h.cg (fun _ => mAr_n (by omega)) (fun _ => mAr_n (by omega)) (fun _ => mAr_n (by omega)) rfl
theorem mI.mono (h : mI π n t W) {n' : Nat} (hn : n ≤ n') : mI π n' t W :=
  ⟨h.ck, fun d hd => by obtain ⟨p, h1, h2⟩ := h.dm d hd; exact ⟨p, by omega, h2⟩, h.io, h.ch, h.ms⟩
theorem mI.pl (h : mI π n t W) {p : Nat} (hp : p ≤ 256 + n) : mI π n t (mA W 2 d 4 (nI p)) := by
  refine ⟨?_, fun x hx => ?_, h.io, fun c hc => ?_, h.ms⟩
  · unfold mIc
    simp only [mA_n (show ¬ ((5 : Nat) = 2 ∧ 0 = d ∧ 1 = 4) by omega), mA_n (show ¬ ((5 : Nat) = 2 ∧ 0 = d ∧ 2 = 4) by omega), mA_n (show ¬ ((5 : Nat) = 2 ∧ 0 = d ∧ 3 = 4) by omega), mA_n (show ¬ ((5 : Nat) = 2 ∧ 0 = d ∧ 4 = 4) by omega), mA_n (show ¬ ((5 : Nat) = 2 ∧ 0 = d ∧ 5 = 4) by omega), mA_n (show ¬ ((5 : Nat) = 2 ∧ 0 = d ∧ 6 = 4) by omega)]
    exact h.ck
  · by_cases e : x = d
    · subst e; exact ⟨p, hp, mA_s⟩
    · rw [mA_n (by omega)]; exact h.dm x hx
  · rw [mA_n (by omega)]; exact h.ch c hc
theorem mI.nx (h : mI π n t W) (hd : d < π.1) : mI π (n + 1) t (mnx W d) := by
  obtain ⟨p, h1, h2⟩ := h.dm d hd
  unfold mnx
  rw [h2, nI_1]
  exact (h.mono (Nat.le_succ n)).pl (by omega)
theorem mI.set (h : mI π n t W) (hd : d < π.1) {r : Nat} {v : Int32} : mI π (n + 1) t (mset W d r v) := (h.A (by omega) (by omega) (by omega)).nx hd
theorem mI.jp (h : mI π n t W) {p : Nat} (hp : p < 256) : mI π (n + 1) t (mA W 2 d 4 (nI p)) := (h.mono (Nat.le_succ n)).pl (by omega)
theorem mI.put (h : mI π n t W) {f : Nat} {l : List Int32} : mI π n t (mput W d f l) := h.Ar (by omega)
theorem mI.B0 (h : mI π n t W) {l : List Int32} (hl : l.length ≤ 8) : mI π n t (mB W 0 d l) := by
  refine ⟨h.ck, h.dm, fun x hx => ⟨?_, ?_⟩, h.ch, h.ms⟩
  · show (if (0 : Nat) = 0 ∧ x = d then l else W.2.1 0 x).length ≤ 8
    split
    · exact hl
    · exact (h.io x hx).1
  · show (if (1 : Nat) = 0 ∧ x = d then l else W.2.1 1 x).length ≤ 200
    rw [if_neg (by omega)]
    exact (h.io x hx).2
theorem mI.B1 (h : mI π n t W) {l : List Int32} (hl : l.length ≤ 200) : mI π n t (mB W 1 d l) := by
  refine ⟨h.ck, h.dm, fun x hx => ⟨?_, ?_⟩, h.ch, h.ms⟩
  · show (if (0 : Nat) = 1 ∧ x = d then l else W.2.1 0 x).length ≤ 8
    rw [if_neg (by omega)]
    exact (h.io x hx).1
  · show (if (1 : Nat) = 1 ∧ x = d then l else W.2.1 1 x).length ≤ 200
    split
    · exact hl
    · exact (h.io x hx).2
theorem mI.C (h : mI π n t W) {j c : Nat} {l : List (List Int32)} (hl : c < π.2.1 → j < 2 → (∀ m, m ∈ l → 1 ≤ m.length ∧ m.length ≤ 4) ∧ (plk π c 2 = 1 → l = [])) : mI π n t (mC W j c l) := by
  refine ⟨h.ck, h.dm, h.io, h.ch, fun c' j' hc hj => ?_⟩
  show (∀ m, m ∈ (if j' = j ∧ c' = c then l else W.2.2 j' c') → _) ∧ (_ → (if j' = j ∧ c' = c then l else W.2.2 j' c') = [])
  by_cases q : j' = j ∧ c' = c
  · rw [if_pos q]
    obtain ⟨rfl, rfl⟩ := q
    exact hl hc hj
  · rw [if_neg q]
    exact h.ms c' j' hc hj
theorem mI.A33 (h : mI π n t W) {c k : Nat} (hk : k ≤ psz π c) : mI π n t (mA W 3 c 3 (nI k)) := by
  refine ⟨?_, fun x hx => ?_, h.io, fun c' hc => ?_, h.ms⟩
  · unfold mIc
    simp only [mA_n (show ¬ ((5 : Nat) = 3 ∧ 0 = c ∧ 1 = 3) by omega), mA_n (show ¬ ((5 : Nat) = 3 ∧ 0 = c ∧ 2 = 3) by omega), mA_n (show ¬ ((5 : Nat) = 3 ∧ 0 = c ∧ 3 = 3) by omega), mA_n (show ¬ ((5 : Nat) = 3 ∧ 0 = c ∧ 4 = 3) by omega), mA_n (show ¬ ((5 : Nat) = 3 ∧ 0 = c ∧ 5 = 3) by omega), mA_n (show ¬ ((5 : Nat) = 3 ∧ 0 = c ∧ 6 = 3) by omega)]
    exact h.ck
  · rw [mA_n (by omega)]; exact h.dm x hx
  · by_cases e : c' = c
    · subst e; exact ⟨k, hk, mA_s⟩
    · rw [mA_n (by omega)]; exact h.ch c' hc
theorem mI.A56 (h : mI π n t W) {v : Int32} (hv : v = 0 ∨ v = 1) : mI π n t (mA W 5 0 6 v) := by
  refine ⟨⟨?_, ?_, ?_, ?_⟩, fun x hx => ?_, h.io, fun c' hc => ?_, h.ms⟩
  · rw [mA_n (by omega)]; exact h.ck.1
  · obtain ⟨a, b, l, q⟩ := h.ck.2.1
    refine ⟨a, b, l, ?_⟩
    rw [mA_n (by omega), mA_n (by omega), mA_n (by omega)]
    exact q
  · rw [mA_n (by omega)]; exact h.ck.2.2.1
  · rw [mA_s]; exact hv
  · rw [mA_n (by omega)]; exact h.dm x hx
  · rw [mA_n (by omega)]; exact h.ch c' hc
theorem mI.A55 (h : mI π n t W) {a : Nat} (hv : a < 3) : mI π n t (mA W 5 0 5 (nI a)) := by
  refine ⟨⟨?_, ?_, ?_, ?_⟩, fun x hx => ?_, h.io, fun c' hc => ?_, h.ms⟩
  · rw [mA_n (by omega)]; exact h.ck.1
  · obtain ⟨a, b, l, q⟩ := h.ck.2.1
    refine ⟨a, b, l, ?_⟩
    rw [mA_n (by omega), mA_n (by omega), mA_n (by omega)]
    exact q
  · exact ⟨a, hv, mA_s⟩
  · rw [mA_n (by omega)]; exact h.ck.2.2.2
  · rw [mA_n (by omega)]; exact h.dm x hx
  · rw [mA_n (by omega)]; exact h.ch c' hc
theorem xb_lt (x : Int32) : xb x < 256 := Nat.mod_lt _ (by omega)
theorem xa_lt (x : Int32) : xa x < 256 := Nat.mod_lt _ (by omega)
theorem xop_lt (x : Int32) : xop x < 256 := Nat.mod_lt _ (by omega)
theorem xc_lt (x : Int32) : xc x < 256 := by
  have := x.toBitVec.isLt
  unfold xc
  omega
/-- of an instruction that doesn't fail -/
def mIo (π : mP) (n t : Nat) (o : Option mW) : Prop := match o with
  | none => True
  | some W' => mI π n t W'
theorem mIo_if {c : Prop} [Decidable c] {a b : Option mW} (h1 : c → mIo π n t a) (h2 : ¬ c → mIo π n t b) : mIo π n t (if c then a else b) := by
  by_cases hc : c
  · rw [if_pos hc]; exact h1 hc
  · rw [if_neg hc]; exact h2 hc
theorem mrow_length {f k : Nat} : (mrow W d f k).length = k := by unfold mrow; rw [List.length_map, List.length_range]
theorem mchan_I (h : mI π n t W) (hQ : mQ π) (hd : d < π.1) (x y z : Int32) : mIo π (n + 1) t (mchan π W d x y z) := by
  unfold mchan
  refine mIo_if (fun _ => ?_) (fun _ => ?_)
  · refine mIo_if (fun hc => ?_) (fun _ => trivial)
    refine mIo_if (fun hz => ?_) (fun _ => trivial)
    refine mIo_if (fun _ => h.set hd) (fun hs => ?_)
    obtain ⟨k, k1, k2⟩ := h.ch _ hc.1
    obtain ⟨l1, l2, l3, l4⟩ := hQ.lk _ hc.1
    rw [k2, nI_1]
    have hk : k + 1 ≤ psz π (xa x) := by
      rw [k2, l3] at hs
      have : k ≠ psz π (xa x) := fun e => hs (by rw [e])
      omega
    refine mI.set ((h.A33 hk).C (fun hcc hj => ⟨fun m hm => ?_, fun hb => ?_⟩)) hd
    · rcases List.mem_append.mp hm with hm | hm
      · exact (h.ms _ 1 hcc hj).1 m hm
      · rw [List.mem_singleton.mp hm, mrow_length]
        have hz1 : ¬ z < 0 := fun q => hz.1 (Int32.lt_trans q (by decide))
        obtain ⟨j, hj1, rfl⟩ := nI_of hz1
        rw [nI_clamp hj1]
        have a1 : ¬ nI j < nI 1 := hz.1
        have a2 : ¬ nI 4 < nI j := hz.2.1
        rw [nI_ltI hj1 (by omega)] at a1
        rw [nI_ltI (by omega) hj1] at a2
        omega
    · rw [hc.2.1] at hb; exact absurd hb (by decide)
  refine mIo_if (fun _ => ?_) (fun _ => ?_)
  · refine mIo_if (fun hc => ?_) (fun _ => trivial)
    have hm := h.ms (xa x) 0 hc.1 (by omega)
    cases hV : W.2.2 0 (xa x) with
    | nil => exact h.set hd
    | cons m tl =>
      rw [hV] at hm
      refine mIo_if (fun _ => ?_) (fun _ => trivial)
      refine mI.set (h.put.C (fun hcc hj => ⟨fun m' hm' => hm.1 m' (List.mem_cons_of_mem _ hm'), fun hb => ?_⟩)) hd
      rw [hc.2.1] at hb; exact absurd hb (by decide)
  refine mIo_if (fun _ => ?_) (fun _ => ?_)
  · refine mIo_if (fun hc => ?_) (fun _ => trivial)
    exact mI.nx (((h.Ar (by omega)).A (by omega) (by omega) (by omega)).A (by omega) (by omega) (by omega)) hd
  refine mIo_if (fun _ => ?_) (fun _ => trivial)
  refine mIo_if (fun hc => ?_) (fun _ => trivial)
  exact h.put.set hd
theorem mop_I (h : mI π n t W) (hQ : mQ π) (hd : d < π.1) (x : Int32) : mIo π (n + 1) t (mop π W d x) := by
  unfold mop
  refine mIo_if (fun _ => (h.A (by omega) (by omega) (by omega)).mono (Nat.le_succ n)) (fun _ => ?_)
  refine mIo_if (fun _ => h.set hd) (fun _ => ?_)
  refine mIo_if (fun _ => h.set hd) (fun _ => ?_)
  refine mIo_if (fun _ => h.set hd) (fun _ => ?_)
  refine mIo_if (fun _ => h.set hd) (fun _ => ?_)
  refine mIo_if (fun _ => h.set hd) (fun _ => ?_)
  refine mIo_if (fun _ => h.set hd) (fun _ => ?_)
  refine mIo_if (fun _ => h.set hd) (fun _ => ?_)
  refine mIo_if (fun _ => h.set hd) (fun _ => ?_)
  refine mIo_if (fun _ => h.jp (xb_lt x)) (fun _ => ?_)
  refine mIo_if (fun _ => ?_) (fun _ => ?_)
  · show mI π (n + 1) t (if _ then _ else _)
    split
    · exact h.jp (xb_lt x)
    · exact h.nx hd
  refine mIo_if (fun _ => ?_) (fun _ => ?_)
  · show mI π (n + 1) t (if _ then _ else _)
    split
    · exact h.nx hd
    · exact h.jp (xb_lt x)
  refine mIo_if (fun _ => ?_) (fun _ => ?_)
  · exact mIo_if (fun _ => h.set hd) (fun _ => trivial)
  refine mIo_if (fun _ => ?_) (fun _ => ?_)
  · exact mIo_if (fun _ => mI.nx (h.A (by omega) (by omega) (by omega)) hd) (fun _ => trivial)
  refine mIo_if (fun _ => ?_) (fun _ => ?_)
  · refine mIo_if (fun _ => trivial) (fun hl => mI.nx (h.B1 ?_) hd)
    have := (h.io d hd).2
    rw [List.length_append, List.length_singleton]
    omega
  refine mIo_if (fun _ => ?_) (fun _ => ?_)
  · have := (h.io d hd).1
    cases hV : W.2.1 0 d with
    | nil => exact h.set hd
    | cons v tl =>
      rw [hV, List.length_cons] at this
      exact mI.set ((h.A (by omega) (by omega) (by omega)).B0 (by omega)) hd
  refine mIo_if (fun _ => h.set hd) (fun _ => ?_)
  refine mIo_if (fun _ => mI.nx (h.A56 (Or.inr rfl)) hd) (fun _ => ?_)
  refine mIo_if (fun _ => ?_) (fun _ => ?_)
  · exact mIo_if (fun _ => h.set hd) (fun _ => trivial)
  refine mIo_if (fun _ => ?_) (fun _ => ?_)
  · exact mIo_if (fun hc => mI.nx (h.A55 hc.1) hd) (fun _ => trivial)
  refine mIo_if (fun _ => h.set hd) (fun _ => ?_)
  exact mchan_I h hQ hd x _ _
theorem mfail_I (h : mI π n t W) (hd : d < π.1) : mI π (n + 1) t (mfail π W d) := by
  unfold mfail
  have h1 : mI π n t (mA W 2 d 6 (W.1 2 d 6 + 1)) := h.A (by omega) (by omega) (by omega)
  by_cases c1 : pwy π d = 1
  · simp only [if_pos c1]
    exact (((h1.jp (p := 0) (by omega))).Ar (by omega)).Ar (by omega)
  · by_cases c2 : pwy π d = 2
    · simp only [if_neg c1, if_pos c2]
      exact h1.nx hd
    · simp only [if_neg c1, if_neg c2]
      exact (h1.A (by omega) (by omega) (by omega)).mono (Nat.le_succ n)
theorem mstep_I (h : mI π n t W) (hQ : mQ π) (hd : d < π.1) : mI π (n + 1) t (mstep π W d) := by
  unfold mstep
  have h1 : mI π n t (mA W 2 d 7 (W.1 2 d 7 + 1)) := h.A (by omega) (by omega) (by omega)
  by_cases hc : (W.1 2 d 4).toNatClampNeg < (ppr π d).length
  · simp only [if_pos hc]
    have ho := mop_I h1 hQ hd (mins π W d)
    cases hw : mop π (mA W 2 d 7 (W.1 2 d 7 + 1)) d (mins π W d) with
    | none => exact mfail_I h1 hd
    | some W2 =>
      rw [hw] at ho
      exact ho
  · simp only [if_neg hc]
    exact mfail_I h1 hd
theorem mbeg_4 {i : Nat} : (mbeg π W d).1 3 i 4 = if i < π.2.1 ∧ plk π i 1 = nI d then W.1 3 i 4 + nI (W.2.2 0 i).length else W.1 3 i 4 := by
  unfold mbeg
  dsimp only
  rw [if_neg (fun z => absurd z.2.1 (by omega))]
  by_cases q : i < π.2.1 ∧ plk π i 1 = nI d
  · rw [if_pos q, if_pos ⟨rfl, rfl, q⟩]
  · rw [if_neg q, if_neg (fun z => q z.2.2), if_neg (fun z => absurd z.1 (by omega))]
theorem mbeg_6 : (mbeg π W d).1 5 0 6 = 0 := by
  unfold mbeg
  dsimp only
  rw [if_neg (fun z => absurd z.1 (by omega)), if_neg (fun z => absurd z.1 (by omega)), if_pos ⟨rfl, rfl, rfl⟩]
theorem mbeg_I (h : mI π n t W) (d : Nat) : mI π n t (mbeg π W d) := by
  refine ⟨⟨?_, ?_, ?_, ?_⟩, fun x hx => ?_, h.io, fun c hc => ?_, fun c j hc hj => ?_⟩
  · rw [mbeg_n (by omega) (by omega) (by omega)]; exact h.ck.1
  · obtain ⟨a, b, l, q⟩ := h.ck.2.1
    refine ⟨a, b, l, ?_⟩
    rw [mbeg_n (by omega) (by omega) (by omega), mbeg_n (by omega) (by omega) (by omega), mbeg_n (by omega) (by omega) (by omega)]
    exact q
  · rw [mbeg_n (by omega) (by omega) (by omega)]; exact h.ck.2.2.1
  · rw [mbeg_6]; exact Or.inl rfl
  · rw [mbeg_n (by omega) (by omega) (by omega)]; exact h.dm x hx
  · rw [mbeg_3]
    split
    · exact ⟨0, Nat.zero_le _, rfl⟩
    · exact h.ch c hc
  · unfold mbeg
    dsimp only
    split
    · by_cases j0 : j = 0
      · simp only [if_pos j0]
        exact h.ms c 1 hc (by omega)
      · simp only [if_neg j0, if_pos (show j = 1 by omega)]
        exact ⟨fun m hm => (by cases hm), fun _ => trivial⟩
    · exact h.ms c j hc hj
theorem mbg_I (h : mI π n t W) : mI π n t (mbg π W) := by
  unfold mbg
  split
  · exact mbeg_I h _
  · exact h
theorem mI.sl (h : mI π n t W) (hQ : mQ π) : (msl π W).1 < π.1 ∧ 1 ≤ (msl π W).2 ∧ (msl π W).2 ≤ 20 := by
  obtain ⟨a, b, l, h1, h2, h3, h4, h5, h6, h7⟩ := h.ck.2.1
  have hl := hQ.sl a h1
  unfold msl
  rw [h2, h4, nI_clamp (by omega), nI_clamp (by omega)]
  exact hl.2 b h3
theorem madv_I (h : mI π n t W) (hQ : mQ π) : mI π n (t + 1) (madv π W) := by
  obtain ⟨a, b, l, h1, h2, h3, h4, h5, h6, h7⟩ := h.ck.2.1
  obtain ⟨a5, g1, g2⟩ := h.ck.2.2.1
  have hl := hQ.sl a h1
  have hb := hl.2 b h3
  have rest : ∀ (W' : mW) , (∀ j i k, j ≠ 5 → W'.1 j i k = W.1 j i k) → W'.2 = W.2 → mIc π (t + 1) W' → mI π n (t + 1) W' := fun W' e1 e2 e3 => by
    refine ⟨e3, fun d hd => ?_, ?_, fun c hc => ?_, ?_⟩
    · rw [e1 _ _ _ (by omega)]; exact h.dm d hd
    · rw [e2]; exact h.io
    · rw [e1 _ _ _ (by omega)]; exact h.ch c hc
    · rw [e2]; exact h.ms
  unfold madv
  rw [h7, h4, h2, g2, h.ck.1, nI_clamp (by omega), nI_clamp (by omega), nI_clamp (by omega)]
  have hl1 : nI l - 1 = nI (l - 1) := by
    obtain ⟨m, rfl⟩ : ∃ m, l = m + 1 := ⟨l - 1, by omega⟩
    exact nI_pred m
  rw [hl1, nI_1, nI_1]
  have nn : ∀ {X : mW} {k k' : Nat} {v : Int32}, k' ≠ k → (mA X 5 0 k v).1 5 0 k' = X.1 5 0 k' := fun hk => mA_n (by omega)
  have n5 : ∀ {X : mW} {k j i k' : Nat} {v : Int32}, j ≠ 5 → (mA X 5 0 k v).1 j i k' = X.1 j i k' := fun hk => mA_n (by omega)
  by_cases c : nI (l - 1) ≤ 0
  · simp only [if_pos c]
    by_cases c2 : b + 1 < (psl π a).length
    · simp only [if_pos c2]
      have hb2 := hl.2 (b + 1) c2
      refine rest _ (fun j i k hj => by rw [n5 hj, n5 hj, n5 hj, n5 hj]) rfl ⟨?_, ⟨a, b + 1, ((psl π a).getD (b + 1) (0, 0)).2, h1, ?_, c2, ?_, hb2.2.1, Nat.le_refl _, ?_⟩, ⟨a5, g1, ?_⟩, ?_⟩
      · rw [nn (by omega), nn (by omega), nn (by omega), mA_s]
      · rw [nn (by omega), nn (by omega), nn (by omega), nn (by omega)]; exact h2
      · rw [nn (by omega), mA_s]
      · rw [mA_s]
        unfold msl
        rw [nn (by omega), nn (by omega), nn (by omega), mA_s, h2, nI_clamp (by omega), nI_clamp (by omega)]
      · rw [nn (by omega), nn (by omega), nn (by omega), nn (by omega)]; exact g2
      · rw [nn (by omega), nn (by omega), nn (by omega), nn (by omega)]; exact h.ck.2.2.2
    · simp only [if_neg c2]
      obtain ⟨a', q1, q2, q3⟩ : ∃ a', a' < 3 ∧ (if (psl π a5).length = 0 then (0 : Int32) else nI a5) = nI a' ∧ 0 < (psl π a').length := by
        by_cases z : (psl π a5).length = 0
        · rw [if_pos z]; exact ⟨0, by omega, rfl, hQ.s0⟩
        · rw [if_neg z]; exact ⟨a5, g1, rfl, by omega⟩
      rw [q2]
      have hb2 := (hQ.sl a' q1).2 0 q3
      refine rest _ (fun j i k hj => by rw [n5 hj, n5 hj, n5 hj, n5 hj, n5 hj, n5 hj]) rfl ⟨?_, ⟨a', 0, ((psl π a').getD 0 (0, 0)).2, q1, ?_, q3, ?_, hb2.2.1, Nat.le_refl _, ?_⟩, ⟨a5, g1, ?_⟩, ?_⟩
      · rw [nn (by omega), nn (by omega), nn (by omega), nn (by omega), nn (by omega), mA_s]
      · rw [nn (by omega), nn (by omega), mA_s]
      · rw [nn (by omega), mA_s]; rfl
      · rw [mA_s]
        unfold msl
        rw [nn (by omega), mA_s, mA_s, nI_clamp (by omega)]
        rfl
      · rw [nn (by omega), nn (by omega), nn (by omega), nn (by omega), nn (by omega), nn (by omega)]; exact g2
      · rw [nn (by omega), nn (by omega), nn (by omega), nn (by omega), nn (by omega), nn (by omega)]; exact h.ck.2.2.2
  · simp only [if_neg c]
    have hl2 : 1 ≤ l - 1 := by
      rcases Nat.eq_zero_or_pos (l - 1) with e | e
      · exact absurd (by rw [e]; decide) c
      · exact e
    refine rest _ (fun j i k hj => by rw [n5 hj, n5 hj]) rfl ⟨?_, ⟨a, b, l - 1, h1, ?_, h3, ?_, hl2, by omega, ?_⟩, ⟨a5, g1, ?_⟩, ?_⟩
    · rw [nn (by omega), mA_s]
    · rw [nn (by omega), nn (by omega)]; exact h2
    · rw [nn (by omega), nn (by omega)]; exact h4
    · rw [mA_s]
    · rw [nn (by omega), nn (by omega)]; exact g2
    · rw [nn (by omega), nn (by omega)]; exact h.ck.2.2.2
theorem mpass_I (h : mI π n t W) (hQ : mQ π) : mI π n (t + 1) (mpass π W false) := by
  unfold mpass
  exact madv_I ((mbg_I h).A (by omega) (by omega) (by omega)) hQ
theorem mpass_I1 (h : mI π n t W) (hQ : mQ π) : mI π (n + 1) (t + 1) (mpass π W true) := by
  unfold mpass
  exact madv_I ((mstep_I (mbg_I h) hQ (h.sl hQ).1).A (by omega) (by omega) (by omega)) hQ
theorem mid_I (hQ : mQ π) : ∀ (k t : Nat) (W : mW), mI π n t W → mI π n (t + k) (mid π k W)
  | 0, _, _, h => h
  | k + 1, t, W, h => by
    have := mid_I hQ k (t + 1) _ (mpass_I h hQ)
    rw [show t + (k + 1) = t + 1 + k by omega]
    exact this
theorem minp_I (h : mI π n t W) {v : Int32} (hl : (W.2.1 0 d).length < 8) : mI π n t (minp W d v) := h.B0 (by rw [List.length_append, List.length_singleton]; omega)
theorem mres_I (hQ : mQ π) : mI π 0 0 (mres π) := by
  have hb := (hQ.sl 0 (by omega)).2 0 hQ.s0
  refine ⟨⟨rfl, ⟨0, 0, ((psl π 0).getD 0 (0, 0)).2, by omega, rfl, hQ.s0, rfl, hb.2.1, Nat.le_refl _, rfl⟩, ⟨0, by omega, rfl⟩, Or.inl rfl⟩, fun d _ => ⟨0, by omega, rfl⟩, fun d _ => ⟨Nat.zero_le _, Nat.zero_le _⟩, fun c _ => ⟨0, Nat.zero_le _, rfl⟩, fun c j _ _ => ⟨fun m hm => (by cases hm), fun _ => rfl⟩⟩
end INV
