/-! NONINTERFERENCE, second part: what a step of d touches; ticks; replays -/
def mFt (π : mP) (d : Nat) (W W' : mW) : Prop := (∀ k, 1 ≤ k → k ≤ 4 → W'.1 5 0 k = W.1 5 0 k) ∧ (¬ mrg π d → W'.1 5 0 5 = W.1 5 0 5) ∧ (∀ x, x ≠ d → (∀ j k, j ≤ 2 → W'.1 j x k = W.1 j x k) ∧ ∀ j, W'.2.1 j x = W.2.1 j x) ∧ (∀ c, ¬ plk π c 0 = nI d → (∀ k, W'.1 3 c k = W.1 3 c k) ∧ (∀ k, W'.1 4 c k = W.1 4 c k) ∧ W'.2.2 1 c = W.2.2 1 c) ∧ ∀ c, ¬ plk π c 1 = nI d → W'.2.2 0 c = W.2.2 0 c
section NI2
variable {π : mP} {S : Nat → Bool} {W V W' : mW} {d : Nat}
theorem mFt.rf : mFt π d W W := ⟨fun _ _ _ => rfl, fun _ => rfl, fun _ _ => ⟨fun _ _ _ => rfl, fun _ => rfl⟩, fun _ _ => ⟨fun _ => rfl, fun _ => rfl, rfl⟩, fun _ _ => rfl⟩
theorem mFt.tr {W2 : mW} (a : mFt π d W W') (b : mFt π d W' W2) : mFt π d W W2 :=
  ⟨fun k h1 h2 => (b.1 k h1 h2).trans (a.1 k h1 h2), fun h => (b.2.1 h).trans (a.2.1 h), fun x hx => ⟨fun j k hj => ((b.2.2.1 x hx).1 j k hj).trans ((a.2.2.1 x hx).1 j k hj), fun j => ((b.2.2.1 x hx).2 j).trans ((a.2.2.1 x hx).2 j)⟩,
   fun c hc => ⟨fun k => ((b.2.2.2.1 c hc).1 k).trans ((a.2.2.2.1 c hc).1 k), fun k => ((b.2.2.2.1 c hc).2.1 k).trans ((a.2.2.2.1 c hc).2.1 k), ((b.2.2.2.1 c hc).2.2).trans ((a.2.2.2.1 c hc).2.2)⟩, fun c hc => (b.2.2.2.2 c hc).trans (a.2.2.2.2 c hc)⟩
theorem mFt.A {j k : Nat} {v : Int32} (hj : j ≤ 2) : mFt π d W (mA W j d k v) :=
  ⟨fun _ _ _ => mA_n (by omega), fun _ => mA_n (by omega), fun x hx => ⟨fun _ _ _ => mA_n (fun q => hx q.2.1), fun _ => rfl⟩, fun _ _ => ⟨fun _ => mA_n (by omega), fun _ => mA_n (by omega), rfl⟩, fun _ _ => rfl⟩
theorem mFt.A3 {c k : Nat} {v : Int32} (hc : plk π c 0 = nI d) : mFt π d W (mA W 3 c k v) :=
  ⟨fun _ _ _ => mA_n (by omega), fun _ => mA_n (by omega), fun x hx => ⟨fun _ _ _ => mA_n (by omega), fun _ => rfl⟩, fun c' hc' => ⟨fun _ => mA_n (fun q => hc' (by rw [q.2.1]; exact hc)), fun _ => mA_n (by omega), rfl⟩, fun _ _ => rfl⟩
theorem mFt.A56 {v : Int32} : mFt π d W (mA W 5 0 6 v) :=
  ⟨fun _ _ _ => mA_n (by omega), fun _ => mA_n (by omega), fun x hx => ⟨fun _ _ _ => mA_n (by omega), fun _ => rfl⟩, fun c' hc' => ⟨fun _ => mA_n (by omega), fun _ => mA_n (by omega), rfl⟩, fun _ _ => rfl⟩
theorem mFt.A55 {v : Int32} (h : mrg π d) : mFt π d W (mA W 5 0 5 v) :=
  ⟨fun _ _ _ => mA_n (by omega), fun q => absurd h q, fun x hx => ⟨fun _ _ _ => mA_n (by omega), fun _ => rfl⟩, fun c' hc' => ⟨fun _ => mA_n (by omega), fun _ => mA_n (by omega), rfl⟩, fun _ _ => rfl⟩
theorem mAr_n {j i j' i' k' : Nat} {f : Nat → Int32} (h : ¬ (j' = j ∧ i' = i)) : (mAr W j i f).1 j' i' k' = W.1 j' i' k' := if_neg h
theorem mFt.Ar {j : Nat} {f : Nat → Int32} (hj : j ≤ 2) : mFt π d W (mAr W j d f) :=
  ⟨fun _ _ _ => mAr_n (by omega), fun _ => mAr_n (by omega), fun x hx => ⟨fun _ _ _ => mAr_n (fun q => hx q.2), fun _ => rfl⟩, fun _ _ => ⟨fun _ => mAr_n (by omega), fun _ => mAr_n (by omega), rfl⟩, fun _ _ => rfl⟩
theorem mFt.Ar4 {c : Nat} {f : Nat → Int32} (hc : plk π c 0 = nI d) : mFt π d W (mAr W 4 c f) :=
  ⟨fun _ _ _ => mAr_n (by omega), fun _ => mAr_n (by omega), fun x hx => ⟨fun _ _ _ => mAr_n (by omega), fun _ => rfl⟩, fun c' hc' => ⟨fun _ => mAr_n (by omega), fun _ => mAr_n (fun q => hc' (by rw [q.2]; exact hc)), rfl⟩, fun _ _ => rfl⟩
theorem mFt.B {j : Nat} {l : List Int32} : mFt π d W (mB W j d l) :=
  ⟨fun _ _ _ => rfl, fun _ => rfl, fun x hx => ⟨fun _ _ _ => rfl, fun _ => if_neg (fun q => hx q.2)⟩, fun _ _ => ⟨fun _ => rfl, fun _ => rfl, rfl⟩, fun _ _ => rfl⟩
theorem mC_n {j i j' i' : Nat} {l : List (List Int32)} (h : ¬ (j' = j ∧ i' = i)) : (mC W j i l).2.2 j' i' = W.2.2 j' i' := if_neg h
theorem mFt.C1 {c : Nat} {l : List (List Int32)} (hc : plk π c 0 = nI d) : mFt π d W (mC W 1 c l) :=
  ⟨fun _ _ _ => rfl, fun _ => rfl, fun x hx => ⟨fun _ _ _ => rfl, fun _ => rfl⟩, fun c' hc' => ⟨fun _ => rfl, fun _ => rfl, if_neg (fun q => hc' (by rw [q.2]; exact hc))⟩, fun _ _ => mC_n (by omega)⟩
theorem mFt.C0 {c : Nat} {l : List (List Int32)} (hc : plk π c 1 = nI d) : mFt π d W (mC W 0 c l) :=
  ⟨fun _ _ _ => rfl, fun _ => rfl, fun x hx => ⟨fun _ _ _ => rfl, fun _ => rfl⟩, fun c' hc' => ⟨fun _ => rfl, fun _ => rfl, mC_n (by omega)⟩, fun c' hc' => if_neg (fun q => hc' (by rw [q.2]; exact hc))⟩
theorem mFt.nx : mFt π d W (mnx W d) := mFt.A (by omega)
theorem mFt.set {r : Nat} {v : Int32} : mFt π d W (mset W d r v) := (mFt.A (by omega)).tr mFt.nx
/-- of an instruction that doesn't fail -/
def mFo (π : mP) (d : Nat) (W : mW) (o : Option mW) : Prop := match o with
  | none => True
  | some W' => mFt π d W W'
theorem mFo_if {c : Prop} [Decidable c] {a b : Option mW} (h1 : c → mFo π d W a) (h2 : ¬ c → mFo π d W b) : mFo π d W (if c then a else b) := by
  by_cases hc : c
  · rw [if_pos hc]; exact h1 hc
  · rw [if_neg hc]; exact h2 hc
theorem mchan_F (x y z : Int32) : mFo π d W (mchan π W d x y z) := by
  unfold mchan
  refine mFo_if (fun _ => ?_) (fun _ => ?_)
  · refine mFo_if (fun hc => ?_) (fun _ => trivial)
    refine mFo_if (fun _ => ?_) (fun _ => trivial)
    refine mFo_if (fun _ => mFt.set) (fun _ => ?_)
    exact ((mFt.A3 hc.2.2).tr (mFt.C1 hc.2.2)).tr mFt.set
  refine mFo_if (fun _ => ?_) (fun _ => ?_)
  · refine mFo_if (fun hc => ?_) (fun _ => trivial)
    cases hV : W.2.2 0 (xa x) with
    | nil => exact mFt.set
    | cons m t =>
      refine mFo_if (fun _ => ?_) (fun _ => trivial)
      exact ((mFt.Ar (by omega)).tr (mFt.C0 hc.2.2)).tr mFt.set
  refine mFo_if (fun _ => ?_) (fun _ => ?_)
  · refine mFo_if (fun hc => ?_) (fun _ => trivial)
    exact (((mFt.Ar4 hc.1.2.2).tr (mFt.A3 hc.1.2.2)).tr (mFt.A3 hc.1.2.2)).tr mFt.nx
  refine mFo_if (fun _ => ?_) (fun _ => trivial)
  refine mFo_if (fun hc => ?_) (fun _ => trivial)
  exact (mFt.Ar (by omega)).tr mFt.set
theorem mop_F (x : Int32) : mFo π d W (mop π W d x) := by
  unfold mop
  refine mFo_if (fun _ => mFt.A (by omega)) (fun _ => ?_)
  refine mFo_if (fun _ => mFt.set) (fun _ => ?_)
  refine mFo_if (fun _ => mFt.set) (fun _ => ?_)
  refine mFo_if (fun _ => mFt.set) (fun _ => ?_)
  refine mFo_if (fun _ => mFt.set) (fun _ => ?_)
  refine mFo_if (fun _ => mFt.set) (fun _ => ?_)
  refine mFo_if (fun _ => mFt.set) (fun _ => ?_)
  refine mFo_if (fun _ => mFt.set) (fun _ => ?_)
  refine mFo_if (fun _ => mFt.set) (fun _ => ?_)
  refine mFo_if (fun _ => mFt.A (by omega)) (fun _ => ?_)
  refine mFo_if (fun _ => ?_) (fun _ => ?_)
  · show mFt π d W (if _ then _ else _)
    split
    · exact mFt.A (by omega)
    · exact mFt.nx
  refine mFo_if (fun _ => ?_) (fun _ => ?_)
  · show mFt π d W (if _ then _ else _)
    split
    · exact mFt.nx
    · exact mFt.A (by omega)
  refine mFo_if (fun _ => ?_) (fun _ => ?_)
  · exact mFo_if (fun _ => mFt.set) (fun _ => trivial)
  refine mFo_if (fun _ => ?_) (fun _ => ?_)
  · exact mFo_if (fun _ => (mFt.A (by omega)).tr mFt.nx) (fun _ => trivial)
  refine mFo_if (fun _ => ?_) (fun _ => ?_)
  · exact mFo_if (fun _ => trivial) (fun _ => mFt.B.tr mFt.nx)
  refine mFo_if (fun _ => ?_) (fun _ => ?_)
  · cases hV : W.2.1 0 d with
    | nil => exact mFt.set
    | cons v t => exact ((mFt.A (by omega)).tr mFt.B).tr mFt.set
  refine mFo_if (fun _ => mFt.set) (fun _ => ?_)
  refine mFo_if (fun _ => mFt.A56.tr mFt.nx) (fun _ => ?_)
  refine mFo_if (fun _ => ?_) (fun _ => ?_)
  · exact mFo_if (fun _ => mFt.set) (fun _ => trivial)
  refine mFo_if (fun _ => ?_) (fun _ => ?_)
  · exact mFo_if (fun hc => (mFt.A55 hc.2).tr mFt.nx) (fun _ => trivial)
  refine mFo_if (fun _ => mFt.set) (fun _ => ?_)
  exact mchan_F x _ _
theorem mfail_F : mFt π d W (mfail π W d) := by
  unfold mfail
  by_cases c1 : pwy π d = 1
  · simp only [if_pos c1]
    exact (((mFt.A (by omega)).tr (mFt.A (by omega))).tr (mFt.Ar (by omega))).tr (mFt.Ar (by omega))
  · by_cases c2 : pwy π d = 2
    · simp only [if_neg c1, if_pos c2]
      exact (mFt.A (by omega)).tr mFt.nx
    · simp only [if_neg c1, if_neg c2]
      exact (mFt.A (by omega)).tr (mFt.A (by omega))
theorem mstep_F : mFt π d W (mstep π W d) := by
  unfold mstep
  have h1 : mFt π d W (mA W 2 d 7 (W.1 2 d 7 + 1)) := mFt.A (by omega)
  by_cases hc : (W.1 2 d 4).toNatClampNeg < (ppr π d).length
  · simp only [if_pos hc]
    have ho := mop_F (π := π) (d := d) (W := mA W 2 d 7 (W.1 2 d 7 + 1)) (mins π W d)
    cases hw : mop π (mA W 2 d 7 (W.1 2 d 7 + 1)) d (mins π W d) with
    | none => exact h1.tr mfail_F
    | some W2 =>
      rw [hw] at ho
      exact h1.tr ho
  · simp only [if_neg hc]
    exact h1.tr mfail_F
/-- a step that is dropped: nothing of it is seen -/
theorem mU.drop (h : mU π S W V) (hk : mPok π) (hd : d < π.1) (hX : ¬ mX π S d) (hS : ∃ y, y < π.1 ∧ S y = true) (hF : mFt π d W W') : mU π S W' V := by
  have hb : ∀ x, x < π.1 → x < 2 ^ 31 := fun x hx => by have := hk.2.2.1; omega
  have hne : ∀ x, x < π.1 → mX π S x → x ≠ d := fun x _ hx e => hX (e ▸ hx)
  refine ⟨fun k h1 h2 => ?_, fun x hx hXx => ?_, fun x hx hSx c hc ht => ?_⟩
  · by_cases hk5 : k = 5
    · subst hk5
      rw [hF.2.1 (fun hr => ?_)]
      · exact h.1 5 h1 h2
      · obtain ⟨y, hy, hSy⟩ := hS
        exact hX ⟨y, hy, hSy, hr y hy⟩
    · rw [hF.1 k h1 (by omega)]
      exact h.1 k h1 h2
  · have hn := hne x hx hXx
    obtain ⟨g1, g2⟩ := hF.2.2.1 x hn
    obtain ⟨a1, a2, a3, a4, a5, a6⟩ := h.2.1 x hx hXx
    refine ⟨fun k => (g1 0 k (by omega)).trans (a1 k), fun k => (g1 1 k (by omega)).trans (a2 k), fun k q1 q2 => (g1 2 k (by omega)).trans (a3 k q1 q2), (g2 0).trans a4, (g2 1).trans a5, fun c hc hf => ?_⟩
    rw [(hF.2.2.2.1 c (fun q => hn (nI_inj (hb x hx) (hb d hd) (hf.symm.trans q)))).1]
    exact a6 c hc hf
  · have hXx : mX π S x := ⟨x, hx, hSx, hk.1 x hx⟩
    have hn := hne x hx hXx
    obtain ⟨f, t, hf, ht', e1, e2, -, e4⟩ := hk.2.1 c hc
    have htx : t = x := nI_inj (hb t ht') (hb x hx) (e2.symm.trans ht)
    subst htx
    have hfd : ¬ plk π c 0 = nI d := fun q => by
      have : f = d := nI_inj (hb f hf) (hb d hd) (e1.symm.trans q)
      subst this
      exact hX ⟨t, hx, hSx, e4⟩
    obtain ⟨b1, b2, b3⟩ := hF.2.2.2.1 c hfd
    have b4 := hF.2.2.2.2 c (fun q => hn (nI_inj (hb t hx) (hb d hd) (ht.symm.trans q)))
    obtain ⟨a1, a2, a3, a4, a5⟩ := h.2.2 t hx hSx c hc ht
    exact ⟨b4.trans a1, b3.trans a2, fun k => (b2 k).trans (a3 k), (b1 6).trans a4, (b1 7).trans a5⟩
theorem mU.sl (h : mU π S W V) : msl π W = msl π V := by
  unfold msl
  rw [h.1 2 (by omega) (by omega), h.1 3 (by omega) (by omega)]
theorem mbeg_n {j i k : Nat} (h1 : ¬ (j = 3 ∧ k = 3)) (h2 : ¬ (j = 3 ∧ k = 4)) (h3 : ¬ (j = 5 ∧ k = 6)) : (mbeg π W d).1 j i k = W.1 j i k := by
  unfold mbeg
  dsimp only
  rw [if_neg (fun q => h1 ⟨q.1, q.2.1⟩), if_neg (fun q => h2 ⟨q.1, q.2.1⟩), if_neg (fun q => h3 ⟨q.1, q.2.2⟩)]
theorem mbeg_3 {i : Nat} : (mbeg π W d).1 3 i 3 = if i < π.2.1 ∧ plk π i 0 = nI d then 0 else W.1 3 i 3 := by
  unfold mbeg
  dsimp only
  by_cases q : i < π.2.1 ∧ plk π i 0 = nI d
  · rw [if_pos q, if_pos ⟨rfl, rfl, q⟩]
  · rw [if_neg q, if_neg (fun z => q z.2.2), if_neg (fun z => absurd z.2.1 (by omega)), if_neg (fun z => absurd z.1 (by omega))]
theorem mU.beg (h : mU π S W V) (d : Nat) : mU π S (mbeg π W d) (mbeg π V d) := by
  refine ⟨fun k h1 h2 => ?_, fun x hx hX => ?_, fun x hx hS c hc ht => ?_⟩
  · rw [mbeg_n (by omega) (by omega) (by omega), mbeg_n (by omega) (by omega) (by omega)]
    exact h.1 k h1 h2
  · obtain ⟨a1, a2, a3, a4, a5, a6⟩ := h.2.1 x hx hX
    refine ⟨fun k => ?_, fun k => ?_, fun k q1 q2 => ?_, a4, a5, fun c hc hf => ?_⟩
    · rw [mbeg_n (by omega) (by omega) (by omega), mbeg_n (by omega) (by omega) (by omega)]
      exact a1 k
    · rw [mbeg_n (by omega) (by omega) (by omega), mbeg_n (by omega) (by omega) (by omega)]
      exact a2 k
    · rw [mbeg_n (by omega) (by omega) (by omega), mbeg_n (by omega) (by omega) (by omega)]
      exact a3 k q1 q2
    · rw [mbeg_3, mbeg_3, a6 c hc hf]
  · obtain ⟨a1, a2, a3, a4, a5⟩ := h.2.2 x hx hS c hc ht
    refine ⟨?_, ?_, fun k => ?_, ?_, ?_⟩
    · unfold mbeg
      dsimp only
      by_cases q : c < π.2.1 ∧ plk π c 1 = nI d
      · rw [if_pos q, if_pos q]; exact a2
      · rw [if_neg q, if_neg q]; exact a1
    · unfold mbeg
      dsimp only
      by_cases q : c < π.2.1 ∧ plk π c 1 = nI d
      · rw [if_pos q, if_pos q]; rfl
      · rw [if_neg q, if_neg q]; exact a2
    · rw [mbeg_n (by omega) (by omega) (by omega), mbeg_n (by omega) (by omega) (by omega)]
      exact a3 k
    · rw [mbeg_n (by omega) (by omega) (by omega), mbeg_n (by omega) (by omega) (by omega)]
      exact a4
    · rw [mbeg_n (by omega) (by omega) (by omega), mbeg_n (by omega) (by omega) (by omega)]
      exact a5
theorem mU.bg (h : mU π S W V) : mU π S (mbg π W) (mbg π V) := by
  unfold mbg mbgn
  rw [h.sl, h.1 4 (by omega) (by omega)]
  split
  · exact h.beg _
  · exact h
theorem mU.t8 (h : mU π S W V) (d : Nat) (v v' : Int32) : mU π S (mA W 2 d 8 v) (mA V 2 d 8 v') := by
  have h1 := h.A 2 d 8 v
  refine ⟨h1.1, fun x hx hX => ⟨(h1.2.1 x hx hX).1, (h1.2.1 x hx hX).2.1, fun k g1 g2 => ?_, (h1.2.1 x hx hX).2.2.2⟩, h1.2.2⟩
  rw [mA_n (by omega), mA_n (by omega)]
  exact (h.2.1 x hx hX).2.2.1 k g1 g2
theorem mU.adv (h : mU π S W V) : mU π S (madv π W) (madv π V) := by
  have e1 := h.1 1 (by omega) (by omega)
  have e2 := h.1 2 (by omega) (by omega)
  have e3 := h.1 3 (by omega) (by omega)
  have e4 := h.1 4 (by omega) (by omega)
  have e5 := h.1 5 (by omega) (by omega)
  unfold madv
  rw [e1, e2, e3, e4, e5]
  have h1 := (h.A 5 0 1 (V.1 5 0 1 + 1)).A 5 0 4 (V.1 5 0 4 - 1)
  by_cases c : V.1 5 0 4 - 1 ≤ 0
  · simp only [if_pos c]
    have h2 := h1.A 5 0 3 (V.1 5 0 3 + 1)
    by_cases c2 : (V.1 5 0 3).toNatClampNeg + 1 < (psl π (V.1 5 0 2).toNatClampNeg).length
    · simp only [if_pos c2]
      rw [h2.sl]
      exact h2.A _ _ _ _
    · simp only [if_neg c2]
      have h3 := (h2.A 5 0 2 (if (psl π (V.1 5 0 5).toNatClampNeg).length = 0 then 0 else V.1 5 0 5)).A 5 0 3 0
      rw [h3.sl]
      exact h3.A _ _ _ _
  · simp only [if_neg c]
    exact h1
theorem mU.idle (h : mU π S W V) : mU π S (mpass π W false) (mpass π V false) := by
  unfold mpass
  rw [h.sl]
  exact (h.bg.t8 _ _ _).adv
theorem mU.both (h : mU π S W V) (hk : mPok π) (hd : (msl π V).1 < π.1) (hS : S (msl π V).1 = true) : mU π S (mpass π W true) (mpass π V true) := by
  unfold mpass
  rw [h.sl]
  exact ((mstep_U h.bg hk hd hS).t8 _ _ _).adv
theorem mU.one (h : mU π S W V) (hk : mPok π) (hd : (msl π V).1 < π.1) (hX : ¬ mX π S (msl π V).1) (hS : ∃ y, y < π.1 ∧ S y = true) : mU π S (mpass π W true) (mpass π V false) := by
  unfold mpass
  rw [h.sl]
  exact ((h.bg.drop hk hd hX hS mstep_F).t8 _ _ _).adv
theorem mU.inp (h : mU π S W V) (d : Nat) (v : Int32) (hd : d < π.1) (hX : mX π S d) : mU π S (minp W d v) (minp V d v) := by
  unfold minp
  rw [(h.2.1 d hd hX).2.2.2.1]
  exact h.B _ _ _
theorem mU.inp1 (h : mU π S W V) (hk : mPok π) (d : Nat) (v : Int32) (hd : d < π.1) (hX : ¬ mX π S d) (hS : ∃ y, y < π.1 ∧ S y = true) : mU π S (minp W d v) V := h.drop hk hd hX hS mFt.B
theorem mid_add (n m : Nat) (W : mW) : mid π (n + m) W = mid π m (mid π n W) := by
  induction n generalizing W with
  | zero => simp [mid]
  | succ n ih =>
    rw [show n + 1 + m = (n + m) + 1 by omega]
    exact ih _
theorem mid_1 (n : Nat) (W : mW) : mid π (n + 1) W = mpass π (mid π n W) false := mid_add n 1 W
theorem mU.mid (h : mU π S W V) (n : Nat) : mU π S (mid π n W) (mid π n V) := by
  induction n generalizing W V with
  | zero => exact h
  | succ n ih => exact ih h.idle
end NI2
