/-! NONINTERFERENCE in the model: actions that may not have come to a domain can be dropped -/
def mX (π : mP) (S : Nat → Bool) (x : Nat) : Prop := ∃ y, y < π.1 ∧ S y = true ∧ pfl π x y = true
def mPok (π : mP) : Prop := (∀ x, x < π.1 → pfl π x x = true) ∧ (∀ c, c < π.2.1 → ∃ f t, f < π.1 ∧ t < π.1 ∧ plk π c 0 = nI f ∧ plk π c 1 = nI t ∧ f ≠ t ∧ pfl π f t = true) ∧ π.1 ≤ 6 ∧ π.2.1 ≤ 12 ∧ 2 ≤ π.1
def mU (π : mP) (S : Nat → Bool) (W V : mW) : Prop :=
  (∀ k, 1 ≤ k → k ≤ 5 → W.1 5 0 k = V.1 5 0 k) ∧
  (∀ x, x < π.1 → mX π S x → (∀ k, W.1 0 x k = V.1 0 x k) ∧ (∀ k, W.1 1 x k = V.1 1 x k) ∧ (∀ k, 4 ≤ k → k ≤ 6 → W.1 2 x k = V.1 2 x k) ∧ W.2.1 0 x = V.2.1 0 x ∧ W.2.1 1 x = V.2.1 1 x ∧ ∀ c, c < π.2.1 → plk π c 0 = nI x → W.1 3 c 3 = V.1 3 c 3) ∧
  (∀ x, x < π.1 → S x = true → ∀ c, c < π.2.1 → plk π c 1 = nI x → W.2.2 0 c = V.2.2 0 c ∧ W.2.2 1 c = V.2.2 1 c ∧ (∀ k, W.1 4 c k = V.1 4 c k) ∧ W.1 3 c 6 = V.1 3 c 6 ∧ W.1 3 c 7 = V.1 3 c 7)
theorem mA_n {W : mW} {j i k j' i' k' : Nat} {v : Int32} (h : ¬ (j' = j ∧ i' = i ∧ k' = k)) : (mA W j i k v).1 j' i' k' = W.1 j' i' k' := if_neg h
theorem mA_s {W : mW} {j i k : Nat} {v : Int32} : (mA W j i k v).1 j i k = v := if_pos ⟨rfl, rfl, rfl⟩
section NI
variable {π : mP} {S : Nat → Bool} {W V : mW}
theorem mU.mono {S' : Nat → Bool} (h : mU π S W V) (hs : ∀ x, S' x = true → S x = true) : mU π S' W V :=
  ⟨h.1, fun x hx ⟨y, h1, h2, h3⟩ => h.2.1 x hx ⟨y, h1, hs y h2, h3⟩, fun x hx hS => h.2.2 x hx (hs x hS)⟩
theorem mU.A (h : mU π S W V) (j i k : Nat) (v : Int32) : mU π S (mA W j i k v) (mA V j i k v) := by
  have e : ∀ j' i' k', W.1 j' i' k' = V.1 j' i' k' → (mA W j i k v).1 j' i' k' = (mA V j i k v).1 j' i' k' := fun j' i' k' q => by
    show (if _ then _ else _) = (if _ then _ else _)
    rw [q]
  exact ⟨fun k' h1 h2 => e _ _ _ (h.1 k' h1 h2), fun x hx hX => ⟨fun k' => e _ _ _ ((h.2.1 x hx hX).1 k'), fun k' => e _ _ _ ((h.2.1 x hx hX).2.1 k'), fun k' h1 h2 => e _ _ _ ((h.2.1 x hx hX).2.2.1 k' h1 h2), (h.2.1 x hx hX).2.2.2.1, (h.2.1 x hx hX).2.2.2.2.1, fun c hc hf => e _ _ _ ((h.2.1 x hx hX).2.2.2.2.2 c hc hf)⟩,
    fun x hx hS c hc ht => ⟨(h.2.2 x hx hS c hc ht).1, (h.2.2 x hx hS c hc ht).2.1, fun k' => e _ _ _ ((h.2.2 x hx hS c hc ht).2.2.1 k'), e _ _ _ (h.2.2 x hx hS c hc ht).2.2.2.1, e _ _ _ (h.2.2 x hx hS c hc ht).2.2.2.2⟩⟩
theorem mU.Ar (h : mU π S W V) (j i : Nat) (f : Nat → Int32) : mU π S (mAr W j i f) (mAr V j i f) := by
  have e : ∀ j' i' k', W.1 j' i' k' = V.1 j' i' k' → (mAr W j i f).1 j' i' k' = (mAr V j i f).1 j' i' k' := fun j' i' k' q => by
    show (if _ then _ else _) = (if _ then _ else _)
    rw [q]
  exact ⟨fun k' h1 h2 => e _ _ _ (h.1 k' h1 h2), fun x hx hX => ⟨fun k' => e _ _ _ ((h.2.1 x hx hX).1 k'), fun k' => e _ _ _ ((h.2.1 x hx hX).2.1 k'), fun k' h1 h2 => e _ _ _ ((h.2.1 x hx hX).2.2.1 k' h1 h2), (h.2.1 x hx hX).2.2.2.1, (h.2.1 x hx hX).2.2.2.2.1, fun c hc hf => e _ _ _ ((h.2.1 x hx hX).2.2.2.2.2 c hc hf)⟩,
    fun x hx hS c hc ht => ⟨(h.2.2 x hx hS c hc ht).1, (h.2.2 x hx hS c hc ht).2.1, fun k' => e _ _ _ ((h.2.2 x hx hS c hc ht).2.2.1 k'), e _ _ _ (h.2.2 x hx hS c hc ht).2.2.2.1, e _ _ _ (h.2.2 x hx hS c hc ht).2.2.2.2⟩⟩
theorem mU.B (h : mU π S W V) (j i : Nat) (l : List Int32) : mU π S (mB W j i l) (mB V j i l) := by
  have e : ∀ j' i', W.2.1 j' i' = V.2.1 j' i' → (mB W j i l).2.1 j' i' = (mB V j i l).2.1 j' i' := fun j' i' q => by
    show (if _ then _ else _) = (if _ then _ else _)
    rw [q]
  exact ⟨h.1, fun x hx hX => ⟨(h.2.1 x hx hX).1, (h.2.1 x hx hX).2.1, (h.2.1 x hx hX).2.2.1, e _ _ (h.2.1 x hx hX).2.2.2.1, e _ _ (h.2.1 x hx hX).2.2.2.2.1, (h.2.1 x hx hX).2.2.2.2.2⟩, h.2.2⟩
/-- a channel's rows: alike where its receiver is a source -/
theorem mU.C (h : mU π S W V) (j c : Nat) {l l' : List (List Int32)} (hl : ∀ x, x < π.1 → S x = true → plk π c 1 = nI x → c < π.2.1 → l = l') : mU π S (mC W j c l) (mC V j c l') := by
  refine ⟨h.1, h.2.1, fun x hx hS c' hc' ht => ⟨?_, ?_, (h.2.2 x hx hS c' hc' ht).2.2⟩⟩
  · show (if _ then _ else _) = (if _ then _ else _)
    by_cases q : 0 = j ∧ c' = c
    · rw [if_pos q, if_pos q]
      obtain ⟨-, rfl⟩ := q
      exact hl x hx hS ht hc'
    · rw [if_neg q, if_neg q]
      exact (h.2.2 x hx hS c' hc' ht).1
  · show (if _ then _ else _) = (if _ then _ else _)
    by_cases q : 1 = j ∧ c' = c
    · rw [if_pos q, if_pos q]
      obtain ⟨-, rfl⟩ := q
      exact hl x hx hS ht hc'
    · rw [if_neg q, if_neg q]
      exact (h.2.2 x hx hS c' hc' ht).2.1
/-- a channel's number 6 or 7 -/
theorem mU.A3 (h : mU π S W V) (c k : Nat) (hk : k = 6 ∨ k = 7) {v v' : Int32} (hl : ∀ x, x < π.1 → S x = true → plk π c 1 = nI x → c < π.2.1 → v = v') : mU π S (mA W 3 c k v) (mA V 3 c k v') := by
  have e : ∀ j' i' k', ¬ (j' = 3 ∧ i' = c ∧ k' = k) → W.1 j' i' k' = V.1 j' i' k' → (mA W 3 c k v).1 j' i' k' = (mA V 3 c k v').1 j' i' k' := fun j' i' k' n q => by
    show (if _ then _ else _) = (if _ then _ else _)
    rw [if_neg n, if_neg n, q]
  refine ⟨fun k' h1 h2 => e _ _ _ (by omega) (h.1 k' h1 h2), fun x hx hX => ⟨fun k' => e _ _ _ (by omega) ((h.2.1 x hx hX).1 k'), fun k' => e _ _ _ (by omega) ((h.2.1 x hx hX).2.1 k'), fun k' h1 h2 => e _ _ _ (by omega) ((h.2.1 x hx hX).2.2.1 k' h1 h2), (h.2.1 x hx hX).2.2.2.1, (h.2.1 x hx hX).2.2.2.2.1, fun c' hc hf => e _ _ _ (by omega) ((h.2.1 x hx hX).2.2.2.2.2 c' hc hf)⟩,
    fun x hx hS c' hc ht => ⟨(h.2.2 x hx hS c' hc ht).1, (h.2.2 x hx hS c' hc ht).2.1, fun k' => e _ _ _ (by omega) ((h.2.2 x hx hS c' hc ht).2.2.1 k'), ?_, ?_⟩⟩
  · by_cases q : (3 : Nat) = 3 ∧ c' = c ∧ 6 = k
    · show (if _ then _ else _) = (if _ then _ else _)
      rw [if_pos q, if_pos q]
      exact hl x hx hS (by rw [← q.2.1]; exact ht) (by rw [← q.2.1]; exact hc)
    · exact e _ _ _ q (h.2.2 x hx hS c' hc ht).2.2.2.1
  · by_cases q : (3 : Nat) = 3 ∧ c' = c ∧ 7 = k
    · show (if _ then _ else _) = (if _ then _ else _)
      rw [if_pos q, if_pos q]
      exact hl x hx hS (by rw [← q.2.1]; exact ht) (by rw [← q.2.1]; exact hc)
    · exact e _ _ _ q (h.2.2 x hx hS c' hc ht).2.2.2.2
theorem mU.Ar4 (h : mU π S W V) (c : Nat) {f f' : Nat → Int32} (hl : ∀ x, x < π.1 → S x = true → plk π c 1 = nI x → c < π.2.1 → ∀ k, f k = f' k) : mU π S (mAr W 4 c f) (mAr V 4 c f') := by
  have e : ∀ j' i' k', ¬ (j' = 4 ∧ i' = c) → W.1 j' i' k' = V.1 j' i' k' → (mAr W 4 c f).1 j' i' k' = (mAr V 4 c f').1 j' i' k' := fun j' i' k' n q => by
    show (if _ then _ else _) = (if _ then _ else _)
    rw [if_neg n, if_neg n, q]
  refine ⟨fun k' h1 h2 => e _ _ _ (by omega) (h.1 k' h1 h2), fun x hx hX => ⟨fun k' => e _ _ _ (by omega) ((h.2.1 x hx hX).1 k'), fun k' => e _ _ _ (by omega) ((h.2.1 x hx hX).2.1 k'), fun k' h1 h2 => e _ _ _ (by omega) ((h.2.1 x hx hX).2.2.1 k' h1 h2), (h.2.1 x hx hX).2.2.2.1, (h.2.1 x hx hX).2.2.2.2.1, fun c' hc hf => e _ _ _ (by omega) ((h.2.1 x hx hX).2.2.2.2.2 c' hc hf)⟩,
    fun x hx hS c' hc ht => ⟨(h.2.2 x hx hS c' hc ht).1, (h.2.2 x hx hS c' hc ht).2.1, fun k' => ?_, e _ _ _ (by omega) (h.2.2 x hx hS c' hc ht).2.2.2.1, e _ _ _ (by omega) (h.2.2 x hx hS c' hc ht).2.2.2.2⟩⟩
  by_cases q : (4 : Nat) = 4 ∧ c' = c
  · show (if _ then _ else _) = (if _ then _ else _)
    rw [if_pos q, if_pos q]
    exact hl x hx hS (by rw [← q.2]; exact ht) (by rw [← q.2]; exact hc) k'
  · exact e _ _ _ q ((h.2.2 x hx hS c' hc ht).2.2.1 k')
theorem mU.nx (h : mU π S W V) {d : Nat} (hp : W.1 2 d 4 = V.1 2 d 4) : mU π S (mnx W d) (mnx V d) := by
  unfold mnx
  rw [hp]
  exact h.A _ _ _ _
theorem mU.set (h : mU π S W V) {d r : Nat} {v : Int32} (hp : W.1 2 d 4 = V.1 2 d 4) : mU π S (mset W d r v) (mset V d r v) := by
  refine (h.A 0 d r v).nx ?_
  rw [mA_n (by omega), mA_n (by omega)]
  exact hp
/-- both fail, or both go on alike -/
def mUo (π : mP) (S : Nat → Bool) (o o' : Option mW) : Prop := match o, o' with
  | none, none => True
  | some W, some V => mU π S W V
  | _, _ => False
theorem mUo_if {c : Prop} [Decidable c] {a b a' b' : Option mW} (h1 : c → mUo π S a a') (h2 : ¬ c → mUo π S b b') : mUo π S (if c then a else b) (if c then a' else b') := by
  by_cases hc : c
  · rw [if_pos hc, if_pos hc]; exact h1 hc
  · rw [if_neg hc, if_neg hc]; exact h2 hc
theorem nI_inj {a b : Nat} (ha : a < 2 ^ 31) (hb : b < 2 ^ 31) (h : nI a = nI b) : a = b := (nI_eq ha hb).mp h
theorem mchan_U (h : mU π S W V) {d : Nat} (hk : mPok π) (hd : d < π.1) (hS : S d = true) (x y z : Int32) : mUo π S (mchan π W d x y z) (mchan π V d x y z) := by
  have hX : mX π S d := ⟨d, hd, hS, hk.1 d hd⟩
  obtain ⟨hR, hCe, hSc, hI, hO, hSe⟩ := h.2.1 d hd hX
  have hp : W.1 2 d 4 = V.1 2 d 4 := hSc 4 (by omega) (by omega)
  have ht : W.1 5 0 1 = V.1 5 0 1 := h.1 1 (by omega) (by omega)
  have hrow : ∀ f n, mrow W d f n = mrow V d f n := fun f n => by unfold mrow; simp only [hCe]
  have hput : ∀ f l, mU π S (mput W d f l) (mput V d f l) := fun f l => by
    unfold mput
    simp only [hCe]
    exact h.Ar _ _ _
  unfold mchan
  refine mUo_if (fun _ => ?_) (fun _ => ?_)
  · refine mUo_if (fun hc => ?_) (fun _ => trivial)
    refine mUo_if (fun _ => ?_) (fun _ => trivial)
    rw [hSe _ hc.1 hc.2.2]
    refine mUo_if (fun _ => h.set hp) (fun _ => ?_)
    refine mU.set ((h.A 3 (xa x) 3 _).C 1 (xa x) (fun u hu hSu htu hcu => ?_)) hp
    rw [(h.2.2 u hu hSu _ hcu htu).2.1, hrow]
  refine mUo_if (fun _ => ?_) (fun _ => ?_)
  · refine mUo_if (fun hc => ?_) (fun _ => trivial)
    rw [(h.2.2 d hd hS _ hc.1 hc.2.2).1]
    cases hV : V.2.2 0 (xa x) with
    | nil => exact h.set hp
    | cons m t =>
      refine mUo_if (fun _ => ?_) (fun _ => trivial)
      refine mU.set ((hput _ _).C 0 (xa x) (fun _ _ _ _ _ => rfl)) hp
  refine mUo_if (fun _ => ?_) (fun _ => ?_)
  · refine mUo_if (fun hc => ?_) (fun _ => trivial)
    refine mU.nx ?_ hp
    rw [ht]
    refine mU.A ?_ _ _ _ _
    refine (h.Ar4 (xa x) (fun u hu hSu htu hcu k => ?_)).A3 (xa x) 6 (Or.inl rfl) (fun u hu hSu htu hcu => ?_)
    · rw [hCe, (h.2.2 u hu hSu _ hcu htu).2.2.1]
    · rw [(h.2.2 u hu hSu _ hcu htu).2.2.2.1]
  refine mUo_if (fun _ => ?_) (fun _ => trivial)
  refine mUo_if (fun hc => ?_) (fun _ => trivial)
  have hv := h.2.2 d hd hS _ hc.1.1 hc.1.2.2
  have hag : mage W (xa x) = mage V (xa x) := by
    unfold mage
    rw [hv.2.2.2.1, hv.2.2.2.2, ht]
  rw [hag]
  simp only [hv.2.2.1]
  exact (hput _ _).set hp
theorem mop_U (h : mU π S W V) {d : Nat} (hk : mPok π) (hd : d < π.1) (hS : S d = true) (x : Int32) : mUo π S (mop π W d x) (mop π V d x) := by
  have hX : mX π S d := ⟨d, hd, hS, hk.1 d hd⟩
  obtain ⟨hR, hCe, hSc, hI, hO, hSe⟩ := h.2.1 d hd hX
  have hp : W.1 2 d 4 = V.1 2 d 4 := hSc 4 (by omega) (by omega)
  have ht : W.1 5 0 1 = V.1 5 0 1 := h.1 1 (by omega) (by omega)
  have h4 : W.1 5 0 4 = V.1 5 0 4 := h.1 4 (by omega) (by omega)
  unfold mop
  simp only [hR]
  refine mUo_if (fun _ => h.A _ _ _ _) (fun _ => ?_)
  refine mUo_if (fun _ => h.set hp) (fun _ => ?_)
  refine mUo_if (fun _ => h.set hp) (fun _ => ?_)
  refine mUo_if (fun _ => h.set hp) (fun _ => ?_)
  refine mUo_if (fun _ => h.set hp) (fun _ => ?_)
  refine mUo_if (fun _ => h.set hp) (fun _ => ?_)
  refine mUo_if (fun _ => h.set hp) (fun _ => ?_)
  refine mUo_if (fun _ => h.set hp) (fun _ => ?_)
  refine mUo_if (fun _ => h.set hp) (fun _ => ?_)
  refine mUo_if (fun _ => h.A _ _ _ _) (fun _ => ?_)
  refine mUo_if (fun _ => ?_) (fun _ => ?_)
  · show mU π S (if _ then _ else _) (if _ then _ else _)
    split
    · exact h.A _ _ _ _
    · exact h.nx hp
  refine mUo_if (fun _ => ?_) (fun _ => ?_)
  · show mU π S (if _ then _ else _) (if _ then _ else _)
    split
    · exact h.nx hp
    · exact h.A _ _ _ _
  refine mUo_if (fun _ => ?_) (fun _ => ?_)
  · refine mUo_if (fun _ => ?_) (fun _ => trivial)
    rw [hCe]
    exact h.set hp
  refine mUo_if (fun _ => ?_) (fun _ => ?_)
  · refine mUo_if (fun _ => ?_) (fun _ => trivial)
    exact (h.A _ _ _ _).nx hp
  refine mUo_if (fun _ => ?_) (fun _ => ?_)
  · rw [hO]
    refine mUo_if (fun _ => trivial) (fun _ => ?_)
    exact (h.B _ _ _).nx hp
  refine mUo_if (fun _ => ?_) (fun _ => ?_)
  · rw [hI]
    cases hV : V.2.1 0 d with
    | nil => exact h.set hp
    | cons v t => exact ((h.A _ _ _ _).B _ _ _).set hp
  refine mUo_if (fun _ => ?_) (fun _ => ?_)
  · rw [ht]
    exact h.set hp
  refine mUo_if (fun _ => (h.A _ _ _ _).nx hp) (fun _ => ?_)
  refine mUo_if (fun _ => ?_) (fun _ => ?_)
  · refine mUo_if (fun hc => ?_) (fun _ => trivial)
    rw [(h.2.1 _ hc.1 ⟨d, hd, hS, hc.2.1⟩).2.1]
    exact h.set hp
  refine mUo_if (fun _ => ?_) (fun _ => ?_)
  · refine mUo_if (fun _ => ?_) (fun _ => trivial)
    exact (h.A _ _ _ _).nx hp
  refine mUo_if (fun _ => ?_) (fun _ => ?_)
  · rw [h4]
    exact h.set hp
  exact mchan_U h hk hd hS x _ _
theorem mfail_U (h : mU π S W V) {d : Nat} (hp : W.1 2 d 4 = V.1 2 d 4) (h6 : W.1 2 d 6 = V.1 2 d 6) : mU π S (mfail π W d) (mfail π V d) := by
  unfold mfail
  rw [h6]
  have h1 := h.A 2 d 6 (V.1 2 d 6 + 1)
  by_cases c1 : pwy π d = 1
  · simp only [if_pos c1]
    exact ((h1.A _ _ _ _).Ar _ _ _).Ar _ _ _
  · by_cases c2 : pwy π d = 2
    · simp only [if_neg c1, if_pos c2]
      exact h1.nx (by rw [mA_n (by omega), mA_n (by omega)]; exact hp)
    · simp only [if_neg c1, if_neg c2]
      exact h1.A _ _ _ _
theorem mstep_U (h : mU π S W V) {d : Nat} (hk : mPok π) (hd : d < π.1) (hS : S d = true) : mU π S (mstep π W d) (mstep π V d) := by
  have hX : mX π S d := ⟨d, hd, hS, hk.1 d hd⟩
  obtain ⟨hR, hCe, hSc, hI, hO, hSe⟩ := h.2.1 d hd hX
  have hp : W.1 2 d 4 = V.1 2 d 4 := hSc 4 (by omega) (by omega)
  have h6 : W.1 2 d 6 = V.1 2 d 6 := hSc 6 (by omega) (by omega)
  have key : ∀ v v' : Int32, mU π S (mA W 2 d 7 v) (mA V 2 d 7 v') := fun v v' => by
    have h1 := h.A 2 d 7 v
    refine ⟨h1.1, fun x hx hX => ⟨(h1.2.1 x hx hX).1, (h1.2.1 x hx hX).2.1, fun k g1 g2 => ?_, (h1.2.1 x hx hX).2.2.2⟩, h1.2.2⟩
    show (if _ then _ else _) = (if _ then _ else _)
    rw [if_neg (by omega), if_neg (by omega)]
    exact (h.2.1 x hx hX).2.2.1 k g1 g2
  have h1 := key (W.1 2 d 7 + 1) (V.1 2 d 7 + 1)
  have hp1 : (mA W 2 d 7 (W.1 2 d 7 + 1)).1 2 d 4 = (mA V 2 d 7 (V.1 2 d 7 + 1)).1 2 d 4 := by rw [mA_n (by omega), mA_n (by omega)]; exact hp
  have h61 : (mA W 2 d 7 (W.1 2 d 7 + 1)).1 2 d 6 = (mA V 2 d 7 (V.1 2 d 7 + 1)).1 2 d 6 := by rw [mA_n (by omega), mA_n (by omega)]; exact h6
  unfold mstep mins
  rw [hp]
  by_cases hc : (V.1 2 d 4).toNatClampNeg < (ppr π d).length
  · simp only [if_pos hc]
    have ho := mop_U h1 hk hd hS ((ppr π d).getD (V.1 2 d 4).toNatClampNeg 0)
    cases hw : mop π (mA W 2 d 7 (W.1 2 d 7 + 1)) d ((ppr π d).getD (V.1 2 d 4).toNatClampNeg 0) with
    | none =>
      cases hv : mop π (mA V 2 d 7 (V.1 2 d 7 + 1)) d ((ppr π d).getD (V.1 2 d 4).toNatClampNeg 0) with
      | none => exact mfail_U h1 hp1 h61
      | some V' => rw [hw, hv] at ho; exact ho.elim
    | some W' =>
      cases hv : mop π (mA V 2 d 7 (V.1 2 d 7 + 1)) d ((ppr π d).getD (V.1 2 d 4).toNatClampNeg 0) with
      | none => rw [hw, hv] at ho; exact ho.elim
      | some V' => rw [hw, hv] at ho; exact ho
  · simp only [if_neg hc]
    exact mfail_U h1 hp1 h61
end NI
