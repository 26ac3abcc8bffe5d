/-! REPLAYS: what holds along one; the actions kept for a domain; what is kept sees what it saw -/
def mokf (π : mP) : List (mAct × Bool) → Nat → mW → Prop
  | [], _, _ => True
  | (_, false) :: l, t, W => mokf π l t W
  | (a, true) :: l, t, W => t ≤ a.2.2.1 ∧ a.1 < π.1 ∧ (a.2.1 = true → ((mid π (a.2.2.1 - t) W).2.1 0 a.1).length < 8) ∧ (a.2.1 = false → (msl π (mid π (a.2.2.1 - t) W)).1 = a.1 ∧ (mid π (a.2.2.1 - t) W).1 2 a.1 5 = 0) ∧ mokf π l (if a.2.1 = true then a.2.2.1 else a.2.2.1 + 1) (if a.2.1 = true then minp (mid π (a.2.2.1 - t) W) a.1 a.2.2.2 else mpass π (mid π (a.2.2.1 - t) W) true)
def mend : List (mAct × Bool) → Nat → Nat
  | [], t => t
  | (_, false) :: l, t => mend l t
  | (a, true) :: l, _ => mend l (if a.2.1 = true then a.2.2.1 else a.2.2.1 + 1)
def mXb (π : mP) (S : Nat → Bool) (x : Nat) : Bool := (List.range π.1).any (fun y => S y && pfl π x y)
theorem mXb_iff {π : mP} {S : Nat → Bool} {x : Nat} : mXb π S x = true ↔ mX π S x := by
  unfold mXb mX
  rw [List.any_eq_true]
  constructor
  · rintro ⟨y, h1, h2⟩
    rw [Bool.and_eq_true] at h2
    exact ⟨y, List.mem_range.mp h1, h2.1, h2.2⟩
  · rintro ⟨y, h1, h2, h3⟩
    exact ⟨y, List.mem_range.mpr h1, by rw [h2, h3]; rfl⟩
/-- which actions are kept, from the last on, and the sources then -/
def mkp (π : mP) (S : Nat → Bool) : List mAct → List (mAct × Bool) × (Nat → Bool)
  | [] => ([], S)
  | a :: l => if mXb π (mkp π S l).2 a.1 = true then ((a, true) :: (mkp π S l).1, fun x => if x = a.1 then true else (mkp π S l).2 x) else ((a, false) :: (mkp π S l).1, (mkp π S l).2)
def mall (l : List mAct) : List (mAct × Bool) := l.map (fun a => (a, true))
section REP
variable {π : mP}
theorem mkp_S (S : Nat → Bool) : ∀ (l : List mAct) (x : Nat), S x = true → (mkp π S l).2 x = true
  | [], x, h => h
  | a :: l, x, h => by
    unfold mkp
    split
    · show (if x = a.1 then true else _) = true
      split
      · rfl
      · exact mkp_S S l x h
    · exact mkp_S S l x h
theorem mok_ni (hk : mPok π) (S : Nat → Bool) (hS : ∃ y, y < π.1 ∧ S y = true) : ∀ (l : List mAct) (t t' : Nat) (W V : mW), mokf π (mall l) t W → t' ≤ t → mU π (mkp π S l).2 W (mid π (t - t') V) → mokf π (mkp π S l).1 t' V
  | [], _, _, _, _, _, _, _ => trivial
  | a :: l, t, t', W, V, hok, ht, hU => by
    obtain ⟨o1, o2, o3, o4, o5⟩ : t ≤ a.2.2.1 ∧ a.1 < π.1 ∧ (a.2.1 = true → ((mid π (a.2.2.1 - t) W).2.1 0 a.1).length < 8) ∧ (a.2.1 = false → (msl π (mid π (a.2.2.1 - t) W)).1 = a.1 ∧ (mid π (a.2.2.1 - t) W).1 2 a.1 5 = 0) ∧ mokf π (mall l) (if a.2.1 = true then a.2.2.1 else a.2.2.1 + 1) (if a.2.1 = true then minp (mid π (a.2.2.1 - t) W) a.1 a.2.2.2 else mpass π (mid π (a.2.2.1 - t) W) true) := hok
    have hS' : ∃ y, y < π.1 ∧ (mkp π S l).2 y = true := by
      obtain ⟨y, h1, h2⟩ := hS
      exact ⟨y, h1, mkp_S S l y h2⟩
    have hV : mid π (a.2.2.1 - t) (mid π (t - t') V) = mid π (a.2.2.1 - t') V := by
      rw [← mid_add]
      congr 1
      omega
    by_cases hX : mX π (mkp π S l).2 a.1
    · have e1 : (mkp π S (a :: l)).1 = (a, true) :: (mkp π S l).1 := by
        show (if _ then _ else _ : List (mAct × Bool) × (Nat → Bool)).1 = _
        rw [if_pos (mXb_iff.mpr hX)]
      have e2 : (mkp π S (a :: l)).2 = fun x => if x = a.1 then true else (mkp π S l).2 x := by
        show (if _ then _ else _ : List (mAct × Bool) × (Nat → Bool)).2 = _
        rw [if_pos (mXb_iff.mpr hX)]
      rw [e2] at hU
      rw [e1]
      have hU1 := hU.mid (a.2.2.1 - t)
      rw [hV] at hU1
      have hSa : (fun x => if x = a.1 then true else (mkp π S l).2 x) a.1 = true := if_pos rfl
      have hXa : mX π (fun x => if x = a.1 then true else (mkp π S l).2 x) a.1 := ⟨a.1, o2, hSa, hk.1 a.1 o2⟩
      have hm : ∀ {W V : mW}, mU π (fun x => if x = a.1 then true else (mkp π S l).2 x) W V → mU π (mkp π S l).2 W V := fun q => q.mono (fun x hx => by
        show (if x = a.1 then true else (mkp π S l).2 x) = true
        split
        · rfl
        · exact hx)
      refine ⟨by omega, o2, fun hi => ?_, fun hi => ⟨?_, ?_⟩, ?_⟩
      · rw [← (hU1.2.1 a.1 o2 hXa).2.2.2.1]
        exact o3 hi
      · rw [← hU1.sl]
        exact (o4 hi).1
      · rw [← (hU1.2.1 a.1 o2 hXa).2.2.1 5 (by omega) (by omega)]
        exact (o4 hi).2
      · cases hi : a.2.1 with
        | true =>
          rw [hi] at o5
          refine mok_ni hk S hS l _ _ _ _ o5 (Nat.le_refl _) ?_
          simp only [if_true, Nat.sub_self]
          exact hm (hU1.inp a.1 a.2.2.2 o2 hXa)
        | false =>
          rw [hi] at o5
          refine mok_ni hk S hS l _ _ _ _ o5 (Nat.le_refl _) ?_
          simp only [Bool.false_eq_true, if_false, Nat.sub_self]
          have hd : (msl π (mid π (a.2.2.1 - t') V)).1 = a.1 := by rw [← hU1.sl]; exact (o4 hi).1
          exact hm (hU1.both hk (by rw [hd]; exact o2) (by rw [hd]; exact hSa))
    · have e1 : (mkp π S (a :: l)).1 = (a, false) :: (mkp π S l).1 := by
        show (if _ then _ else _ : List (mAct × Bool) × (Nat → Bool)).1 = _
        rw [if_neg (fun q => hX (mXb_iff.mp q))]
      have e2 : (mkp π S (a :: l)).2 = (mkp π S l).2 := by
        show (if _ then _ else _ : List (mAct × Bool) × (Nat → Bool)).2 = _
        rw [if_neg (fun q => hX (mXb_iff.mp q))]
      rw [e2] at hU
      rw [e1]
      have hU1 := hU.mid (a.2.2.1 - t)
      rw [hV] at hU1
      show mokf π (mkp π S l).1 t' V
      cases hi : a.2.1 with
      | true =>
        rw [hi] at o5
        refine mok_ni hk S hS l _ t' _ V o5 ?_ ?_
        · simp only [if_true]; omega
        · simp only [if_true]
          exact hU1.inp1 hk a.1 a.2.2.2 o2 hX hS'
      | false =>
        rw [hi] at o5
        refine mok_ni hk S hS l _ t' _ V o5 ?_ ?_
        · simp only [Bool.false_eq_true, if_false]; omega
        · simp only [Bool.false_eq_true, if_false]
          have hd : (msl π (mid π (a.2.2.1 - t') V)).1 = a.1 := by rw [← hU1.sl]; exact (o4 hi).1
          rw [show a.2.2.1 + 1 - t' = (a.2.2.1 - t') + 1 by omega, mid_1]
          exact hU1.one hk (by rw [hd]; exact o2) (by rw [hd]; exact hX) hS'
theorem mU.rf (S : Nat → Bool) (W : mW) : mU π S W W := ⟨fun _ _ _ => rfl, fun _ _ _ => ⟨fun _ => rfl, fun _ => rfl, fun _ _ _ => rfl, rfl, rfl, fun _ _ _ => rfl⟩, fun _ _ _ _ _ _ => ⟨rfl, rfl, fun _ => rfl, rfl, rfl⟩⟩
/-- the purged replay of a replay that is fine -/
theorem mok_pg (hk : mPok π) (S : Nat → Bool) (hS : ∃ y, y < π.1 ∧ S y = true) {l : List mAct} {W : mW} (h : mokf π (mall l) 0 W) : mokf π (mkp π S l).1 0 W := mok_ni hk S hS l 0 0 W W h (Nat.le_refl _) (mU.rf _ _)
theorem mrep_snoc (a : mAct) : ∀ (l : List (mAct × Bool)) (t : Nat) (W : mW) (now : Nat), mrep π (l ++ [(a, true)]) t W now = if a.2.1 = true then mid π (now - a.2.2.1) (minp (mrep π l t W a.2.2.1) a.1 a.2.2.2) else mid π (now - (a.2.2.1 + 1)) (mpass π (mrep π l t W a.2.2.1) true)
  | [], t, W, now => by
    show (if _ then _ else _) = _
    cases hi : a.2.1 <;> rfl
  | (_, false) :: l, t, W, now => mrep_snoc a l t W now
  | (b, true) :: l, t, W, now => by
    cases hb : b.2.1 with
    | true =>
      have e : ∀ l' now', mrep π ((b, true) :: l') t W now' = mrep π l' b.2.2.1 (minp (mid π (b.2.2.1 - t) W) b.1 b.2.2.2) now' := fun l' now' => by
        show (if b.2.1 = true then _ else _) = _
        rw [if_pos hb]
      rw [List.cons_append, e, e, mrep_snoc a l]
    | false =>
      have e : ∀ l' now', mrep π ((b, true) :: l') t W now' = mrep π l' (b.2.2.1 + 1) (mpass π (mid π (b.2.2.1 - t) W) true) now' := fun l' now' => by
        show (if b.2.1 = true then _ else _) = _
        rw [if_neg (by rw [hb]; decide)]
      rw [List.cons_append, e, e, mrep_snoc a l]
theorem mrep_idle : ∀ (l : List (mAct × Bool)) (t : Nat) (W : mW) (now : Nat), mend l t ≤ now → mrep π l t W (now + 1) = mpass π (mrep π l t W now) false
  | [], t, W, now, h => by
    show mid π (now + 1 - t) W = _
    rw [show now + 1 - t = (now - t) + 1 by have : t ≤ now := h; omega, mid_1]
    rfl
  | (_, false) :: l, t, W, now, h => mrep_idle l t W now h
  | (b, true) :: l, t, W, now, h => by
    show (if b.2.1 = true then _ else _) = mpass π (if b.2.1 = true then _ else _) false
    cases hb : b.2.1 with
    | true =>
      have h' : mend l (if b.2.1 = true then b.2.2.1 else b.2.2.1 + 1) ≤ now := h
      rw [hb] at h'
      exact mrep_idle l _ _ now h'
    | false =>
      have h' : mend l (if b.2.1 = true then b.2.2.1 else b.2.2.1 + 1) ≤ now := h
      rw [hb] at h'
      exact mrep_idle l _ _ now h'
theorem mend_snoc (a : mAct) : ∀ (l : List (mAct × Bool)) (t : Nat), mend (l ++ [(a, true)]) t = if a.2.1 = true then a.2.2.1 else a.2.2.1 + 1
  | [], t => rfl
  | (_, false) :: l, t => mend_snoc a l t
  | (b, true) :: l, t => mend_snoc a l _
theorem mok_snoc (a : mAct) : ∀ (l : List (mAct × Bool)) (t : Nat) (W : mW), mokf π l t W → mend l t ≤ a.2.2.1 → a.1 < π.1 → (a.2.1 = true → ((mrep π l t W a.2.2.1).2.1 0 a.1).length < 8) → (a.2.1 = false → (msl π (mrep π l t W a.2.2.1)).1 = a.1 ∧ (mrep π l t W a.2.2.1).1 2 a.1 5 = 0) → mokf π (l ++ [(a, true)]) t W
  | [], t, W, _, h1, h2, h3, h4 => ⟨h1, h2, h3, h4, trivial⟩
  | (_, false) :: l, t, W, h, h1, h2, h3, h4 => mok_snoc a l t W h h1 h2 h3 h4
  | (b, true) :: l, t, W, h, h1, h2, h3, h4 => by
    obtain ⟨o1, o2, o3, o4, o5⟩ : t ≤ b.2.2.1 ∧ b.1 < π.1 ∧ (b.2.1 = true → ((mid π (b.2.2.1 - t) W).2.1 0 b.1).length < 8) ∧ (b.2.1 = false → (msl π (mid π (b.2.2.1 - t) W)).1 = b.1 ∧ (mid π (b.2.2.1 - t) W).1 2 b.1 5 = 0) ∧ mokf π l (if b.2.1 = true then b.2.2.1 else b.2.2.1 + 1) (if b.2.1 = true then minp (mid π (b.2.2.1 - t) W) b.1 b.2.2.2 else mpass π (mid π (b.2.2.1 - t) W) true) := h
    refine ⟨o1, o2, o3, o4, ?_⟩
    cases hb : b.2.1 with
    | true =>
      rw [hb] at o5
      have e : mrep π ((b, true) :: l) t W a.2.2.1 = mrep π l b.2.2.1 (minp (mid π (b.2.2.1 - t) W) b.1 b.2.2.2) a.2.2.1 := by
        show (if b.2.1 = true then _ else _) = _
        rw [if_pos hb]
      rw [e] at h3 h4
      have h1' : mend l (if b.2.1 = true then b.2.2.1 else b.2.2.1 + 1) ≤ a.2.2.1 := h1
      rw [hb] at h1'
      exact mok_snoc a l _ _ o5 h1' h2 h3 h4
    | false =>
      rw [hb] at o5
      have e : mrep π ((b, true) :: l) t W a.2.2.1 = mrep π l (b.2.2.1 + 1) (mpass π (mid π (b.2.2.1 - t) W) true) a.2.2.1 := by
        show (if b.2.1 = true then _ else _) = _
        rw [if_neg (by rw [hb]; decide)]
      rw [e] at h3 h4
      have h1' : mend l (if b.2.1 = true then b.2.2.1 else b.2.2.1 + 1) ≤ a.2.2.1 := h1
      rw [hb] at h1'
      exact mok_snoc a l _ _ o5 h1' h2 h3 h4
end REP
