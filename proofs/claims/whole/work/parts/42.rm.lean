/-! THE REFERENCE'S MESSAGES -/
theorem nd_len : ∀ (cnt a : Nat) (l : List Nat), l.Nodup → (∀ i, i ∈ l → a ≤ i ∧ i < a + cnt) → l.length ≤ cnt
  | 0, a, l, _, h => by
    cases l with
    | nil => exact Nat.le_refl _
    | cons x t => have := h x (List.mem_cons_self ..); omega
  | cnt + 1, a, l, hn, h => by
    by_cases m : a + cnt ∈ l
    · have := nd_len cnt a (l.erase (a + cnt)) (hn.erase _) (fun i hi => by
        have h1 := h i (List.mem_of_mem_erase hi)
        have h2 : i ≠ a + cnt := (hn.mem_erase_iff.mp hi).1
        omega)
      rw [List.length_erase_of_mem m] at this
      omega
    · have := nd_len cnt a l hn (fun i hi => by
        have h1 := h i hi
        have h2 : i ≠ a + cnt := fun e => m (e ▸ hi)
        omega)
      omega
section RM
variable {θ : gT} {π : mP} {n w : Nat} {bv : Int32} {s0 s s' : gS} {W W' : mW} {d : Nat}
theorem rCh_o : ∀ (is : List Nat) (ms : List (List Int32)), (∀ i, i ∈ is → s'.1 (rk 84) i = s.1 (rk 84) i ∧ s'.1 (rk 83) i = s.1 (rk 83) i ∧ ∀ y, y < 4 → s'.1 (rk 85) (4 * i + y) = s.1 (rk 85) (4 * i + y)) → (∀ m, m ∈ ms → m.length ≤ 4) → rCh s is ms → rCh s' is ms
  | [], [], _, _, _ => trivial
  | i :: is, m :: ms, e, h4, h => by
    have ei := e i (List.mem_cons_self ..)
    have hm := h4 m (List.mem_cons_self ..)
    refine ⟨⟨?_, fun y hy => ?_⟩, fun i2 r hr => ?_, rCh_o is ms (fun i hi => e i (List.mem_cons_of_mem _ hi)) (fun m hm => h4 m (List.mem_cons_of_mem _ hm)) h.2.2⟩
    · rw [ei.1]; exact h.1.1
    · rw [ei.2.2 y (by omega)]; exact h.1.2 y hy
    · rw [ei.2.1]; exact h.2.1 i2 r hr
  | [], _ :: _, _, _, h => h.elim
  | _ :: _, [], _, _, h => h.elim
theorem rCh_snoc {M : Nat} {m : List Int32} (hM : s'.1 (rk 84) M = nI m.length ∧ ∀ y, y < m.length → s'.1 (rk 85) (4 * M + y) = m.getD y 0) : ∀ (is : List Nat) (ms : List (List Int32)), (∀ i, i ∈ is → s'.1 (rk 84) i = s.1 (rk 84) i ∧ ∀ y, y < 4 → s'.1 (rk 85) (4 * i + y) = s.1 (rk 85) (4 * i + y)) → (∀ i, i ∈ is → is.getLast? ≠ some i → s'.1 (rk 83) i = s.1 (rk 83) i) → (∀ i, is.getLast? = some i → s'.1 (rk 83) i = nI M) → is.Nodup → (∀ m, m ∈ ms → m.length ≤ 4) → rCh s is ms → rCh s' (is ++ [M]) (ms ++ [m])
  | [], [], _, _, _, _, _, _ => ⟨hM, fun _ _ h => (by cases h), trivial⟩
  | i :: is, m' :: ms, e, e3, e4, hnd, h4, h => by
    have ei := e i (List.mem_cons_self ..)
    have hm := h4 m' (List.mem_cons_self ..)
    obtain ⟨hni, hnd'⟩ := List.nodup_cons.mp hnd
    refine ⟨⟨?_, fun y hy => ?_⟩, fun i2 r hr => ?_, ?_⟩
    · rw [ei.1]; exact h.1.1
    · rw [ei.2 y (by omega)]; exact h.1.2 y hy
    · cases is with
      | nil =>
        cases hr
        exact e4 i rfl
      | cons a t =>
        have ha : i2 = a := by
          have : a :: (t ++ [M]) = i2 :: r := hr
          cases this; rfl
        subst ha
        rw [e3 i (List.mem_cons_self ..) (fun q => hni ?_)]
        · exact h.2.1 i2 t rfl
        · rw [List.getLast?_cons_cons] at q
          exact List.mem_of_getLast? q
    · refine rCh_snoc hM is ms (fun i hi => e i (List.mem_cons_of_mem _ hi)) (fun x hx hq => ?_) (fun x hx => ?_) hnd' (fun m hm => h4 m (List.mem_cons_of_mem _ hm)) h.2.2
      · refine e3 x (List.mem_cons_of_mem _ hx) (fun q => ?_)
        cases is with
        | nil => cases hx
        | cons a t =>
          rw [List.getLast?_cons_cons] at q
          exact hq q
      · cases is with
        | nil => cases hx
        | cons a t =>
          refine e4 x ?_
          rw [List.getLast?_cons_cons]
          exact hx
  | [], _ :: _, _, _, _, _, _, h => h.elim
  | _ :: _, [], _, _, _, _, _, h => h.elim
theorem rCh_len : ∀ (is : List Nat) (ms : List (List Int32)), rCh s is ms → is.length = ms.length
  | [], [], _ => rfl
  | _ :: is, _ :: ms, h => by
    rw [List.length_cons, List.length_cons, rCh_len is ms h.2.2]
  | [], _ :: _, h => h.elim
  | _ :: _, [], h => h.elim
/-- the first message of a channel that can be taken -/
theorem rM_take {C : Nat → Nat → List (List Int32)} (h : rM π n w s C) {c : Nat} (hc : c < π.2.1) {m : List Int32} {tl : List (List Int32)} (hV : C 0 c = m :: tl) : ∃ i, 3000 * w ≤ i ∧ i < 3000 * w + n ∧ s.1 (rk 72) (12 * w + c) = nI i ∧ (s.1 (rk 84) i = nI m.length ∧ ∀ y, y < m.length → s.1 (rk 85) (4 * i + y) = m.getD y 0) ∧ s.1 (rk 74) (12 * w + c) = nI (tl.length + 1) ∧ ∀ s' : gS, (∀ k, (k = 73 ∨ (75 ≤ k ∧ k ≤ 77) ∨ (83 ≤ k ∧ k ≤ 86)) → s'.1 (rk k) = s.1 (rk k)) → s'.1 (rk 72) = upd (s.1 (rk 72)) (12 * w + c) (s.1 (rk 83) i) → s'.1 (rk 74) = upd (s.1 (rk 74)) (12 * w + c) (nI tl.length) → rM π n w s' (fun j' i' => if j' = 0 ∧ i' = c then tl else C j' i') := by
  obtain ⟨ix, cnt, h1, h2, h3, h4, h5, h6⟩ := h
  obtain ⟨a1, a2, a3, a4⟩ := h3 c 0 hc (by omega)
  rw [hV] at a2 a3
  cases hix : ix 0 c with
  | nil => rw [hix] at a2; exact a2.elim
  | cons i is =>
    rw [hix] at a1 a2
    have b1 := a1 i (List.mem_cons_self ..)
    refine ⟨i, b1.1, by omega, a4 i is hix, a2.1, a3, fun s' e e72 e74 => ?_⟩
    refine ⟨fun j' i' => if j' = 0 ∧ i' = c then is else ix j' i', cnt, by rw [e 86 (by omega)]; exact h1, h2, fun c' j' hc' hj' => ?_, fun c' hc' x hx => ?_, fun c' hc' => ?_, fun c1 c2 j1 j2 k1 k2 k3 k4 k5 x hx hx2 => ?_⟩
    · by_cases z : j' = 0 ∧ c' = c
      · obtain ⟨rfl, rfl⟩ := z
        simp only [and_self, if_true]
        refine ⟨fun x hx => a1 x (List.mem_cons_of_mem _ hx), rCh.cg (fun k k1 k2 => e k (by omega)) _ _ a2.2.2, ?_, fun i2 r hr => ?_⟩
        · show s'.1 (rk 74) (12 * w + c') = _
          rw [e74, upd_s]
        · show s'.1 (rk 72) (12 * w + c') = _
          rw [e72, upd_s]
          exact a2.2.1 i2 r hr
      · simp only [if_neg z]
        obtain ⟨b1, b2, b3, b4⟩ := h3 c' j' hc' hj'
        refine ⟨b1, rCh.cg (fun k k1 k2 => e k (by omega)) _ _ b2, ?_, fun i2 r hr => ?_⟩
        · by_cases j0 : j' = 0
          · subst j0
            show s'.1 (rk 74) (12 * w + c') = _
            rw [e74, upd_o (by omega)]; exact b3
          · rw [e _ (by omega)]; exact b3
        · by_cases j0 : j' = 0
          · subst j0
            show s'.1 (rk 72) (12 * w + c') = _
            rw [e72, upd_o (by omega)]; exact b4 i2 r hr
          · rw [e _ (by omega)]; exact b4 i2 r hr
    · rw [e 76 (by omega)]
      exact h4 c' hc' x hx
    · by_cases z : c' = c
      · subst z
        have := h5 c' hc'
        rw [hix] at this
        simp only [and_self, if_true]
        exact (List.nodup_cons.mp this).2
      · simp only [z, and_false, if_false]
        exact h5 c' hc'
    · have m1 : x ∈ ix j1 c1 := by
        by_cases z : j1 = 0 ∧ c1 = c
        · simp only [if_pos z] at hx
          rw [z.1, z.2, hix]
          exact List.mem_cons_of_mem _ hx
        · simp only [if_neg z] at hx
          exact hx
      have m2 : x ∈ ix j2 c2 := by
        by_cases z : j2 = 0 ∧ c2 = c
        · simp only [if_pos z] at hx2
          rw [z.1, z.2, hix]
          exact List.mem_cons_of_mem _ hx2
        · simp only [if_neg z] at hx2
          exact hx2
      exact h6 c1 c2 j1 j2 k1 k2 k3 k4 k5 x m1 m2
theorem rM_cnt {C : Nat → Nat → List (List Int32)} (h : rM π n w s C) {c : Nat} (hc : c < π.2.1) : (∃ cnt, s.1 (rk 86) w = nI cnt ∧ cnt ≤ n) ∧ s.1 (rk 74) (12 * w + c) = nI (C 0 c).length ∧ s.1 (rk 77) (12 * w + c) = nI (C 1 c).length ∧ (C 0 c).length ≤ n ∧ (C 1 c).length ≤ n := by
  obtain ⟨ix, cnt, h1, h2, h3, h4, h5, h6⟩ := h
  have key : ∀ j, j < 2 → (C j c).length ≤ n := fun j hj => by
    obtain ⟨a1, a2, a3, a4⟩ := h3 c j hc hj
    rw [← rCh_len _ _ a2]
    have hnd : (ix j c).Nodup := by
      have := List.nodup_append.mp (h5 c hc)
      have hj2 : j = 0 ∨ j = 1 := by omega
      rcases hj2 with rfl | rfl
      · exact this.1
      · exact this.2.1
    have := nd_len cnt (3000 * w) _ hnd a1
    omega
  exact ⟨⟨cnt, h1, h2⟩, (h3 c 0 hc (by omega)).2.2.1, (h3 c 1 hc (by omega)).2.2.1, key 0 (by omega), key 1 (by omega)⟩
/-- a message is sent -/
theorem rM_send {C : Nat → Nat → List (List Int32)} (h : rM π n w s C) (h4' : ∀ c j m, c < π.2.1 → j < 2 → m ∈ C j c → m.length ≤ 4) {c : Nat} (hc : c < π.2.1) : ∃ cnt, s.1 (rk 86) w = nI cnt ∧ cnt ≤ n ∧ (C 1 c ≠ [] → ∃ l, s.1 (rk 76) (12 * w + c) = nI l ∧ 3000 * w ≤ l ∧ l < 3000 * w + cnt) ∧ ∀ (m : List Int32) (s' : gS), (∀ k, (72 ≤ k ∧ k ≤ 74) → s'.1 (rk k) = s.1 (rk k)) → s'.1 (rk 86) w = nI (cnt + 1) → s'.1 (rk 84) (3000 * w + cnt) = nI m.length → (∀ x, x ≠ 3000 * w + cnt → s'.1 (rk 84) x = s.1 (rk 84) x) → (∀ y, y < m.length → s'.1 (rk 85) (4 * (3000 * w + cnt) + y) = m.getD y 0) → (∀ x, x < 4 * (3000 * w + cnt) → s'.1 (rk 85) x = s.1 (rk 85) x) → s'.1 (rk 76) = upd (s.1 (rk 76)) (12 * w + c) (nI (3000 * w + cnt)) → s'.1 (rk 77) = upd (s.1 (rk 77)) (12 * w + c) (nI ((C 1 c).length + 1)) → (C 1 c = [] → s'.1 (rk 75) = upd (s.1 (rk 75)) (12 * w + c) (nI (3000 * w + cnt)) ∧ s'.1 (rk 83) = s.1 (rk 83)) → (C 1 c ≠ [] → s'.1 (rk 75) = s.1 (rk 75) ∧ ∀ l, s.1 (rk 76) (12 * w + c) = nI l → l < 2 ^ 31 → s'.1 (rk 83) = upd (s.1 (rk 83)) l (nI (3000 * w + cnt))) → w < 3 → cnt < 3000 → rM π (n + 1) w s' (fun j' i' => if j' = 1 ∧ i' = c then C 1 c ++ [m] else C j' i') := by
  obtain ⟨ix, cnt, h1, h2, h3, h4, h5, h6⟩ := h
  obtain ⟨a1, a2, a3, a4⟩ := h3 c 1 hc (by omega)
  have hlen := rCh_len _ _ a2
  refine ⟨cnt, h1, h2, fun hne => ?_, fun m s' e86a e86 e84 e84o e85 e85o e76 e77 e0 e1 hw3 hcnt => ?_⟩
  · have hne' : ix 1 c ≠ [] := fun q => hne (by rw [q] at hlen; exact List.eq_nil_of_length_eq_zero hlen.symm)
    obtain ⟨l, hl⟩ : ∃ l, (ix 1 c).getLast? = some l := by
      cases hq : (ix 1 c).getLast? with
      | none => exact absurd (List.getLast?_eq_none_iff.mp hq) hne'
      | some l => exact ⟨l, rfl⟩
    exact ⟨l, h4 c hc l hl, (a1 l (List.mem_of_getLast? hl)).1, (a1 l (List.mem_of_getLast? hl)).2⟩
  · have hno : ix 1 c = [] ↔ C 1 c = [] := by
      constructor
      · intro q; rw [q] at hlen; exact List.eq_nil_of_length_eq_zero hlen.symm
      · intro q; rw [q] at hlen; exact List.eq_nil_of_length_eq_zero hlen
    -- what is kept at places of other chains
    have h83 : ∀ c' j' i, c' < π.2.1 → j' < 2 → ¬ (j' = 1 ∧ c' = c) → i ∈ ix j' c' → s'.1 (rk 83) i = s.1 (rk 83) i := fun c' j' i hc' hj' hz hi => by
      by_cases q : C 1 c = []
      · rw [(e0 q).2]
      · have hne' : ix 1 c ≠ [] := fun z => q (hno.mp z)
        obtain ⟨l, hl⟩ : ∃ l, (ix 1 c).getLast? = some l := by
          cases hq : (ix 1 c).getLast? with
          | none => exact absurd (List.getLast?_eq_none_iff.mp hq) hne'
          | some l => exact ⟨l, rfl⟩
        have hlm := List.mem_of_getLast? hl
        have hlb := a1 l hlm
        rw [(e1 q).2 l (h4 c hc l hl) (by omega), upd_o]
        rintro rfl
        by_cases z : c' = c
        · subst z
          have hj0 : j' = 0 := by omega
          subst hj0
          exact (List.nodup_append.mp (h5 c' hc)).2.2 i hi i hlm rfl
        · exact h6 c' c j' 1 hc' hc hj' (by omega) z i hi hlm
    refine ⟨fun j' i' => if j' = 1 ∧ i' = c then ix 1 c ++ [3000 * w + cnt] else ix j' i', cnt + 1, e86, by omega, fun c' j' hc' hj' => ?_, fun c' hc' x hx => ?_, fun c' hc' => ?_, fun c1 c2 j1 j2 k1 k2 k3 k4 k5 x hx hx2 => ?_⟩
    · by_cases z : j' = 1 ∧ c' = c
      · obtain ⟨rfl, rfl⟩ := z
        simp only [and_self, if_true]
        refine ⟨fun x hx => ?_, ?_, ?_, fun i2 r hr => ?_⟩
        · rcases List.mem_append.mp hx with hx | hx
          · have := a1 x hx; omega
          · rw [List.mem_singleton.mp hx]; omega
        · refine rCh_snoc (s := s) ⟨e84, e85⟩ _ _ (fun i hi => ?_) (fun i hi hq => ?_) (fun i hi => ?_) (List.nodup_append.mp (h5 c' hc)).2.1 (fun mm hmm => h4' c' 1 mm hc (by omega) hmm) a2
          · have := a1 i hi
            exact ⟨e84o i (by omega), fun y hy => e85o _ (by omega)⟩
          · by_cases q : C 1 c' = []
            · rw [(e0 q).2]
            · have hne' : ix 1 c' ≠ [] := fun z => q (hno.mp z)
              obtain ⟨l, hl⟩ : ∃ l, (ix 1 c').getLast? = some l := by
                cases hq' : (ix 1 c').getLast? with
                | none => exact absurd (List.getLast?_eq_none_iff.mp hq') hne'
                | some l => exact ⟨l, rfl⟩
              have hlb := a1 l (List.mem_of_getLast? hl)
              rw [(e1 q).2 l (h4 c' hc l hl) (by omega), upd_o]
              rintro rfl
              exact hq hl
          · have q : C 1 c' ≠ [] := fun q => by
              rw [hno.mpr q] at hi; cases hi
            have hlb := a1 i (List.mem_of_getLast? hi)
            rw [(e1 q).2 i (h4 c' hc i hi) (by omega), upd_s]
        · show s'.1 (rk 77) (12 * w + c') = _
          rw [e77, upd_s, List.length_append, List.length_singleton]
        · show s'.1 (rk 75) (12 * w + c') = _
          cases hix : ix 1 c' with
          | nil =>
            rw [hix] at hr
            cases hr
            rw [(e0 (hno.mp hix)).1, upd_s]
          | cons i0 r0 =>
            rw [hix] at hr
            have : i0 = i2 := by cases hr; rfl
            subst this
            rw [(e1 (fun q => by rw [hno.mpr q] at hix; cases hix)).1]
            exact a4 i0 r0 hix
      · simp only [if_neg z]
        obtain ⟨b1, b2, b3, b4⟩ := h3 c' j' hc' hj'
        refine ⟨fun x hx => by have := b1 x hx; omega, ?_, ?_, fun i2 r hr => ?_⟩
        · refine rCh_o (s := s) _ _ (fun i hi => ?_) (fun mm hmm => h4' c' j' mm hc' hj' hmm) b2
          have := b1 i hi
          exact ⟨e84o i (by omega), h83 c' j' i hc' hj' z hi, fun y hy => e85o _ (by omega)⟩
        · by_cases j1 : j' = 1
          · subst j1
            show s'.1 (rk 77) (12 * w + c') = _
            rw [e77, upd_o (by omega)]; exact b3
          · have j0 : j' = 0 := by omega
            subst j0
            show s'.1 (rk 74) (12 * w + c') = _
            rw [e86a 74 (by omega)]; exact b3
        · by_cases j1 : j' = 1
          · subst j1
            show s'.1 (rk 75) (12 * w + c') = _
            by_cases q : C 1 c = []
            · rw [(e0 q).1, upd_o (by omega)]; exact b4 i2 r hr
            · rw [(e1 q).1]; exact b4 i2 r hr
          · have j0 : j' = 0 := by omega
            subst j0
            show s'.1 (rk 72) (12 * w + c') = _
            rw [e86a 72 (by omega)]; exact b4 i2 r hr
    · by_cases z : c' = c
      · subst z
        simp only [and_self, if_true] at hx
        rw [List.getLast?_append] at hx
        have : 3000 * w + cnt = x := by simpa using hx
        rw [e76, upd_s, this]
      · simp only [z, and_false, if_false] at hx
        rw [e76, upd_o (by omega)]
        exact h4 c' hc' x hx
    · by_cases z : c' = c
      · subst z
        have hnd := h5 c' hc'
        have e1' : (if (0 : Nat) = 1 ∧ c' = c' then ix 1 c' ++ [3000 * w + cnt] else ix 0 c') = ix 0 c' := if_neg (by omega)
        have e2' : (if (1 : Nat) = 1 ∧ c' = c' then ix 1 c' ++ [3000 * w + cnt] else ix 1 c') = ix 1 c' ++ [3000 * w + cnt] := if_pos ⟨rfl, rfl⟩
        show ((if (0 : Nat) = 1 ∧ c' = c' then ix 1 c' ++ [3000 * w + cnt] else ix 0 c') ++ (if (1 : Nat) = 1 ∧ c' = c' then ix 1 c' ++ [3000 * w + cnt] else ix 1 c')).Nodup
        rw [e1', e2', ← List.append_assoc]
        refine List.nodup_append.mpr ⟨hnd, by simp, fun x hx y hy => ?_⟩
        rw [List.mem_singleton.mp hy]
        rcases List.mem_append.mp hx with hx | hx
        · have := (h3 c' 0 hc' (by omega)).1 x hx; omega
        · have := a1 x hx; omega
      · simp only [z, and_false, if_false]
        exact h5 c' hc'
    · have key : ∀ jj cc, cc < π.2.1 → jj < 2 → x ∈ (if jj = 1 ∧ cc = c then ix 1 c ++ [3000 * w + cnt] else ix jj cc) → x ∈ ix jj cc ∨ (x = 3000 * w + cnt ∧ cc = c) := fun jj cc hcc hjj hxx => by
        by_cases z : jj = 1 ∧ cc = c
        · rw [if_pos z] at hxx
          rcases List.mem_append.mp hxx with hx | hx
          · rw [z.1, z.2]; exact Or.inl hx
          · exact Or.inr ⟨List.mem_singleton.mp hx, z.2⟩
        · rw [if_neg z] at hxx
          exact Or.inl hxx
      rcases key j1 c1 k1 k3 hx with m1 | m1
      · rcases key j2 c2 k2 k4 hx2 with m2 | m2
        · exact h6 c1 c2 j1 j2 k1 k2 k3 k4 k5 x m1 m2
        · have := (h3 c1 j1 k1 k3).1 x m1
          omega
      · rcases key j2 c2 k2 k4 hx2 with m2 | m2
        · have := (h3 c2 j2 k2 k4).1 x m2
          omega
        · exact k5 (by rw [m1.2, m2.2])
/-- what waited can be taken -/
theorem rM_hand {C : Nat → Nat → List (List Int32)} (h : rM π n w s C) {c : Nat} (hc : c < π.2.1) (e : ∀ k, ((75 ≤ k ∧ k ≤ 76) ∨ (83 ≤ k ∧ k ≤ 86)) → s'.1 (rk k) = s.1 (rk k)) (e72 : s'.1 (rk 72) = upd (s.1 (rk 72)) (12 * w + c) (s.1 (rk 75) (12 * w + c))) (e74 : s'.1 (rk 74) = upd (s.1 (rk 74)) (12 * w + c) (s.1 (rk 77) (12 * w + c))) (e77 : s'.1 (rk 77) = upd (s.1 (rk 77)) (12 * w + c) 0) : rM π n w s' (fun j' i' => if i' = c then (if j' = 0 then C 1 c else if j' = 1 then [] else C j' c) else C j' i') := by
  obtain ⟨ix, cnt, h1, h2, h3, h4, h5, h6⟩ := h
  have a := h3 c 1 hc (by omega)
  refine ⟨fun j' i' => if i' = c then (if j' = 0 then ix 1 c else if j' = 1 then [] else ix j' c) else ix j' i', cnt, by rw [e 86 (by omega)]; exact h1, h2, fun c' j' hc' hj' => ?_, fun c' hc' x hx => ?_, fun c' hc' => ?_, fun c1 c2 j1 j2 k1 k2 k3 k4 k5 x hx hx2 => ?_⟩
  · by_cases z : c' = c
    · subst z
      simp only [if_true]
      have hj : j' = 0 ∨ j' = 1 := by omega
      rcases hj with rfl | rfl
      · simp only [if_true]
        refine ⟨a.1, rCh.cg (fun k k1 k2 => e k (by omega)) _ _ a.2.1, ?_, fun i2 r hr => ?_⟩
        · show s'.1 (rk 74) (12 * w + c') = _
          rw [e74, upd_s]; exact a.2.2.1
        · show s'.1 (rk 72) (12 * w + c') = _
          rw [e72, upd_s]; exact a.2.2.2 i2 r hr
      · refine ⟨fun x hx => (by cases hx), trivial, ?_, fun i2 r hr => (by cases hr)⟩
        show s'.1 (rk 77) (12 * w + c') = _
        rw [e77, upd_s]; rfl
    · simp only [if_neg z]
      obtain ⟨b1, b2, b3, b4⟩ := h3 c' j' hc' hj'
      have hj : j' = 0 ∨ j' = 1 := by omega
      refine ⟨b1, rCh.cg (fun k k1 k2 => e k (by omega)) _ _ b2, ?_, fun i2 r hr => ?_⟩
      · rcases hj with rfl | rfl
        · show s'.1 (rk 74) (12 * w + c') = _
          rw [e74, upd_o (by omega)]; exact b3
        · show s'.1 (rk 77) (12 * w + c') = _
          rw [e77, upd_o (by omega)]; exact b3
      · rcases hj with rfl | rfl
        · show s'.1 (rk 72) (12 * w + c') = _
          rw [e72, upd_o (by omega)]; exact b4 i2 r hr
        · show s'.1 (rk 75) (12 * w + c') = _
          rw [e 75 (by omega)]; exact b4 i2 r hr
  · by_cases z : c' = c
    · subst z
      have hx' : (if c' = c' then (if (1 : Nat) = 0 then ix 1 c' else if (1 : Nat) = 1 then [] else ix 1 c') else ix 1 c').getLast? = some x := hx
      rw [if_pos rfl, if_neg (by omega), if_pos rfl] at hx'
      cases hx'
    · simp only [if_neg z] at hx
      rw [e 76 (by omega)]
      exact h4 c' hc' x hx
  · by_cases z : c' = c
    · subst z
      show ((if c' = c' then (if (0 : Nat) = 0 then ix 1 c' else if (0 : Nat) = 1 then [] else ix 0 c') else ix 0 c') ++ (if c' = c' then (if (1 : Nat) = 0 then ix 1 c' else if (1 : Nat) = 1 then [] else ix 1 c') else ix 1 c')).Nodup
      rw [if_pos rfl, if_pos rfl, if_pos rfl, if_neg (by omega), if_pos rfl, List.append_nil]
      exact (List.nodup_append.mp (h5 c' hc')).2.1
    · simp only [if_neg z]
      exact h5 c' hc'
  · have key : ∀ jj cc, jj < 2 → x ∈ (if cc = c then (if jj = 0 then ix 1 c else if jj = 1 then [] else ix jj c) else ix jj cc) → ∃ j', j' < 2 ∧ x ∈ ix j' cc := fun jj cc hjj hxx => by
      by_cases z : cc = c
      · rw [if_pos z] at hxx
        by_cases j0 : jj = 0
        · rw [if_pos j0] at hxx
          exact ⟨1, by omega, by rw [z]; exact hxx⟩
        · rw [if_neg j0, if_pos (by omega)] at hxx
          cases hxx
      · rw [if_neg z] at hxx
        exact ⟨jj, hjj, hxx⟩
    obtain ⟨j1', q1, m1⟩ := key j1 c1 k3 hx
    obtain ⟨j2', q2, m2⟩ := key j2 c2 k4 hx2
    exact h6 c1 c2 j1' j2' k1 k2 q1 q2 k5 x m1 m2
end RM
