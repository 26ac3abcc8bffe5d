/-! PROGRAMS OVER THE STORE: what a run ends in -/
def gh {α : Type} (g : gM α) (s : gS) (Q : α → gS → Prop) : Prop := ∃ r s', g s = some (r, s') ∧ Q r s'
section GH
variable {α β : Type} {s s1 : gS} {Q : β → gS → Prop}
theorem hb {x : gM α} {K : α → gM β} {a : α} (h : x s = some (a, s1)) (k : gh (K a) s1 Q) : gh (gb x K) s Q := by
  obtain ⟨r, s', e, q⟩ := k
  exact ⟨r, s', by show gbf (x s) K = _; rw [h]; exact e, q⟩
theorem hc {x : gM α} {K : α → gM β} {Q1 : α → gS → Prop} (h : gh x s Q1) (k : ∀ r s1, Q1 r s1 → gh (K r) s1 Q) : gh (gb x K) s Q := by
  obtain ⟨r, s1, e, q⟩ := h
  exact hb e (k r s1 q)
theorem hm {x : gM β} {Q1 : β → gS → Prop} (h : gh x s Q1) (k : ∀ r s1, Q1 r s1 → Q r s1) : gh x s Q := by
  obtain ⟨r, s1, e, q⟩ := h
  exact ⟨r, s1, e, k r s1 q⟩
theorem he {x : gM β} {a : β} (h : x s = some (a, s1)) (k : Q a s1) : gh x s Q := ⟨a, s1, h, k⟩
theorem hr {x : β} (k : Q x s) : gh (gret x) s Q := ⟨x, s, rfl, k⟩
theorem hrz {x : Int32} {Q : Int32 → gS → Prop} (hx : x = 0 ∨ x = 1) (k : Q x s) : gh (grz x) s Q := ⟨x, s, if_pos hx, k⟩
theorem hr1 {Q : Int32 → gS → Prop} (k : Q 1 s) : gh (grz 1) s Q := hrz (Or.inr rfl) k
theorem hr0 {Q : Int32 → gS → Prop} (k : Q 0 s) : gh (grz 0) s Q := hrz (Or.inl rfl) k
theorem hT {c : Prop} [Decidable c] {a b : gM β} (hc : c) (k : gh a s Q) : gh (gif c a b) s Q := by
  unfold gif; rw [if_pos hc]; exact k
theorem hF {c : Prop} [Decidable c] {a b : gM β} (hc : ¬ c) (k : gh b s Q) : gh (gif c a b) s Q := by
  unfold gif; rw [if_neg hc]; exact k
theorem hif {c : Prop} [Decidable c] {a b : gM β} (k1 : c → gh a s Q) (k2 : ¬ c → gh b s Q) : gh (gif c a b) s Q := by
  by_cases hc : c
  · exact hT hc (k1 hc)
  · exact hF hc (k2 hc)
theorem hg {c : gK} {f : Nat} {v : Int32} {K : Int32 → gM β} (e : s.1 c f = v) (k : gh (K v) s Q) : gh (gb (gg c f) K) s Q := hb (a := v) (by rw [← e]; rfl) k
theorem hp {c : gK} {f : Nat} {v : Int32} {K : Unit → gM β} (k : gh (K ()) (gw s c (upd (s.1 c) f v)) Q) : gh (gb (gp c f v) K) s Q := hb rfl k
theorem hpz {c : gK} {f : Nat} {v : Int32} {K : Unit → gM β} (hv : v = 0 ∨ v = 1) (k : gh (K ()) (gw s c (upd (s.1 c) f v)) Q) : gh (gb (gpz c f v) K) s Q := hb (if_pos hv) k
theorem hx {n j : Nat} {x : Int32} {K : Nat → gM β} (e : x = nI j) (hj : j < n) (hn : n < 2 ^ 31) (k : gh (K j) s Q) : gh (gb (gx n x) K) s Q := by
  subst e
  refine hb (a := j) (s1 := s) ?_ k
  unfold gx
  rw [if_neg (nI_in hj hn), nI_clamp (by omega)]
theorem hl {c : gK} {i : Nat} {x v : Int32} {K : Int32 → gM β} (ex : x = nI i) (hi : i < s.2.1 c) (hn : i < 2 ^ 31) (e : s.1 c i = v) (k : gh (K v) s Q) : gh (gb (gl c x) K) s Q := by
  subst ex
  refine hb (a := v) (s1 := s) ?_ k
  unfold gl
  rw [if_neg (fun q => q.elim (nI_pos hn) (fun q => by rw [nI_clamp hn] at q; omega)), nI_clamp hn, e]
theorem hs {c : gK} {i : Nat} {x v : Int32} {K : Unit → gM β} (ex : x = nI i) (hi : i < s.2.1 c) (hn : i < 2 ^ 31) (k : gh (K ()) (gw s c (upd (s.1 c) i v)) Q) : gh (gb (gsa c x v) K) s Q := by
  subst ex
  refine hb (a := ()) ?_ k
  unfold gsa
  rw [if_neg (fun q => q.elim (nI_pos hn) (fun q => by rw [nI_clamp hn] at q; omega)), nI_clamp hn]
theorem hsz {c : gK} {i : Nat} {x v : Int32} {K : Unit → gM β} (hv : v = 0 ∨ v = 1) (ex : x = nI i) (hi : i < s.2.1 c) (hn : i < 2 ^ 31) (k : gh (K ()) (gw s c (upd (s.1 c) i v)) Q) : gh (gb (gsz c x v) K) s Q := by
  subst ex
  refine hb (a := ()) ?_ k
  unfold gsz gsa
  rw [if_pos hv, if_neg (fun q => q.elim (nI_pos hn) (fun q => by rw [nI_clamp hn] at q; omega)), nI_clamp hn]
theorem hln {c : gK} {n : Nat} {K : Int32 → gM β} (e : s.2.1 c = n) (k : gh (K (nI n)) s Q) : gh (gb (gln c) K) s Q := hb (a := nI n) (by rw [← e]; rfl) k
theorem hcp {c0 c : gK} {sp dp n : Nat} {x y z : Int32} {K : Unit → gM β} (ex : x = nI sp) (ey : y = nI dp) (ez : z = nI n) (b1 : sp + n ≤ s.2.1 c0) (b2 : dp + n ≤ s.2.1 c) (b3 : sp + n < 2 ^ 31) (b4 : dp + n < 2 ^ 31) (k : gh (K ()) (gw s c (va_cpy (s.1 c0) (s.1 c) sp dp n)) Q) : gh (gb (gcp c0 x c y z) K) s Q := by
  subst ex ey ez
  refine hb (a := ()) ?_ k
  unfold gcp
  rw [nI_clamp (by omega), nI_clamp (by omega), nI_clamp (by omega), if_neg]
  rintro (q | q | q | q | q)
  · exact nI_pos (by omega) q
  · exact nI_pos (by omega) q
  · exact nI_pos (by omega) q
  · omega
  · omega
end GH
/-! what may change, and the room -/
def gcap (k : Nat) : Nat := if k = 7 then 128 else if k = 11 ∨ k = 14 then 24 else if k = 23 then 16 else if k = 25 then 400 else if k = 28 ∨ k = 30 then 30000 else if k = 34 ∨ k = 36 then 6000 else 1000000
def gLB (s : gS) : Prop := ∀ q : gK, s.2.1 q ≤ gcap q.1
def gPl : List (Nat × Nat) := (List.range 3).flatMap fun w => (List.range 12).map fun i => (w, i)
def gGL : List gK := ([7, 11, 14, 23, 25, 28, 30].flatMap fun k => gPl.map fun p => pk k p.1 p.2) ++ [pk 34 0 0, pk 34 0 1, pk 34 0 2, pk 34 0 3, pk 36 1 0, pk 36 2 0]
def gsum (f : gK → Nat) : List gK → Nat
  | [] => 0
  | q :: l => f q + gsum f l
def gpot (s : gS) : Nat := gsum s.2.1 gGL
def grm (s s' : gS) : Prop := s'.2.2.2 + 2 * gpot s ≤ s.2.2.2 + 2 * gpot s' ∧ 4 * s'.2.2.1 + gpot s ≤ 4 * s.2.2.1 + gpot s'
def fr (K : gK → Prop) (s s' : gS) : Prop := (∀ q, ¬ K q → s'.1 q = s.1 q ∧ s'.2.1 q = s.2.1 q) ∧ (gLB s → gLB s') ∧ grm s s'
section FR
variable {K : gK → Prop} {s s1 s2 : gS}
theorem grm.rf : grm s s := ⟨Nat.le_refl _, Nat.le_refl _⟩
theorem grm.tr (a : grm s s1) (b : grm s1 s2) : grm s s2 := by
  obtain ⟨a1, a2⟩ := a
  obtain ⟨b1, b2⟩ := b
  exact ⟨by omega, by omega⟩
theorem fr.rf : fr K s s := ⟨fun _ _ => ⟨rfl, rfl⟩, id, grm.rf⟩
theorem fr.tr (a : fr K s s1) (b : fr K s1 s2) : fr K s s2 := ⟨fun q h => ⟨(b.1 q h).1.trans (a.1 q h).1, (b.1 q h).2.trans (a.1 q h).2⟩, fun q => b.2.1 (a.2.1 q), a.2.2.tr b.2.2⟩
theorem fr.mono {K' : gK → Prop} (a : fr K s s1) (h : ∀ q, K q → K' q) : fr K' s s1 := ⟨fun q hq => a.1 q (fun z => hq (h q z)), a.2⟩
theorem fr.gw {c : gK} {f : Nat → Int32} (h : K c) : fr K s (gw s c f) := ⟨fun q hq => ⟨if_neg (fun (e : q = c) => hq (by rw [e]; exact h)), rfl⟩, id, grm.rf⟩
theorem gw_o {c q : gK} {f : Nat → Int32} (h : q ≠ c) : (gw s c f).1 q = s.1 q := if_neg h
theorem gw_s {c : gK} {f : Nat → Int32} : (gw s c f).1 c = f := if_pos rfl
theorem gsum_up {f g : gK → Nat} {c : gK} {d : Nat} (h1 : ∀ q, q ≠ c → g q = f q) (h2 : g c = f c + d) : ∀ l : List gK, gsum f l ≤ gsum g l ∧ (c ∈ l → gsum f l + d ≤ gsum g l)
  | [] => ⟨Nat.le_refl _, fun h => by cases h⟩
  | q :: l => by
    obtain ⟨i1, i2⟩ := gsum_up h1 h2 l
    show f q + gsum f l ≤ g q + gsum g l ∧ (c ∈ q :: l → f q + gsum f l + d ≤ g q + gsum g l)
    by_cases e : q = c
    · subst e
      rw [h2]
      exact ⟨by omega, fun _ => by omega⟩
    · rw [h1 q e]
      refine ⟨by omega, fun hm => ?_⟩
      rcases List.mem_cons.mp hm with h | h
      · exact absurd h.symm e
      · have := i2 h; omega
end FR
/-! rows -/
theorem getD_def {α : Type} {l : List α} {d : α} {j : Nat} (h : l.length ≤ j) : l.getD j d = d := by
  rw [List.getD_eq_getElem?_getD, List.getElem?_eq_none h]; rfl
def cRow (s : gS) (k w i : Nat) (l : List Int32) : Prop := s.1 (pk k w i) 1 = nI l.length ∧ l.length ≤ s.2.1 (pk (k + 1) w i) ∧ 4 ≤ s.2.1 (pk (k + 1) w i) ∧ s.2.1 (pk (k + 1) w i) ≤ 1000000 ∧ ∀ x, x < l.length → s.1 (pk (k + 1) w i) x = l.getD x 0
section ROW
variable {θ : gT} {s : gS} {k w i : Nat} {l : List Int32}
theorem cRow.cg {s' : gS} (h : cRow s k w i l) (e1 : s'.1 (pk k w i) = s.1 (pk k w i)) (e2 : s'.1 (pk (k + 1) w i) = s.1 (pk (k + 1) w i)) (e3 : s'.2.1 (pk (k + 1) w i) = s.2.1 (pk (k + 1) w i)) : cRow s' k w i l := by
  unfold cRow
  rw [e1, e2, e3]
  exact h
theorem pk_ne {a b c a' b' c' : Nat} (h : ¬ (a = a' ∧ b = b' ∧ c = c')) : pk a b c ≠ pk a' b' c' := fun e => h (by
  have : (a, b, c) = (a', b', c') := e
  simpa using this)
theorem e_get (h : cRow s k w i l) (x : Int32) : G_X9_get θ k w i x s = some (if x < 0 then 0 else l.getD x.toNatClampNeg 0, s) := by
  have hl : l.length < 2 ^ 31 := by have := h.2.1; have := h.2.2.2.1; omega
  unfold G_X9_get gif
  by_cases c : x < 0
  · rw [if_pos c, if_pos c]; rfl
  · rw [if_neg c, if_neg c]
    obtain ⟨j, hj, rfl⟩ := nI_of c
    rw [nI_clamp hj]
    show (if s.1 (pk k w i) 1 ≤ nI j then gret 0 else gb (gl (pk (k + 1) w i) (nI j)) fun v2 => gret v2) s = _
    rw [h.1]
    by_cases c2 : nI l.length ≤ nI j
    · rw [if_pos c2]
      rw [nI_leI hl hj] at c2
      rw [getD_def c2]; rfl
    · rw [if_neg c2]
      rw [nI_leI hl hj] at c2
      show gbf (gl (pk (k + 1) w i) (nI j) s) _ = _
      unfold gl
      rw [if_neg (fun q => q.elim (nI_pos hj) (fun q => by rw [nI_clamp hj] at q; have := h.2.1; omega)), nI_clamp hj, h.2.2.2.2 j (by omega)]
      rfl
theorem e_getn (h : cRow s k w i l) {x : Int32} {a : Nat} (e : x = nI a) (ha : a < 2 ^ 31) : G_X9_get θ k w i x s = some (l.getD a 0, s) := by
  subst e
  rw [e_get h, if_neg (nI_pos ha), nI_clamp ha]
theorem getD_app {α : Type} {l : List α} {x d : α} {j : Nat} : (l ++ [x]).getD j d = if j < l.length then l.getD j d else if j = l.length then x else d := by
  by_cases h : j < l.length
  · rw [if_pos h]
    simp only [List.getD_eq_getElem?_getD, List.getElem?_append_left h]
  · rw [if_neg h]
    by_cases h2 : j = l.length
    · rw [if_pos h2, h2]
      simp [List.getD_eq_getElem?_getD]
    · rw [if_neg h2]
      exact getD_def (by rw [List.length_append, List.length_singleton]; omega)
theorem upd_s {f : Nat → Int32} {i : Nat} {v : Int32} : upd f i v i = v := if_pos rfl
theorem upd_o {f : Nat → Int32} {i j : Nat} {v : Int32} (h : j ≠ i) : upd f i v j = f j := if_neg h
def kRow (k w i : Nat) (q : gK) : Prop := q = pk k w i ∨ q = pk (k + 1) w i
theorem c_add29 (h : cRow s k w i l) (x : Int32) (hl : l.length < s.2.1 (pk (k + 1) w i)) : gh (G_X9_add_29 θ k w i x) s (fun _ s' => cRow s' k w i (l ++ [x]) ∧ fr (kRow k w i) s s') := by
  have hne : pk k w i ≠ pk (k + 1) w i := pk_ne (by omega)
  have hn : l.length < 2 ^ 31 := by have := h.2.2.2.1; omega
  unfold G_X9_add_29
  refine hg h.1 ?_
  refine hs rfl hl hn ?_
  refine hg (v := nI l.length) (by rw [gw_o hne]; exact h.1) ?_
  refine hp ?_
  refine hr ⟨⟨?_, ?_, ?_, ?_, fun y hy => ?_⟩, (fr.gw (Or.inr rfl)).tr (fr.gw (Or.inl rfl))⟩
  · rw [gw_s, upd_s, nI_1, List.length_append, List.length_singleton]
  · rw [List.length_append, List.length_singleton]
    show _ ≤ s.2.1 (pk (k + 1) w i)
    omega
  · exact h.2.2.1
  · exact h.2.2.2.1
  · rw [gw_o hne.symm, gw_s, getD_app]
    rw [List.length_append, List.length_singleton] at hy
    by_cases e : y = l.length
    · rw [e, upd_s, if_neg (by omega), if_pos rfl]
    · rw [upd_o e, if_pos (by omega)]
      exact h.2.2.2.2 y (by omega)
theorem hgrow {β : Type} {Q : β → gS → Prop} {c : gK} {n : Nat} {x : Int32} {K : Unit → gM β} (e : s.2.1 c = n) (ex : x = nI (2 * n)) (h4 : 4 ≤ n) (hn : 2 * n ≤ 1000000) (kk : ∀ s', s'.1 c = va_cpy (s.1 c) (fun _ => 0) 0 0 n → s'.2.1 c = 2 * n → (∀ q, q ≠ c → s'.1 q = s.1 q ∧ s'.2.1 q = s.2.1 q) → s'.2.2 = (s.2.2.1 + 1, s.2.2.2 + 2 * n) → gh (K ()) s' Q) : gh (gb (ggrow c x) K) s Q := by
  subst ex
  refine hb (a := ()) (s1 := (fun q => if q = c then va_cpy (s.1 c) (fun _ => 0) 0 0 n else s.1 q, fun q => if q = c then 2 * n else s.2.1 q, (s.2.2.1 + 1, s.2.2.2 + 2 * n))) ?_ (kk _ (if_pos rfl) (if_pos rfl) (fun q hq => ⟨if_neg hq, if_neg hq⟩) rfl)
  have hmn : gmn (nI (2 * n)) (s.2.1 c) = nI n := by
    unfold gmn
    rw [e]
    exact if_neg (fun q => absurd ((nI_ltI (by omega) (by omega)).mp (show nI (2 * n) < nI n from q)) (by omega))
  unfold ggrow
  rw [hmn, nI_clamp (by omega), nI_clamp (by omega), if_neg]
  rintro (q | q | q | q | q | q)
  · exact nI_pos (by omega) q
  · omega
  · rw [e] at q
    have := (nI_eq (by omega) (by omega)).mp (show nI (2 * n) = nI n from q)
    omega
  · exact nI_pos (by omega) q
  · omega
  · omega
/-- a growth pays for itself -/
theorem grow_rm {s' : gS} {c : gK} {n : Nat} (hc : c ∈ gGL) (e : s.2.1 c = n) (h4 : 4 ≤ n) (e2 : s'.2.1 c = 2 * n) (e3 : ∀ q, q ≠ c → s'.2.1 q = s.2.1 q) (e4 : s'.2.2 = (s.2.2.1 + 1, s.2.2.2 + 2 * n)) : grm s s' := by
  have h := (gsum_up (f := s.2.1) (g := s'.2.1) (c := c) (d := n) e3 (by rw [e2, e]; omega) gGL).2 hc
  unfold grm gpot
  rw [e4]
  exact ⟨by show s.2.2.2 + 2 * n + _ ≤ _; omega, by show 4 * (s.2.2.1 + 1) + _ ≤ _; omega⟩
theorem c_add (h : cRow s k w i l) (x : Int32) (hG : pk (k + 1) w i ∈ gGL) (hc : 2 * l.length ≤ gcap (k + 1)) : gh (G_X9_add θ k w i x) s (fun _ s' => cRow s' k w i (l ++ [x]) ∧ fr (kRow k w i) s s') := by
  have hne : pk k w i ≠ pk (k + 1) w i := pk_ne (by omega)
  have hcap : gcap (k + 1) ≤ 1000000 := by
    unfold gcap
    repeat' split
    all_goals omega
  have hb1 := h.2.1
  have hb4 := h.2.2.1
  have hn : l.length < 2 ^ 31 := by have := h.2.2.2.1; omega
  unfold G_X9_add
  refine hg h.1 ?_
  refine hln rfl ?_
  refine hif (fun c => ?_) (fun c => ?_)
  · have c' : l.length = s.2.1 (pk (k + 1) w i) := (nI_eq hn (by have := h.2.2.2.1; omega)).mp c
    refine hg h.1 ?_
    refine hgrow (n := l.length) c'.symm (by rw [← pk_mul]; rfl) (by omega) (by omega) (fun s' e1 e2 e3 e4 => ?_)
    have h' : cRow s' k w i l := by
      refine ⟨?_, ?_, ?_, ?_, fun y hy => ?_⟩
      · rw [(e3 _ hne).1]; exact h.1
      · rw [e2]; omega
      · rw [e2]; omega
      · rw [e2]; omega
      · rw [e1, pk_cpy_in (by omega) (by omega)]
        show s.1 (pk (k + 1) w i) (0 + (y - 0)) = _
        rw [show 0 + (y - 0) = y by omega]
        exact h.2.2.2.2 y hy
    refine hm (c_add29 h' x (by rw [e2]; omega)) (fun _ s2 q => ⟨q.1, fr.tr ⟨fun q hq => e3 q (fun z => hq (Or.inr z)), fun hL q => ?_, grow_rm hG c'.symm (by omega) e2 (fun q hq => (e3 q hq).2) e4⟩ q.2⟩)
    by_cases z : q = pk (k + 1) w i
    · rw [z, e2]; exact hc
    · rw [(e3 q z).2]; exact hL q
  · have : l.length ≠ s.2.1 (pk (k + 1) w i) := fun e => c (by rw [← e])
    exact c_add29 h x (by omega)
theorem c_clear (h : cRow s k w i l) : gh (G_X9_clear θ k w i) s (fun _ s' => cRow s' k w i [] ∧ fr (kRow k w i) s s') := by
  have hne : pk (k + 1) w i ≠ pk k w i := pk_ne (by omega)
  unfold G_X9_clear
  refine hp ?_
  refine hr ⟨⟨?_, ?_, ?_, ?_, fun y hy => ?_⟩, fr.gw (Or.inl rfl)⟩
  · rw [gw_s, upd_s]; rfl
  · exact Nat.zero_le _
  · exact h.2.2.1
  · exact h.2.2.2.1
  · exact absurd hy (Nat.not_lt_zero _)
theorem c_rmF {v : Int32} (h : cRow s k w i (v :: l)) : gh (G_X9_removeFirst θ k w i) s (fun _ s' => cRow s' k w i l ∧ fr (kRow k w i) s s') := by
  have hne : pk k w i ≠ pk (k + 1) w i := pk_ne (by omega)
  have hlen : (v :: l).length = l.length + 1 := rfl
  have hb1 := h.2.1
  have hb4 := h.2.2.2.1
  rw [hlen] at hb1
  have h1 : s.1 (pk k w i) 1 = nI (l.length + 1) := h.1
  unfold G_X9_removeFirst
  refine hg h1 ?_
  refine hF (nI_nle (by omega) (by omega)) ?_
  refine hg h1 ?_
  refine hcp (sp := 1) (dp := 0) (n := l.length) rfl rfl (nI_pred _) (by omega) (by omega) (by omega) (by omega) ?_
  refine hg (v := nI (l.length + 1)) (by rw [gw_o hne]; exact h1) ?_
  rw [nI_pred]
  refine hp ?_
  refine hr ⟨⟨?_, ?_, ?_, ?_, fun y hy => ?_⟩, (fr.gw (Or.inr rfl)).tr (fr.gw (Or.inl rfl))⟩
  · rw [gw_s, upd_s]
  · show _ ≤ s.2.1 (pk (k + 1) w i)
    omega
  · exact h.2.2.1
  · exact h.2.2.2.1
  · rw [gw_o hne.symm, gw_s, pk_cpy_in (by omega) (by omega)]
    rw [show 1 + (y - 0) = y + 1 by omega, h.2.2.2.2 (y + 1) (by rw [hlen]; omega)]
    rfl
end ROW
