/-! THE FLAT STORE: contents by path code, lengths, counters; how the function heap holds it; programs over it; simulation -/
abbrev gK : Type := Nat × Nat × Nat
abbrev pk (k w i : Nat) : gK := (k, w, i)
/-- domains, channels, is the purge's machine made, is the trial's -/
abbrev gT : Type := Nat × Nat × Bool × Bool
/-- contents, lengths, (cells, slots) -/
abbrev gS : Type := (gK → Nat → Int32) × (gK → Nat) × (Nat × Nat)
def gMW (θ : gT) (w : Nat) : Prop := w = 0 ∨ (w = 1 ∧ θ.2.2.1 = true) ∨ (w = 2 ∧ θ.2.2.2 = true)
def gPW (θ : gT) (w : Nat) : Prop := (w = 1 ∧ θ.2.2.1 = true) ∨ (w = 2 ∧ θ.2.2.2 = true)
def gVc : List Nat := [0, 0, 0, 0, 1, 0, 2, 2, 0, 0, 3, 3, 0, 3, 3, 4, 4, 4, 4, 5, 5, 5, 5, 5, 5, 5, 6, 6, 6, 6, 6, 6, 0, 7, 7, 8, 8, 9, 9, 9, 9, 0, 9, 0, 9, 0, 0, 0, 0, 0, 0, 0, 0, 0, 0, 9, 9, 0, 0, 0, 0, 0, 0, 0, 0, 0, 0, 0, 0, 0, 0, 0, 0, 0, 0, 0, 0, 0, 0, 0, 0, 0, 0, 0, 0, 0, 0, 0, 0, 0, 0, 0, 0, 0, 0, 0, 9, 0]
def gVd (θ : gT) (c w i : Nat) : Prop := match c with
  | 0 => w = 0 ∧ i = 0
  | 1 => w = 0 ∧ i < θ.2.1
  | 2 => w = 0 ∧ i < θ.1
  | 3 => w = 0 ∧ i < 3
  | 4 => gMW θ w ∧ i = 0
  | 5 => gMW θ w ∧ i < θ.1
  | 6 => gMW θ w ∧ i < θ.2.1
  | 7 => w = 0 ∧ i < 4
  | 8 => gPW θ w ∧ i = 0
  | _ => False
/-- which paths there are -/
def gV (θ : gT) (k w i : Nat) : Prop := gVd θ (gVc.getD k 9) w i ∧ θ.1 ≤ 6 ∧ θ.2.1 ≤ 12
def gU (k : Nat) : Bool := ([7, 11, 14, 23, 25, 27, 28, 29, 30, 34, 36] : List Nat).elem k
def gA (Gs U : gK → Nat) (k w i : Nat) : Nat := match gU k with
  | true => U (pk k w i)
  | false => Gs (pk k w i)
def gRef (F : Nat → Option Nat) : (Nat → Int32) ⊕ (Nat → Int64) ⊕ (Nat → UInt32) ⊕ (Nat → UInt64) ⊕ (Nat → Option Nat) := .inr (.inr (.inr (.inr F)))
def gC (θ : gT) (Gs U : gK → Nat) (k w i : Nat) (f : Nat → Int32) (n : Nat) : mo_E := match k with
  | 0 => .inr (10, [.ref (Gs (pk 1 0 0)), .ref (Gs (pk 15 0 0)), .ref (Gs (pk 32 0 0)), va_rf (match θ.2.2.1 with | true => some (Gs (pk 35 1 0)) | false => none), va_rf (match θ.2.2.2 with | true => some (Gs (pk 35 2 0)) | false => none)])
  | 1 => .inr (7, [.int (f 0), .ref (Gs (pk 2 0 0)), .ref (Gs (pk 3 0 0)), .int (f 3), .ref (Gs (pk 5 0 0)), .ref (Gs (pk 8 0 0)), .ref (Gs (pk 9 0 0)), .ref (Gs (pk 12 0 0)), .int (f 8)])
  | 3 => .inl (3, 12, gRef (fun j => if j < θ.2.1 then some (Gs (pk 4 0 j)) else none))
  | 4 => .inr (4, [.int (f 0), .int (f 1), .int (f 2), .int (f 3)])
  | 5 => .inl (2, θ.1, gRef (fun j => if j < θ.1 then some (Gs (pk 6 0 j)) else none))
  | 6 => .inr (9, [.ref (U (pk 7 w i)), .int (f 1)])
  | 9 => .inl (2, 3, gRef (fun j => if j < 3 then some (Gs (pk 10 0 j)) else none))
  | 10 => .inr (9, [.ref (U (pk 11 w i)), .int (f 1)])
  | 12 => .inl (2, 3, gRef (fun j => if j < 3 then some (Gs (pk 13 0 j)) else none))
  | 13 => .inr (9, [.ref (U (pk 14 w i)), .int (f 1)])
  | 15 => .inr (5, [.ref (Gs (pk 1 0 0)), .ref (Gs (pk 16 w 0)), .ref (Gs (pk 17 w 0)), .ref (Gs (pk 18 w 0)), .int (f 4)])
  | 16 => .inl (4, θ.1, gRef (fun j => if j < θ.1 then some (Gs (pk 19 w j)) else none))
  | 17 => .inl (5, 12, gRef (fun j => if j < θ.2.1 then some (Gs (pk 26 w j)) else none))
  | 18 => .inr (2, [.ref (Gs (pk 1 0 0)), .int (f 1), .int (f 2), .int (f 3), .int (f 4), .int (f 5)])
  | 19 => .inr (3, [.ref (Gs (pk 20 w i)), .ref (Gs (pk 21 w i)), .ref (Gs (pk 22 w i)), .ref (Gs (pk 24 w i)), .int (f 4), .int (f 5), .int (f 6), .int (f 7), .int (f 8)])
  | 22 => .inr (9, [.ref (U (pk 23 w i)), .int (f 1)])
  | 24 => .inr (9, [.ref (U (pk 25 w i)), .int (f 1)])
  | 26 => .inr (1, [.ref (Gs (pk 4 0 i)), .ref (U (pk 27 w i)), .ref (U (pk 29 w i)), .int (f 3), .int (f 4), .ref (Gs (pk 31 w i)), .int (f 6), .int (f 7)])
  | 27 => .inr (6, [.ref (U (pk 28 w i)), .int (f 1), .int (f 2)])
  | 29 => .inr (6, [.ref (U (pk 30 w i)), .int (f 1), .int (f 2)])
  | 32 => .inr (0, [.ref (Gs (pk 33 0 0)), .ref (Gs (pk 33 0 1)), .ref (Gs (pk 33 0 2)), .ref (Gs (pk 33 0 3))])
  | 33 => .inr (9, [.ref (U (pk 34 w i)), .int (f 1)])
  | 35 => .inr (8, [.ref (Gs (pk 1 0 0)), .ref (Gs (pk 15 w 0)), .ref (U (pk 36 w 0)), .int (f 3), .int (f 4)])
  | 36 => .inl (1, n, .inl f)
  | 41 => .inr (11, [.int (f 0), .ref (Gs (pk 43 0 0)), .int (f 2), .ref (Gs (pk 45 0 0)), .ref (Gs (pk 46 0 0)), .ref (Gs (pk 47 0 0)), .ref (Gs (pk 48 0 0)), .ref (Gs (pk 49 0 0)), .ref (Gs (pk 50 0 0)), .ref (Gs (pk 51 0 0)), .ref (Gs (pk 52 0 0)), .ref (Gs (pk 53 0 0)), .ref (Gs (pk 54 0 0)), .int (f 13), .int (f 14), .ref (Gs (pk 57 0 0)), .ref (Gs (pk 58 0 0)), .ref (Gs (pk 59 0 0)), .ref (Gs (pk 60 0 0)), .ref (Gs (pk 61 0 0)), .ref (Gs (pk 62 0 0)), .ref (Gs (pk 63 0 0)), .ref (Gs (pk 64 0 0)), .ref (Gs (pk 65 0 0)), .ref (Gs (pk 66 0 0)), .ref (Gs (pk 67 0 0)), .ref (Gs (pk 68 0 0)), .ref (Gs (pk 69 0 0)), .ref (Gs (pk 70 0 0)), .ref (Gs (pk 71 0 0)), .ref (Gs (pk 72 0 0)), .ref (Gs (pk 73 0 0)), .ref (Gs (pk 74 0 0)), .ref (Gs (pk 75 0 0)), .ref (Gs (pk 76 0 0)), .ref (Gs (pk 77 0 0)), .ref (Gs (pk 78 0 0)), .ref (Gs (pk 79 0 0)), .ref (Gs (pk 80 0 0)), .ref (Gs (pk 81 0 0)), .ref (Gs (pk 82 0 0)), .ref (Gs (pk 83 0 0)), .ref (Gs (pk 84 0 0)), .ref (Gs (pk 85 0 0)), .ref (Gs (pk 86 0 0)), .ref (Gs (pk 87 0 0)), .ref (Gs (pk 88 0 0)), .ref (Gs (pk 89 0 0)), .ref (Gs (pk 90 0 0)), .ref (Gs (pk 91 0 0)), .ref (Gs (pk 92 0 0)), .ref (Gs (pk 93 0 0)), .ref (Gs (pk 94 0 0)), .ref (Gs (pk 95 0 0)), .int (f 54), .ref (Gs (pk 97 0 0))])
  | 43 => .inl (1, n, .inl f)
  | 47 => .inl (1, n, .inl f)
  | 58 => .inl (1, n, .inl f)
  | 92 => .inl (1, n, .inl f)
  | 93 => .inl (1, n, .inl f)
  | 94 => .inl (1, n, .inl f)
  | 95 => .inl (1, n, .inl f)
  | 97 => .inl (1, n, .inl f)
  | _ => .inl (0, n, .inl f)
def gI (θ : gT) (Gs U : gK → Nat) (h : mo_H) (s : gS) : Prop :=
  (∀ k w i, gV θ k w i → h.1 (gA Gs U k w i) = some (gC θ Gs U k w i (s.1 (pk k w i)) (s.2.1 (pk k w i))) ∧ gA Gs U k w i < h.2.1) ∧ (∃ own : Nat → gK, ∀ k w i, gV θ k w i → own (gA Gs U k w i) = pk k w i) ∧ h.2 = s.2.2
theorem gVd_b {θ : gT} {c w i : Nat} (h1 : θ.1 ≤ 6) (h2 : θ.2.1 ≤ 12) (h : gVd θ c w i) : w < 3 ∧ i < 16 := by
  unfold gVd gMW gPW at h
  split at h <;> first | omega | (rcases h with ⟨h | h | h, h3⟩ <;> omega) | (rcases h with ⟨h | h, h3⟩ <;> omega) | exact h.elim
theorem gV_b {θ : gT} {k w i : Nat} (h : gV θ k w i) : w < 3 ∧ i < 16 := gVd_b h.2.1 h.2.2 h.1
theorem pk_inj {k w i k' w' i' : Nat} (h : w < 3 ∧ i < 16) (h' : w' < 3 ∧ i' < 16) (e : pk k w i = pk k' w' i') : k = k' ∧ w = w' ∧ i = i' := by
  simpa [pk] using e
def gw (s : gS) (c : gK) (f : Nat → Int32) : gS := (fun q => if q = c then f else s.1 q, s.2)
theorem gI.up {θ : gT} {Gs U : gK → Nat} {h : mo_H} {s : gS} {k w i : Nat} {f : Nat → Int32} (H : gI θ Gs U h s) (hv : gV θ k w i) {e : mo_E} (he : e = gC θ Gs U k w i f (s.2.1 (pk k w i))) : gI θ Gs U (mo_up h (gA Gs U k w i) e) (gw s (pk k w i) f) := by
  obtain ⟨h1, ⟨own, h2⟩, h3⟩ := H
  subst he
  refine ⟨fun k' w' i' hv' => ?_, ⟨own, h2⟩, h3⟩
  refine ⟨?_, (h1 k' w' i' hv').2⟩
  show (if gA Gs U k' w' i' = gA Gs U k w i then some _ else h.1 (gA Gs U k' w' i')) = some (gC θ Gs U k' w' i' (if pk k' w' i' = pk k w i then f else s.1 (pk k' w' i')) (s.2.1 (pk k' w' i')))
  by_cases hp : pk k' w' i' = pk k w i
  · obtain ⟨rfl, rfl, rfl⟩ := pk_inj (gV_b hv') (gV_b hv) hp
    simp
  · have hA : ¬ gA Gs U k' w' i' = gA Gs U k w i := fun e => hp (by rw [← h2 _ _ _ hv', ← h2 _ _ _ hv, e])
    rw [if_neg hA, if_neg hp]
    exact (h1 k' w' i' hv').1
abbrev gM (α : Type) : Type := gS → Option (α × gS)
def gret {α : Type} (x : α) : gM α := fun s => some (x, s)
def gno {α : Type} : gM α := fun _ => none
def gbf {α β : Type} (x : Option (α × gS)) (k : α → gM β) : Option (β × gS) := match x with
  | none => none
  | some q => k q.1 q.2
def gb {α β : Type} (x : gM α) (k : α → gM β) : gM β := fun s => gbf (x s) k
theorem gbE {α β : Type} {x : gM α} {k : α → gM β} {s : gS} {z : β × gS} (e : gb x k s = some z) : ∃ (a : α) (s1 : gS), x s = some (a, s1) ∧ k a s1 = some z := by
  have e2 : gbf (x s) k = some z := e
  cases hx : x s with
  | none => rw [hx] at e2; cases e2
  | some q => rw [hx] at e2; exact ⟨q.1, q.2, rfl, e2⟩
def gif {α : Type} (c : Prop) [Decidable c] (a b : gM α) : gM α := if c then a else b
def gg (c : gK) (f : Nat) : gM Int32 := fun s => some (s.1 c f, s)
def gp (c : gK) (f : Nat) (x : Int32) : gM Unit := fun s => some ((), gw s c (upd (s.1 c) f x))
def gpz (c : gK) (f : Nat) (x : Int32) : gM Unit := fun s => if x = 0 ∨ x = 1 then some ((), gw s c (upd (s.1 c) f x)) else none
def gl (c : gK) (i : Int32) : gM Int32 := fun s => if i < 0 ∨ s.2.1 c ≤ i.toNatClampNeg then none else some (s.1 c i.toNatClampNeg, s)
def gsa (c : gK) (i x : Int32) : gM Unit := fun s => if i < 0 ∨ s.2.1 c ≤ i.toNatClampNeg then none else some ((), gw s c (upd (s.1 c) i.toNatClampNeg x))
def gsz (c : gK) (i x : Int32) : gM Unit := fun s => if x = 0 ∨ x = 1 then gsa c i x s else none
def gx (n : Nat) (i : Int32) : gM Nat := fun s => if i < 0 ∨ n ≤ i.toNatClampNeg then none else some (i.toNatClampNeg, s)
def gln (c : gK) : gM Int32 := fun s => some (Int32.ofNat (s.2.1 c), s)
def gcp (c0 : gK) (sp : Int32) (c : gK) (dp n : Int32) : gM Unit := fun s =>
  if sp < 0 ∨ dp < 0 ∨ n < 0 ∨ s.2.1 c0 < sp.toNatClampNeg + n.toNatClampNeg ∨ s.2.1 c < dp.toNatClampNeg + n.toNatClampNeg then none else some ((), gw s c (va_cpy (s.1 c0) (s.1 c) sp.toNatClampNeg dp.toNatClampNeg n.toNatClampNeg))
def grz (x : Int32) : gM Int32 := fun s => if x = 0 ∨ x = 1 then some (x, s) else none
/-- what g does over the store, f does over the heap -/
def gSim (fx : Bool) (θ : gT) (Gs U : gK → Nat) {α : Type} (f : mo_M α) (g : gM α) : Prop := ∀ h s, gI θ Gs U h s → ∀ r s', g s = some (r, s') → ∃ (h' : mo_H) (U' : gK → Nat), f.1 h = some (r, h') ∧ gI θ Gs U' h' s' ∧ (fx = true → U' = U)
section GQ
variable {fx : Bool} {θ : gT} {Gs U : gK → Nat} {α β : Type} {k w i a ci fi : Nat}
theorem gq_ret {x : α} : gSim fx θ Gs U (mo_ret x) (gret x) := fun h s H r s' e => by
  have e2 : some (x, s) = some (r, s') := e
  cases e2
  exact ⟨h, U, rfl, H, fun _ => rfl⟩
theorem gq_rz {x : Int32} : gSim fx θ Gs U (mo_rz x) (grz x) := fun h s H r s' e => by
  unfold grz at e
  split at e
  · rename_i hx
    cases e
    refine ⟨h, U, ?_, H, fun _ => rfl⟩
    unfold mo_rz
    rw [if_pos hx]
    rfl
  · cases e
theorem gq_no {f : mo_M α} : gSim fx θ Gs U f gno := fun h s H r s' e => by cases e
theorem gq_if {c : Prop} [Decidable c] {f1 f2 : mo_M α} {g1 g2 : gM α} (h1 : c → gSim fx θ Gs U f1 g1) (h2 : ¬ c → gSim fx θ Gs U f2 g2) : gSim fx θ Gs U (if c then f1 else f2) (gif c g1 g2) := by
  unfold gif
  by_cases hc : c
  · rw [if_pos hc, if_pos hc]; exact h1 hc
  · rw [if_neg hc, if_neg hc]; exact h2 hc
theorem gq_call {f1 : mo_M α} {g1 : gM α} {K : α → mo_M β} {k' : α → gM β} (h1 : gSim true θ Gs U f1 g1) (h2 : ∀ r, gSim fx θ Gs U (K r) (k' r)) : gSim fx θ Gs U (mo_b f1 K) (gb g1 k') := fun h s H r s' e => by
  obtain ⟨x, s1, e1, e2⟩ := gbE e
  obtain ⟨h', U', e3, H', hU⟩ := h1 h s H x s1 e1
  have hU := hU rfl
  subst hU
  obtain ⟨h'', U'', e4, H''⟩ := h2 x h' s1 H' r s' e2
  exact ⟨h'', U'', by rw [mo_b_run e3]; exact e4, H''⟩
theorem gq_cal {f1 : mo_M α} {g1 : gM α} {K : α → mo_M β} {k' : α → gM β} (h1 : gSim false θ Gs U f1 g1) (h2 : ∀ r U', gSim false θ Gs U' (K r) (k' r)) : gSim false θ Gs U (mo_b f1 K) (gb g1 k') := fun h s H r s' e => by
  obtain ⟨x, s1, e1, e2⟩ := gbE e
  obtain ⟨h', U', e3, H', -⟩ := h1 h s H x s1 e1
  obtain ⟨h'', U'', e4, H'', -⟩ := h2 x U' h' s1 H' r s' e2
  exact ⟨h'', U'', by rw [mo_b_run e3]; exact e4, H'', fun q => by cases q⟩
theorem gq_I {K : Int32 → mo_M β} {k' : Int32 → gM β} (hv : gV θ k w i) (hA : gA Gs U k w i = a) (hc : ∀ f n, ∃ fs, gC θ Gs U k w i f n = .inr (ci, fs) ∧ fs[fi]? = some (.int (f fi))) (kk : ∀ x, gSim fx θ Gs U (K x) (k' x)) : gSim fx θ Gs U (mo_b (mo_gI a ci fi) K) (gb (gg (pk k w i) fi) k') := fun h s H r s' e => by
  subst hA
  obtain ⟨fs, e1, e2⟩ := hc (s.1 (pk k w i)) (s.2.1 (pk k w i))
  obtain ⟨h', U', e3, H'⟩ := kk (s.1 (pk k w i) fi) h s H r s' e
  refine ⟨h', U', ?_, H'⟩
  rw [← e3]
  apply mo_b_run
  show ((mo_fs h _ ci).bind fun fs => mo_vI fs[fi]?).map (fun x => (x, h)) = _
  rw [mo_fs_of (by rw [(H.1 k w i hv).1, e1])]
  show (mo_vI fs[fi]?).map (fun x => (x, h)) = _
  rw [e2]
  rfl
theorem gq_R {K : Nat → mo_M β} {g : gM β} {b : Nat} (hv : gV θ k w i) (hA : gA Gs U k w i = a) (hc : ∀ f n, ∃ fs, gC θ Gs U k w i f n = .inr (ci, fs) ∧ fs[fi]? = some (.ref b)) (kk : gSim fx θ Gs U (K b) g) : gSim fx θ Gs U (mo_b (mo_gR a ci fi) K) g := fun h s H r s' e => by
  subst hA
  obtain ⟨fs, e1, e2⟩ := hc (s.1 (pk k w i)) (s.2.1 (pk k w i))
  obtain ⟨h', U', e3, H'⟩ := kk h s H r s' e
  refine ⟨h', U', ?_, H'⟩
  rw [← e3]
  apply mo_b_run
  show ((mo_fs h _ ci).bind fun fs => mo_vR fs[fi]?).map (fun x => (x, h)) = _
  rw [mo_fs_of (by rw [(H.1 k w i hv).1, e1])]
  show (mo_vR fs[fi]?).map (fun x => (x, h)) = _
  rw [e2]
  rfl
theorem gq_O {K : Option Nat → mo_M β} {g : gM β} {b : Option Nat} (hv : gV θ k w i) (hA : gA Gs U k w i = a) (hc : ∀ f n, ∃ fs, gC θ Gs U k w i f n = .inr (ci, fs) ∧ fs[fi]? = some (va_rf b)) (kk : gSim fx θ Gs U (K b) g) : gSim fx θ Gs U (mo_b (mo_gO a ci fi) K) g := fun h s H r s' e => by
  subst hA
  obtain ⟨fs, e1, e2⟩ := hc (s.1 (pk k w i)) (s.2.1 (pk k w i))
  obtain ⟨h', U', e3, H'⟩ := kk h s H r s' e
  refine ⟨h', U', ?_, H'⟩
  rw [← e3]
  apply mo_b_run
  show ((mo_fs h _ ci).bind fun fs => mo_vO fs[fi]?).map (fun x => (x, h)) = _
  rw [mo_fs_of (by rw [(H.1 k w i hv).1, e1])]
  show (mo_vO fs[fi]?).map (fun x => (x, h)) = _
  rw [e2]
  cases b <;> rfl
theorem gq_ck {K : Unit → mo_M β} {g : gM β} (hv : gV θ k w i) (hA : gA Gs U k w i = a) (hc : ∀ f n, ∃ fs, gC θ Gs U k w i f n = .inr (ci, fs)) (kk : gSim fx θ Gs U (K ()) g) : gSim fx θ Gs U (mo_b (mo_ck a ci) K) g := fun h s H r s' e => by
  subst hA
  obtain ⟨fs, e1⟩ := hc (s.1 (pk k w i)) (s.2.1 (pk k w i))
  obtain ⟨h', U', e3, H'⟩ := kk h s H r s' e
  refine ⟨h', U', ?_, H'⟩
  rw [← e3]
  apply mo_b_run
  show ((mo_fs h _ ci).bind fun _ => some ()).map (fun x => (x, h)) = _
  rw [mo_fs_of (by rw [(H.1 k w i hv).1, e1])]
  rfl
theorem gq_p {K : Unit → mo_M β} {k' : Unit → gM β} {x : Int32} (hv : gV θ k w i) (hA : gA Gs U k w i = a) (hc : ∀ f n, ∃ fs, gC θ Gs U k w i f n = .inr (ci, fs) ∧ fi < fs.length ∧ .inr (ci, fs.set fi (.int x)) = gC θ Gs U k w i (upd f fi x) n) (kk : gSim fx θ Gs U (K ()) (k' ())) : gSim fx θ Gs U (mo_b (mo_pV a ci fi (.int x)) K) (gb (gp (pk k w i) fi x) k') := fun h s H r s' e => by
  subst hA
  obtain ⟨fs, e1, e2, e4⟩ := hc (s.1 (pk k w i)) (s.2.1 (pk k w i))
  obtain ⟨h', U', e3, H'⟩ := kk _ _ (H.up hv e4) r s' e
  refine ⟨h', U', ?_, H'⟩
  rw [← e3]
  apply mo_b_run
  show ((mo_fs h _ ci).bind fun fs => if fi < fs.length then some (_, _) else none).map (fun q => ((), mo_up h q.1 q.2)) = _
  rw [mo_fs_of (by rw [(H.1 k w i hv).1, e1])]
  show (if fi < fs.length then some (gA Gs U k w i, (Sum.inr (ci, fs.set fi (.int x)) : mo_E)) else none).map (fun q => ((), mo_up h q.1 q.2)) = _
  rw [if_pos e2]
  rfl
theorem gq_pz {K : Unit → mo_M β} {k' : Unit → gM β} {x : Int32} (hv : gV θ k w i) (hA : gA Gs U k w i = a) (hc : ∀ f n, ∃ fs, gC θ Gs U k w i f n = .inr (ci, fs) ∧ fi < fs.length ∧ .inr (ci, fs.set fi (.int x)) = gC θ Gs U k w i (upd f fi x) n) (kk : gSim fx θ Gs U (K ()) (k' ())) : gSim fx θ Gs U (mo_b (mo_pZ a ci fi x) K) (gb (gpz (pk k w i) fi x) k') := fun h s H r s' e => by
  obtain ⟨y, s1, e1, e2⟩ := gbE e
  unfold gpz at e1
  split at e1
  · rename_i hx
    cases e1
    obtain ⟨h', U', e3, H'⟩ := gq_p (k' := k') hv hA hc kk h s H r s' e2
    refine ⟨h', U', ?_, H'⟩
    unfold mo_pZ
    rw [if_pos hx]
    exact e3
  · cases e1
theorem gq_la {t : Nat} {K : Int32 → mo_M β} {k' : Int32 → gM β} {x : Int32} (hv : gV θ k w i) (hA : gA Gs U k w i = a) (hc : ∀ f n, gC θ Gs U k w i f n = .inl (t, n, .inl f)) (kk : ∀ x, gSim fx θ Gs U (K x) (k' x)) : gSim fx θ Gs U (mo_b (mo_la t a x) K) (gb (gl (pk k w i) x) k') := fun h s H r s' e => by
  subst hA
  obtain ⟨y, s1, e1, e2⟩ := gbE e
  unfold gl at e1
  split at e1
  · cases e1
  · rename_i hx
    cases e1
    obtain ⟨h', U', e3, H'⟩ := kk _ h s H r s' e2
    refine ⟨h', U', ?_, H'⟩
    rw [← e3]
    apply mo_b_run
    show ((mo_ar h _ t).bind fun q => if x < 0 ∨ q.1 ≤ x.toNatClampNeg then none else some (q.2 x.toNatClampNeg)).map (fun x => (x, h)) = _
    rw [mo_ar_of (by rw [(H.1 k w i hv).1, hc])]
    show (if x < 0 ∨ s.2.1 (pk k w i) ≤ x.toNatClampNeg then none else some (s.1 (pk k w i) x.toNatClampNeg)).map (fun x => (x, h)) = _
    rw [if_neg hx]
    rfl
theorem gq_sa {t : Nat} {K : Unit → mo_M β} {k' : Unit → gM β} {x y : Int32} (hv : gV θ k w i) (hA : gA Gs U k w i = a) (hc : ∀ f n, gC θ Gs U k w i f n = .inl (t, n, .inl f)) (kk : gSim fx θ Gs U (K ()) (k' ())) : gSim fx θ Gs U (mo_b (mo_sa t a x y) K) (gb (gsa (pk k w i) x y) k') := fun h s H r s' e => by
  subst hA
  obtain ⟨y', s1, e1, e2⟩ := gbE e
  unfold gsa at e1
  split at e1
  · cases e1
  · rename_i hx
    cases e1
    obtain ⟨h', U', e3, H'⟩ := kk _ _ (H.up hv (hc _ _).symm) r s' e2
    refine ⟨h', U', ?_, H'⟩
    rw [← e3]
    apply mo_b_run
    show ((mo_ar h _ t).bind fun q => if x < 0 ∨ q.1 ≤ x.toNatClampNeg then none else some (_, (Sum.inl (t, q.1, .inl (upd q.2 x.toNatClampNeg y)) : mo_E))).map (fun q => ((), mo_up h q.1 q.2)) = _
    rw [mo_ar_of (by rw [(H.1 k w i hv).1, hc])]
    show (if x < 0 ∨ s.2.1 (pk k w i) ≤ x.toNatClampNeg then none else some (gA Gs U k w i, (Sum.inl (t, s.2.1 (pk k w i), .inl (upd (s.1 (pk k w i)) x.toNatClampNeg y)) : mo_E))).map (fun q => ((), mo_up h q.1 q.2)) = _
    rw [if_neg hx]
    rfl
theorem gq_sz {K : Unit → mo_M β} {k' : Unit → gM β} {x y : Int32} (hv : gV θ k w i) (hA : gA Gs U k w i = a) (hc : ∀ f n, gC θ Gs U k w i f n = .inl (1, n, .inl f)) (kk : gSim fx θ Gs U (K ()) (k' ())) : gSim fx θ Gs U (mo_b (mo_sz a x y) K) (gb (gsz (pk k w i) x y) k') := fun h s H r s' e => by
  obtain ⟨y', s1, e1, e2⟩ := gbE e
  unfold gsz at e1
  split at e1
  · rename_i hx
    obtain ⟨h', U', e3, H'⟩ := gq_sa (k' := k') (t := 1) hv hA hc kk h s H r s' (by show gbf (gsa (pk k w i) x y s) k' = _; rw [e1]; exact e2)
    refine ⟨h', U', ?_, H'⟩
    unfold mo_sz
    rw [if_pos hx]
    exact e3
  · cases e1
theorem gq_lq {t N N' : Nat} {K : Nat → mo_M β} {k' : Nat → gM β} {x : Int32} {F : Nat → Option Nat} {B : Nat → Nat} (hv : gV θ k w i) (hA : gA Gs U k w i = a) (hc : ∀ f n, gC θ Gs U k w i f n = .inl (t, N, gRef F)) (hN : N' ≤ N) (hF : ∀ j, j < N' → F j = some (B j)) (kk : ∀ j, j < N' → gSim fx θ Gs U (K (B j)) (k' j)) : gSim fx θ Gs U (mo_b (mo_lq t a x) K) (gb (gx N' x) k') := fun h s H r s' e => by
  subst hA
  obtain ⟨y, s1, e1, e2⟩ := gbE e
  unfold gx at e1
  split at e1
  · cases e1
  · rename_i hx
    cases e1
    have hj : x.toNatClampNeg < N' := Nat.not_le.mp fun q => hx (Or.inr q)
    obtain ⟨h', U', e3, H'⟩ := kk _ hj h s H r s' e2
    refine ⟨h', U', ?_, H'⟩
    rw [← e3]
    apply mo_b_run
    show ((mo_ag h _ t).bind fun q => if x < 0 ∨ q.1 ≤ x.toNatClampNeg then none else q.2 x.toNatClampNeg).map (fun x => (x, h)) = _
    rw [mo_ag_of (f := F) (n := N) (by rw [(H.1 k w i hv).1, hc]; rfl)]
    show (if x < 0 ∨ N ≤ x.toNatClampNeg then none else F x.toNatClampNeg).map (fun x => (x, h)) = _
    rw [if_neg (fun q => q.elim (fun q => hx (Or.inl q)) (fun q => by omega)), hF _ hj]
    rfl
theorem gq_ln {t : Nat} {K : Int32 → mo_M β} {k' : Int32 → gM β} (hv : gV θ k w i) (hA : gA Gs U k w i = a) (hc : ∀ f n, gC θ Gs U k w i f n = .inl (t, n, .inl f)) (ht : t < 6) (kk : ∀ x, gSim fx θ Gs U (K x) (k' x)) : gSim fx θ Gs U (mo_b (mo_ln a) K) (gb (gln (pk k w i)) k') := fun h s H r s' e => by
  subst hA
  obtain ⟨h', U', e3, H'⟩ := kk _ h s H r s' e
  refine ⟨h', U', ?_, H'⟩
  rw [← e3]
  apply mo_b_run
  show (mo_ln0 h _).map (fun x => (x, h)) = _
  unfold mo_ln0
  rw [(H.1 k w i hv).1, hc]
  show (if t < 6 then some (Int32.ofNat (s.2.1 (pk k w i))) else none).map (fun x => (x, h)) = _
  rw [if_pos ht]
  rfl
theorem gq_cp {k2 w2 i2 a0 : Nat} {K : Unit → mo_M β} {k' : Unit → gM β} {sp dp n : Int32} (hv0 : gV θ k2 w2 i2) (hA0 : gA Gs U k2 w2 i2 = a0) (hc0 : ∀ f n, gC θ Gs U k2 w2 i2 f n = .inl (0, n, .inl f)) (hv : gV θ k w i) (hA : gA Gs U k w i = a) (hc : ∀ f n, gC θ Gs U k w i f n = .inl (0, n, .inl f)) (kk : gSim fx θ Gs U (K ()) (k' ())) : gSim fx θ Gs U (mo_b (mo_cp a0 sp a dp n) K) (gb (gcp (pk k2 w2 i2) sp (pk k w i) dp n) k') := fun h s H r s' e => by
  subst hA
  subst hA0
  obtain ⟨y', s1, e1, e2⟩ := gbE e
  unfold gcp at e1
  split at e1
  · cases e1
  · rename_i hx
    cases e1
    obtain ⟨h', U', e3, H'⟩ := kk _ _ (H.up hv (hc _ _).symm) r s' e2
    refine ⟨h', U', ?_, H'⟩
    rw [← e3]
    apply mo_b_run
    show ((mo_ar h _ 0).bind fun x => (mo_ar h _ 0).bind fun y => if sp < 0 ∨ dp < 0 ∨ n < 0 ∨ x.1 < sp.toNatClampNeg + n.toNatClampNeg ∨ y.1 < dp.toNatClampNeg + n.toNatClampNeg then none else some (_, (Sum.inl (0, y.1, .inl (va_cpy x.2 y.2 sp.toNatClampNeg dp.toNatClampNeg n.toNatClampNeg)) : mo_E))).map (fun q => ((), mo_up h q.1 q.2)) = _
    rw [mo_ar_of (by rw [(H.1 k2 w2 i2 hv0).1, hc0]), mo_ar_of (by rw [(H.1 k w i hv).1, hc])]
    show (if sp < 0 ∨ dp < 0 ∨ n < 0 ∨ s.2.1 (pk k2 w2 i2) < sp.toNatClampNeg + n.toNatClampNeg ∨ s.2.1 (pk k w i) < dp.toNatClampNeg + n.toNatClampNeg then none else some (gA Gs U k w i, (Sum.inl (0, s.2.1 (pk k w i), .inl (va_cpy (s.1 (pk k2 w2 i2)) (s.1 (pk k w i)) sp.toNatClampNeg dp.toNatClampNeg n.toNatClampNeg)) : mo_E))).map (fun q => ((), mo_up h q.1 q.2)) = _
    rw [if_neg hx]
    rfl
end GQ
theorem gv_plan {θ : gT} {k w i : Nat} (hv : gV θ k w i) : gV θ 1 0 0 := ⟨⟨rfl, rfl⟩, hv.2⟩
theorem gv_k0 {θ : gT} {k w i : Nat} (k' : Nat) (hk : gVc.getD k' 9 = 0) (hv : gV θ k w i) : gV θ k' 0 0 := ⟨by rw [hk]; exact ⟨rfl, rfl⟩, hv.2⟩
theorem gv_m0 {θ : gT} {k w i : Nat} (hv : gV θ k w i) : gV θ 15 0 0 := ⟨⟨Or.inl rfl, rfl⟩, hv.2⟩
theorem gv_link {θ : gT} {w i : Nat} (hv : gV θ 26 w i) : gV θ 4 0 i := ⟨⟨rfl, hv.1.2⟩, hv.2⟩
theorem gv_dom {θ : gT} {w i j : Nat} (hv : gV θ 16 w i) (hj : j < θ.1) : gV θ 19 w j := ⟨⟨hv.1.1, hj⟩, hv.2⟩
theorem gv_chan {θ : gT} {w i j : Nat} (hv : gV θ 17 w i) (hj : j < θ.2.1) : gV θ 26 w j := ⟨⟨hv.1.1, hj⟩, hv.2⟩
theorem gv_chan15 {θ : gT} {w i j : Nat} (hv : gV θ 15 w i) (hj : j < θ.2.1) : gV θ 26 w j := ⟨⟨hv.1.1, hj⟩, hv.2⟩
theorem gv_lnk {θ : gT} {k w i j : Nat} (hv : gV θ k w i) (hj : j < θ.2.1) : gV θ 4 0 j := ⟨⟨rfl, hj⟩, hv.2⟩
theorem gv_prog {θ : gT} {k w i j : Nat} (hv : gV θ k w i) (hj : j < θ.1) : gV θ 6 0 j := ⟨⟨rfl, hj⟩, hv.2⟩
theorem gv_sd {θ : gT} {k w i j : Nat} (hv : gV θ k w i) (hj : j < 3) : gV θ 10 0 j := ⟨⟨rfl, hj⟩, hv.2⟩
theorem gv_st {θ : gT} {k w i j : Nat} (hv : gV θ k w i) (hj : j < 3) : gV θ 13 0 j := ⟨⟨rfl, hj⟩, hv.2⟩
theorem gv_ar {θ : gT} {k w i j : Nat} (hv : gV θ k w i) (hj : j < 4) : gV θ 33 0 j := ⟨⟨rfl, hj⟩, hv.2⟩
theorem gv_pm {θ : gT} {w i : Nat} (hv : gV θ 35 w i) : gV θ 15 w 0 := ⟨⟨Or.inr hv.1.1, rfl⟩, hv.2⟩
theorem gv_p1 {θ : gT} {k w i : Nat} (hv : gV θ k w i) (h : θ.2.2.1 = true) : gV θ 35 1 0 := ⟨⟨Or.inl ⟨rfl, h⟩, rfl⟩, hv.2⟩
theorem gv_p2 {θ : gT} {k w i : Nat} (hv : gV θ k w i) (h : θ.2.2.2 = true) : gV θ 35 2 0 := ⟨⟨Or.inr ⟨rfl, h⟩, rfl⟩, hv.2⟩
def gRowK (k : Nat) : Prop := k = 6 ∨ k = 10 ∨ k = 13 ∨ k = 22 ∨ k = 24 ∨ k = 33
def gMsgK (k : Nat) : Prop := k = 27 ∨ k = 29
def gArK (k : Nat) : Prop := k = 20 ∨ k = 21 ∨ k = 31
def gBzK (k : Nat) : Prop := k = 94 ∨ k = 95
theorem gr_6 : gRowK 6 := Or.inl rfl
theorem gr_10 : gRowK 10 := Or.inr (Or.inl rfl)
theorem gr_13 : gRowK 13 := Or.inr (Or.inr (Or.inl rfl))
theorem gr_22 : gRowK 22 := Or.inr (Or.inr (Or.inr (Or.inl rfl)))
theorem gr_24 : gRowK 24 := Or.inr (Or.inr (Or.inr (Or.inr (Or.inl rfl))))
theorem gr_33 : gRowK 33 := Or.inr (Or.inr (Or.inr (Or.inr (Or.inr rfl))))
theorem gm_27 : gMsgK 27 := Or.inl rfl
theorem gm_29 : gMsgK 29 := Or.inr rfl
theorem ga_20 : gArK 20 := Or.inl rfl
theorem ga_21 : gArK 21 := Or.inr (Or.inl rfl)
theorem ga_31 : gArK 31 := Or.inr (Or.inr rfl)
theorem gz_94 : gBzK 94 := Or.inl rfl
theorem gz_95 : gBzK 95 := Or.inr rfl
section GK
variable {θ : gT} {Gs U : gK → Nat} {k w i : Nat} {f : Nat → Int32} {n : Nat}
theorem gC_row (h : gRowK k) : gC θ Gs U k w i f n = .inr (9, [.ref (U (pk (k + 1) w i)), .int (f 1)]) := by rcases h with rfl | rfl | rfl | rfl | rfl | rfl <;> rfl
theorem gA_row (h : gRowK k) : gA Gs U k w i = Gs (pk k w i) := by rcases h with rfl | rfl | rfl | rfl | rfl | rfl <;> rfl
theorem gC_rowI (h : gRowK k) : gC θ Gs U (k + 1) w i f n = .inl (0, n, .inl f) := by rcases h with rfl | rfl | rfl | rfl | rfl | rfl <;> rfl
theorem gA_rowI (h : gRowK k) : gA Gs U (k + 1) w i = U (pk (k + 1) w i) := by rcases h with rfl | rfl | rfl | rfl | rfl | rfl <;> rfl
theorem gV_rowI (h : gRowK k) (hv : gV θ k w i) : gV θ (k + 1) w i := by rcases h with rfl | rfl | rfl | rfl | rfl | rfl <;> exact hv
theorem gC_msg (h : gMsgK k) : gC θ Gs U k w i f n = .inr (6, [.ref (U (pk (k + 1) w i)), .int (f 1), .int (f 2)]) := by rcases h with rfl | rfl <;> rfl
theorem gA_msg (h : gMsgK k) : gA Gs U k w i = U (pk k w i) := by rcases h with rfl | rfl <;> rfl
theorem gC_msgR (h : gMsgK k) : gC θ Gs U (k + 1) w i f n = .inl (0, n, .inl f) := by rcases h with rfl | rfl <;> rfl
theorem gA_msgR (h : gMsgK k) : gA Gs U (k + 1) w i = U (pk (k + 1) w i) := by rcases h with rfl | rfl <;> rfl
theorem gV_msgR (h : gMsgK k) (hv : gV θ k w i) : gV θ (k + 1) w i := by rcases h with rfl | rfl <;> exact hv
theorem gC_arr (h : gArK k) : gC θ Gs U k w i f n = .inl (0, n, .inl f) := by rcases h with rfl | rfl | rfl <;> rfl
theorem gA_arr (h : gArK k) : gA Gs U k w i = Gs (pk k w i) := by rcases h with rfl | rfl | rfl <;> rfl
theorem gC_bz (h : gBzK k) : gC θ Gs U k w i f n = .inl (1, n, .inl f) := by rcases h with rfl | rfl <;> rfl
theorem gA_bz (h : gBzK k) : gA Gs U k w i = Gs (pk k w i) := by rcases h with rfl | rfl <;> rfl
end GK
