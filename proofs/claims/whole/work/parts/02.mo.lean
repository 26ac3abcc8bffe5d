/-! A HEAP BY A FUNCTION, AND PROGRAMS OVER IT: cells by their addresses, how many cells, how many slots; a program fails (none) or answers -/
abbrev mo_E : Type := (Nat × vp_A) ⊕ (Nat × List Value)
abbrev mo_H : Type := (Nat → Option mo_E) × Nat × Nat
def mo_up (h : mo_H) (a : Nat) (e : mo_E) : mo_H := (fun q => if q = a then some e else h.1 q, h.2.1, h.2.2)
def mo_nw (h : mo_H) (e : mo_E) (n : Nat) : mo_H := (fun q => if q = h.2.1 then some e else h.1 q, h.2.1 + 1, h.2.2 + n)
def mo_le (x y : mo_H) : Prop := x.2.1 ≤ y.2.1 ∧ x.2.2 ≤ y.2.2
theorem mo_le.rf (h : mo_H) : mo_le h h := ⟨Nat.le_refl _, Nat.le_refl _⟩
theorem mo_le.tr {x y z : mo_H} (a : mo_le x y) (b : mo_le y z) : mo_le x z := ⟨Nat.le_trans a.1 b.1, Nat.le_trans a.2 b.2⟩
abbrev mo_M (α : Type) : Type := { f : mo_H → Option (α × mo_H) // ∀ h r h', f h = some (r, h') → mo_le h h' }
def mo_ret {α : Type} (x : α) : mo_M α := ⟨fun h => some (x, h), fun h r h' e => by cases e; exact mo_le.rf _⟩
def mo_no {α : Type} : mo_M α := ⟨fun _ => none, fun h r h' e => by cases e⟩
def mo_bf {α β : Type} (x : Option (α × mo_H)) (k : α → mo_H → Option (β × mo_H)) : Option (β × mo_H) := match x with
  | none => none
  | some q => k q.1 q.2
def mo_b {α β : Type} (x : mo_M α) (k : α → mo_M β) : mo_M β := ⟨fun h => mo_bf (x.1 h) (fun a h1 => (k a).1 h1), by
  intro h r h' e
  have e2 : mo_bf (x.1 h) (fun a h1 => (k a).1 h1) = some (r, h') := e
  cases hx : x.1 h with
  | none => rw [hx] at e2; cases e2
  | some q =>
    rw [hx] at e2
    exact (x.2 h q.1 q.2 hx).tr ((k q.1).2 q.2 r h' e2)⟩
theorem mo_bE {α β : Type} {x : mo_M α} {k : α → mo_M β} {h : mo_H} {z : β × mo_H} (e : (mo_b x k).1 h = some z) : ∃ (a : α) (h1 : mo_H), x.1 h = some (a, h1) ∧ (k a).1 h1 = some z := by
  cases hx : x.1 h with
  | none =>
    have e2 : mo_bf (x.1 h) (fun a h1 => (k a).1 h1) = some z := e
    rw [hx] at e2; cases e2
  | some q =>
    have e2 : mo_bf (x.1 h) (fun a h1 => (k a).1 h1) = some z := e
    rw [hx] at e2
    exact ⟨q.1, q.2, rfl, e2⟩
theorem mo_b_run {α β : Type} {x : mo_M α} {k : α → mo_M β} {h h1 : mo_H} {a : α} (e : x.1 h = some (a, h1)) : (mo_b x k).1 h = (k a).1 h1 := by
  show mo_bf (x.1 h) (fun a h1 => (k a).1 h1) = _
  rw [e]; rfl
theorem mo_ret_b {α β : Type} (x : α) (k : α → mo_M β) (h : mo_H) : (mo_b (mo_ret x) k).1 h = (k x).1 h := rfl
theorem mo_ifT {α : Type} {c : Prop} [Decidable c] {a b : mo_M α} {h : mo_H} {z : Option (α × mo_H)} (hc : c) (e : (if c then a else b).1 h = z) : a.1 h = z := by rw [if_pos hc] at e; exact e
theorem mo_ifF {α : Type} {c : Prop} [Decidable c] {a b : mo_M α} {h : mo_H} {z : Option (α × mo_H)} (hc : ¬ c) (e : (if c then a else b).1 h = z) : b.1 h = z := by rw [if_neg hc] at e; exact e
def mo_mO {β : Type} (r : Option Nat) (A : mo_M β) (B : Nat → mo_M β) : mo_M β := match r with
  | none => A
  | some a => B a
def mo_rd {α : Type} (g : mo_H → Option α) : mo_M α := ⟨fun h => (g h).map (fun x => (x, h)), by
  intro h r h' e
  have e2 : (g h).map (fun x => (x, h)) = some (r, h') := e
  cases hg : g h with
  | none => rw [hg] at e2; cases e2
  | some q => rw [hg] at e2; cases e2; exact mo_le.rf _⟩
def mo_wr (g : mo_H → Option (Nat × mo_E)) : mo_M Unit := ⟨fun h => (g h).map (fun q => ((), mo_up h q.1 q.2)), by
  intro h r h' e
  have e2 : (g h).map (fun q => ((), mo_up h q.1 q.2)) = some (r, h') := e
  cases hg : g h with
  | none => rw [hg] at e2; cases e2
  | some q => rw [hg] at e2; cases e2; exact mo_le.rf _⟩
def mo_al (e : mo_E) (n : Nat) : mo_M Nat := ⟨fun h => some (h.2.1, mo_nw h e n), by
  intro h r h' e
  cases e
  exact ⟨Nat.le_succ _, Nat.le_add_right _ _⟩⟩
theorem mo_rdE {α β : Type} {g : mo_H → Option α} {k : α → mo_M β} {h : mo_H} {z : β × mo_H} (e : (mo_b (mo_rd g) k).1 h = some z) : ∃ a, g h = some a ∧ (k a).1 h = some z := by
  obtain ⟨a, h1, e1, e2⟩ := mo_bE e
  cases hg : g h with
  | none =>
    have e3 : (g h).map (fun x => (x, h)) = some (a, h1) := e1
    rw [hg] at e3; cases e3
  | some q =>
    have e3 : (g h).map (fun x => (x, h)) = some (a, h1) := e1
    rw [hg] at e3; cases e3
    exact ⟨_, rfl, e2⟩
theorem mo_wrE {β : Type} {g : mo_H → Option (Nat × mo_E)} {k : Unit → mo_M β} {h : mo_H} {z : β × mo_H} (e : (mo_b (mo_wr g) k).1 h = some z) : ∃ a c, g h = some (a, c) ∧ (k ()).1 (mo_up h a c) = some z := by
  obtain ⟨a, h1, e1, e2⟩ := mo_bE e
  cases hg : g h with
  | none =>
    have e3 : (g h).map (fun q => ((), mo_up h q.1 q.2)) = some (a, h1) := e1
    rw [hg] at e3; cases e3
  | some q =>
    have e3 : (g h).map (fun q => ((), mo_up h q.1 q.2)) = some (a, h1) := e1
    rw [hg] at e3; cases e3
    exact ⟨q.1, q.2, rfl, e2⟩
def mo_fs (h : mo_H) (a ci : Nat) : Option (List Value) := match h.1 a with
  | some (.inr (c, fs)) => if c = ci then some fs else none
  | _ => none
theorem mo_fsE {h : mo_H} {a ci : Nat} {fs : List Value} (e : mo_fs h a ci = some fs) : h.1 a = some (.inr (ci, fs)) := by
  unfold mo_fs at e
  split at e
  · rename_i c fs' hq
    split at e
    · rename_i hc
      cases e
      rw [hq, hc]
    · cases e
  · cases e
theorem mo_fs_of {h : mo_H} {a ci : Nat} {fs : List Value} (e : h.1 a = some (.inr (ci, fs))) : mo_fs h a ci = some fs := by
  unfold mo_fs
  rw [e]
  simp
def mo_vI : Option Value → Option Int32
  | some (.int x) => some x
  | _ => none
def mo_vR : Option Value → Option Nat
  | some (.ref a) => some a
  | _ => none
def mo_vO : Option Value → Option (Option Nat)
  | some (.ref a) => some (some a)
  | some .null => some none
  | _ => none
theorem mo_vIE {v : Option Value} {x : Int32} (e : mo_vI v = some x) : v = some (.int x) := by
  unfold mo_vI at e; split at e
  · cases e; rfl
  · cases e
theorem mo_vRE {v : Option Value} {x : Nat} (e : mo_vR v = some x) : v = some (.ref x) := by
  unfold mo_vR at e; split at e
  · cases e; rfl
  · cases e
theorem mo_vOE {v : Option Value} {x : Option Nat} (e : mo_vO v = some x) : v = some (va_rf x) := by
  unfold mo_vO at e; split at e
  · cases e; rfl
  · cases e; rfl
  · cases e
def mo_gI (a ci k : Nat) : mo_M Int32 := mo_rd fun h => (mo_fs h a ci).bind fun fs => mo_vI fs[k]?
def mo_gR (a ci k : Nat) : mo_M Nat := mo_rd fun h => (mo_fs h a ci).bind fun fs => mo_vR fs[k]?
def mo_gO (a ci k : Nat) : mo_M (Option Nat) := mo_rd fun h => (mo_fs h a ci).bind fun fs => mo_vO fs[k]?
def mo_ck (a ci : Nat) : mo_M Unit := mo_rd fun h => (mo_fs h a ci).bind fun _ => some ()
def mo_pV (a ci k : Nat) (v : Value) : mo_M Unit := mo_wr fun h => (mo_fs h a ci).bind fun fs => if k < fs.length then some (a, .inr (ci, fs.set k v)) else none
def mo_bo (x : Int32) : Prop := x = 0 ∨ x = 1
def mo_pZ (a ci k : Nat) (x : Int32) : mo_M Unit := if x = 0 ∨ x = 1 then mo_pV a ci k (.int x) else mo_no
def mo_rz (x : Int32) : mo_M Int32 := if x = 0 ∨ x = 1 then mo_ret x else mo_no
def mo_ar (h : mo_H) (a t : Nat) : Option (Nat × (Nat → Int32)) := match h.1 a with
  | some (.inl (u, n, .inl f)) => if u = t then some (n, f) else none
  | _ => none
def mo_ag (h : mo_H) (a t : Nat) : Option (Nat × (Nat → Option Nat)) := match h.1 a with
  | some (.inl (u, n, .inr (.inr (.inr (.inr f))))) => if u = t then some (n, f) else none
  | _ => none
theorem mo_arE {h : mo_H} {a t : Nat} {q : Nat × (Nat → Int32)} (e : mo_ar h a t = some q) : h.1 a = some (.inl (t, q.1, .inl q.2)) := by
  unfold mo_ar at e
  split at e
  · rename_i u n f hq
    split at e
    · rename_i hc
      cases e
      rw [hq, hc]
    · cases e
  · cases e
theorem mo_agE {h : mo_H} {a t : Nat} {q : Nat × (Nat → Option Nat)} (e : mo_ag h a t = some q) : h.1 a = some (.inl (t, q.1, .inr (.inr (.inr (.inr q.2))))) := by
  unfold mo_ag at e
  split at e
  · rename_i u n f hq
    split at e
    · rename_i hc
      cases e
      rw [hq, hc]
    · cases e
  · cases e
theorem mo_ar_of {h : mo_H} {a t n : Nat} {f : Nat → Int32} (e : h.1 a = some (.inl (t, n, .inl f))) : mo_ar h a t = some (n, f) := by
  unfold mo_ar; rw [e]; simp
theorem mo_ag_of {h : mo_H} {a t n : Nat} {f : Nat → Option Nat} (e : h.1 a = some (.inl (t, n, .inr (.inr (.inr (.inr f)))))) : mo_ag h a t = some (n, f) := by
  unfold mo_ag; rw [e]; simp
def mo_la (t a : Nat) (i : Int32) : mo_M Int32 := mo_rd fun h => (mo_ar h a t).bind fun q => if i < 0 ∨ q.1 ≤ i.toNatClampNeg then none else some (q.2 i.toNatClampNeg)
def mo_sa (t a : Nat) (i x : Int32) : mo_M Unit := mo_wr fun h => (mo_ar h a t).bind fun q => if i < 0 ∨ q.1 ≤ i.toNatClampNeg then none else some (a, .inl (t, q.1, .inl (upd q.2 i.toNatClampNeg x)))
def mo_sz (a : Nat) (i x : Int32) : mo_M Unit := if x = 0 ∨ x = 1 then mo_sa 1 a i x else mo_no
def mo_lq (t a : Nat) (i : Int32) : mo_M Nat := mo_rd fun h => (mo_ag h a t).bind fun q => if i < 0 ∨ q.1 ≤ i.toNatClampNeg then none else q.2 i.toNatClampNeg
def mo_sq (t ci a : Nat) (i : Int32) (v : Nat) : mo_M Unit := mo_wr fun h => (mo_fs h v ci).bind fun _ => (mo_ag h a t).bind fun q => if i < 0 ∨ q.1 ≤ i.toNatClampNeg then none else some (a, .inl (t, q.1, .inr (.inr (.inr (.inr (va_up q.2 i.toNatClampNeg (some v)))))))
def mo_ln0 (h : mo_H) (a : Nat) : Option Int32 := match h.1 a with
  | some (.inl (t, n, _)) => if t < 6 then some (Int32.ofNat n) else none
  | _ => none
def mo_ln (a : Nat) : mo_M Int32 := mo_rd fun h => mo_ln0 h a
def mo_na (t : Nat) (n : Int32) : mo_M Nat := if n < 0 ∨ 1000000 < n.toNatClampNeg then mo_no else mo_al (.inl (t, n.toNatClampNeg, .inl (fun _ => 0))) n.toNatClampNeg
def mo_nq (t : Nat) (n : Int32) : mo_M Nat := if n < 0 ∨ 1000000 < n.toNatClampNeg then mo_no else mo_al (.inl (t, n.toNatClampNeg, .inr (.inr (.inr (.inr (fun _ => none)))))) n.toNatClampNeg
def mo_nc (ci : Nat) (fs : List Value) : mo_M Nat := mo_al (.inr (ci, fs)) fs.length
def mo_cp (a0 : Nat) (sp : Int32) (a : Nat) (dp n : Int32) : mo_M Unit := mo_wr fun h => (mo_ar h a0 0).bind fun x => (mo_ar h a 0).bind fun y =>
  if sp < 0 ∨ dp < 0 ∨ n < 0 ∨ x.1 < sp.toNatClampNeg + n.toNatClampNeg ∨ y.1 < dp.toNatClampNeg + n.toNatClampNeg then none else some (a, .inl (0, y.1, .inl (va_cpy x.2 y.2 sp.toNatClampNeg dp.toNatClampNeg n.toNatClampNeg)))
def mo_sl (L : Nat) (xs : Nat → Int32) (i : Int32) : mo_M Int32 := mo_rd fun _ => if i < 0 ∨ L ≤ i.toNatClampNeg then none else some (xs i.toNatClampNeg)
/-- fuel of loops -/
def mo_fu : Nat := 1000000
theorem mo_bind {α β : Type} {x : Option α} {k : α → Option β} {y : β} (e : x.bind k = some y) : ∃ a, x = some a ∧ k a = some y := by
  cases x with
  | none => cases e
  | some a => exact ⟨a, rfl, e⟩
theorem mo_gIE {β : Type} {a ci k : Nat} {K : Int32 → mo_M β} {h : mo_H} {z : β × mo_H} (e : (mo_b (mo_gI a ci k) K).1 h = some z) : ∃ fs x, h.1 a = some (.inr (ci, fs)) ∧ fs[k]? = some (.int x) ∧ (K x).1 h = some z := by
  obtain ⟨x, e1, e2⟩ := mo_rdE e
  obtain ⟨fs, e3, e4⟩ := mo_bind e1
  exact ⟨fs, x, mo_fsE e3, mo_vIE e4, e2⟩
theorem mo_gRE {β : Type} {a ci k : Nat} {K : Nat → mo_M β} {h : mo_H} {z : β × mo_H} (e : (mo_b (mo_gR a ci k) K).1 h = some z) : ∃ fs x, h.1 a = some (.inr (ci, fs)) ∧ fs[k]? = some (.ref x) ∧ (K x).1 h = some z := by
  obtain ⟨x, e1, e2⟩ := mo_rdE e
  obtain ⟨fs, e3, e4⟩ := mo_bind e1
  exact ⟨fs, x, mo_fsE e3, mo_vRE e4, e2⟩
theorem mo_gOE {β : Type} {a ci k : Nat} {K : Option Nat → mo_M β} {h : mo_H} {z : β × mo_H} (e : (mo_b (mo_gO a ci k) K).1 h = some z) : ∃ fs x, h.1 a = some (.inr (ci, fs)) ∧ fs[k]? = some (va_rf x) ∧ (K x).1 h = some z := by
  obtain ⟨x, e1, e2⟩ := mo_rdE e
  obtain ⟨fs, e3, e4⟩ := mo_bind e1
  exact ⟨fs, x, mo_fsE e3, mo_vOE e4, e2⟩
theorem mo_ckE {β : Type} {a ci : Nat} {K : Unit → mo_M β} {h : mo_H} {z : β × mo_H} (e : (mo_b (mo_ck a ci) K).1 h = some z) : (∃ fs, h.1 a = some (.inr (ci, fs))) ∧ (K ()).1 h = some z := by
  obtain ⟨x, e1, e2⟩ := mo_rdE e
  obtain ⟨fs, e3, e4⟩ := mo_bind e1
  exact ⟨⟨fs, mo_fsE e3⟩, e2⟩
theorem mo_pVE {β : Type} {a ci k : Nat} {v : Value} {K : Unit → mo_M β} {h : mo_H} {z : β × mo_H} (e : (mo_b (mo_pV a ci k v) K).1 h = some z) : ∃ fs, h.1 a = some (.inr (ci, fs)) ∧ k < fs.length ∧ (K ()).1 (mo_up h a (.inr (ci, fs.set k v))) = some z := by
  obtain ⟨x, y, e1, e2⟩ := mo_wrE e
  obtain ⟨fs, e3, e4⟩ := mo_bind e1
  split at e4
  · rename_i hk
    cases e4
    exact ⟨fs, mo_fsE e3, hk, e2⟩
  · cases e4
theorem mo_noE {α β : Type} {K : α → mo_M β} {h : mo_H} {z : β × mo_H} (e : (mo_b mo_no K).1 h = some z) : False := by
  obtain ⟨x, y, e1, e2⟩ := mo_bE e
  cases e1
theorem mo_pZE {β : Type} {a ci k : Nat} {v : Int32} {K : Unit → mo_M β} {h : mo_H} {z : β × mo_H} (e : (mo_b (mo_pZ a ci k v) K).1 h = some z) : (v = 0 ∨ v = 1) ∧ (mo_b (mo_pV a ci k (.int v)) K).1 h = some z := by
  unfold mo_pZ at e
  split at e
  · rename_i hv
    exact ⟨hv, e⟩
  · exact absurd (mo_noE e) id
theorem mo_laE {β : Type} {t a : Nat} {i : Int32} {K : Int32 → mo_M β} {h : mo_H} {z : β × mo_H} (e : (mo_b (mo_la t a i) K).1 h = some z) : ∃ n f, h.1 a = some (.inl (t, n, .inl f)) ∧ vp_in i n ∧ (K (f i.toNatClampNeg)).1 h = some z := by
  obtain ⟨x, e1, e2⟩ := mo_rdE e
  obtain ⟨q, e3, e4⟩ := mo_bind e1
  split at e4
  · cases e4
  · rename_i hi
    cases e4
    exact ⟨q.1, q.2, mo_arE e3, hi, e2⟩
theorem mo_saE {β : Type} {t a : Nat} {i x : Int32} {K : Unit → mo_M β} {h : mo_H} {z : β × mo_H} (e : (mo_b (mo_sa t a i x) K).1 h = some z) : ∃ n f, h.1 a = some (.inl (t, n, .inl f)) ∧ vp_in i n ∧ (K ()).1 (mo_up h a (.inl (t, n, .inl (upd f i.toNatClampNeg x)))) = some z := by
  obtain ⟨x, y, e1, e2⟩ := mo_wrE e
  obtain ⟨q, e3, e4⟩ := mo_bind e1
  split at e4
  · cases e4
  · rename_i hi
    cases e4
    exact ⟨q.1, q.2, mo_arE e3, hi, e2⟩
theorem mo_szE {β : Type} {a : Nat} {i x : Int32} {K : Unit → mo_M β} {h : mo_H} {z : β × mo_H} (e : (mo_b (mo_sz a i x) K).1 h = some z) : (x = 0 ∨ x = 1) ∧ (mo_b (mo_sa 1 a i x) K).1 h = some z := by
  unfold mo_sz at e
  split at e
  · rename_i hv
    exact ⟨hv, e⟩
  · exact absurd (mo_noE e) id
theorem mo_lqE {β : Type} {t a : Nat} {i : Int32} {K : Nat → mo_M β} {h : mo_H} {z : β × mo_H} (e : (mo_b (mo_lq t a i) K).1 h = some z) : ∃ n f x, h.1 a = some (.inl (t, n, .inr (.inr (.inr (.inr f))))) ∧ vp_in i n ∧ f i.toNatClampNeg = some x ∧ (K x).1 h = some z := by
  obtain ⟨x, e1, e2⟩ := mo_rdE e
  obtain ⟨q, e3, e4⟩ := mo_bind e1
  split at e4
  · cases e4
  · rename_i hi
    exact ⟨q.1, q.2, x, mo_agE e3, hi, e4, e2⟩
theorem mo_sqE {β : Type} {t ci a v : Nat} {i : Int32} {K : Unit → mo_M β} {h : mo_H} {z : β × mo_H} (e : (mo_b (mo_sq t ci a i v) K).1 h = some z) : ∃ vs n f, h.1 v = some (.inr (ci, vs)) ∧ h.1 a = some (.inl (t, n, .inr (.inr (.inr (.inr f))))) ∧ vp_in i n ∧ (K ()).1 (mo_up h a (.inl (t, n, .inr (.inr (.inr (.inr (va_up f i.toNatClampNeg (some v)))))))) = some z := by
  obtain ⟨x, y, e1, e2⟩ := mo_wrE e
  obtain ⟨vs, e5, e6⟩ := mo_bind e1
  obtain ⟨q, e3, e4⟩ := mo_bind e6
  split at e4
  · cases e4
  · rename_i hi
    cases e4
    exact ⟨vs, q.1, q.2, mo_fsE e5, mo_agE e3, hi, e2⟩
theorem mo_lnE {β : Type} {a : Nat} {K : Int32 → mo_M β} {h : mo_H} {z : β × mo_H} (e : (mo_b (mo_ln a) K).1 h = some z) : ∃ t x, h.1 a = some (.inl (t, x)) ∧ t < 6 ∧ (K (Int32.ofNat x.1)).1 h = some z := by
  obtain ⟨x, e1, e2⟩ := mo_rdE e
  unfold mo_ln0 at e1
  split at e1
  · rename_i t n f hq
    split at e1
    · rename_i ht
      cases e1
      exact ⟨t, (n, f), hq, ht, e2⟩
    · cases e1
  · cases e1
theorem mo_alE {β : Type} {c : mo_E} {n : Nat} {K : Nat → mo_M β} {h : mo_H} {z : β × mo_H} (e : (mo_b (mo_al c n) K).1 h = some z) : (K h.2.1).1 (mo_nw h c n) = some z := e
theorem mo_naE {β : Type} {t : Nat} {n : Int32} {K : Nat → mo_M β} {h : mo_H} {z : β × mo_H} (e : (mo_b (mo_na t n) K).1 h = some z) : ¬ n < 0 ∧ n.toNatClampNeg ≤ 1000000 ∧ (K h.2.1).1 (mo_nw h (.inl (t, n.toNatClampNeg, .inl (fun _ => 0))) n.toNatClampNeg) = some z := by
  unfold mo_na at e
  split at e
  · exact absurd (mo_noE e) id
  · rename_i hn
    exact ⟨fun h => hn (Or.inl h), Nat.not_lt.mp fun h => hn (Or.inr h), mo_alE e⟩
theorem mo_nqE {β : Type} {t : Nat} {n : Int32} {K : Nat → mo_M β} {h : mo_H} {z : β × mo_H} (e : (mo_b (mo_nq t n) K).1 h = some z) : ¬ n < 0 ∧ n.toNatClampNeg ≤ 1000000 ∧ (K h.2.1).1 (mo_nw h (.inl (t, n.toNatClampNeg, .inr (.inr (.inr (.inr (fun _ => none)))))) n.toNatClampNeg) = some z := by
  unfold mo_nq at e
  split at e
  · exact absurd (mo_noE e) id
  · rename_i hn
    exact ⟨fun h => hn (Or.inl h), Nat.not_lt.mp fun h => hn (Or.inr h), mo_alE e⟩
theorem mo_cpE {β : Type} {a0 a : Nat} {sp dp n : Int32} {K : Unit → mo_M β} {h : mo_H} {z : β × mo_H} (e : (mo_b (mo_cp a0 sp a dp n) K).1 h = some z) : ∃ n0 f n1 g, h.1 a0 = some (.inl (0, n0, .inl f)) ∧ h.1 a = some (.inl (0, n1, .inl g)) ∧ ¬ sp < 0 ∧ ¬ dp < 0 ∧ ¬ n < 0 ∧ sp.toNatClampNeg + n.toNatClampNeg ≤ n0 ∧ dp.toNatClampNeg + n.toNatClampNeg ≤ n1 ∧ (K ()).1 (mo_up h a (.inl (0, n1, .inl (va_cpy f g sp.toNatClampNeg dp.toNatClampNeg n.toNatClampNeg)))) = some z := by
  obtain ⟨x, y, e1, e2⟩ := mo_wrE e
  obtain ⟨u, e5, e6⟩ := mo_bind e1
  obtain ⟨q, e3, e4⟩ := mo_bind e6
  split at e4
  · cases e4
  · rename_i hi
    cases e4
    refine ⟨u.1, u.2, q.1, q.2, mo_arE e5, mo_arE e3, fun h => hi (Or.inl h), fun h => hi (Or.inr (Or.inl h)), fun h => hi (Or.inr (Or.inr (Or.inl h))), Nat.not_lt.mp fun h => hi (Or.inr (Or.inr (Or.inr (Or.inl h)))), Nat.not_lt.mp fun h => hi (Or.inr (Or.inr (Or.inr (Or.inr h)))), e2⟩
theorem mo_rzE {x z : Int32} {h h2 : mo_H} (e : (mo_rz x).1 h = some (z, h2)) : (x = 0 ∨ x = 1) ∧ x = z ∧ h = h2 := by
  unfold mo_rz at e
  split at e
  · rename_i hv
    cases e
    exact ⟨hv, rfl, rfl⟩
  · cases e
theorem mo_retE {α : Type} {x z : α} {h h2 : mo_H} (e : (mo_ret x).1 h = some (z, h2)) : x = z ∧ h = h2 := by cases e; exact ⟨rfl, rfl⟩
theorem mo_slE {β : Type} {L : Nat} {xs : Nat → Int32} {i : Int32} {K : Int32 → mo_M β} {h : mo_H} {z : β × mo_H} (e : (mo_b (mo_sl L xs i) K).1 h = some z) : vp_in i L ∧ (K (xs i.toNatClampNeg)).1 h = some z := by
  obtain ⟨x, e1, e2⟩ := mo_rdE e
  split at e1
  · cases e1
  · rename_i hi
    cases e1
    exact ⟨hi, e2⟩
