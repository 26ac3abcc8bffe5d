/-! NEW CELLS: programs over the function heap that make them -/
def fh {α : Type} (f : mo_M α) (h : mo_H) (Q : α → mo_H → Prop) : Prop := ∃ r h', f.1 h = some (r, h') ∧ Q r h'
def aI (n : Nat) (t : Nat) : mo_E := .inl (t, n, .inl (fun _ => 0))
section FH
variable {α β : Type} {h h1 : mo_H} {Q : β → mo_H → Prop} {a ci fi : Nat} {fs : List Value}
theorem f_e {f g : mo_M β} (e : f.1 h = g.1 h1) (k : fh g h1 Q) : fh f h Q := by
  obtain ⟨r, h', e2, q⟩ := k
  exact ⟨r, h', e.trans e2, q⟩
theorem f_r {x : β} (k : Q x h) : fh (mo_ret x) h Q := ⟨x, h, rfl, k⟩
theorem f_b {x : mo_M α} {K : α → mo_M β} {a : α} (e : x.1 h = some (a, h1)) (k : fh (K a) h1 Q) : fh (mo_b x K) h Q := f_e (mo_b_run e) k
theorem f_c {x : mo_M α} {K : α → mo_M β} {Q1 : α → mo_H → Prop} (e : fh x h Q1) (k : ∀ r h1, Q1 r h1 → fh (K r) h1 Q) : fh (mo_b x K) h Q := by
  obtain ⟨r, h1, e1, q⟩ := e
  exact f_b e1 (k r h1 q)
theorem f_T {c : Prop} [Decidable c] {f g : mo_M β} (hc : c) (k : fh f h Q) : fh (if c then f else g) h Q := by rw [if_pos hc]; exact k
theorem f_F {c : Prop} [Decidable c] {f g : mo_M β} (hc : ¬ c) (k : fh g h Q) : fh (if c then f else g) h Q := by rw [if_neg hc]; exact k
theorem f_gI {K : Int32 → mo_M β} {x : Int32} (e : h.1 a = some (.inr (ci, fs))) (e2 : fs[fi]? = some (.int x)) (k : fh (K x) h Q) : fh (mo_b (mo_gI a ci fi) K) h Q := f_e (rn_gI e e2) k
theorem f_gR {K : Nat → mo_M β} {x : Nat} (e : h.1 a = some (.inr (ci, fs))) (e2 : fs[fi]? = some (.ref x)) (k : fh (K x) h Q) : fh (mo_b (mo_gR a ci fi) K) h Q := f_e (rn_gR e e2) k
theorem f_gO {K : Option Nat → mo_M β} {x : Option Nat} (e : h.1 a = some (.inr (ci, fs))) (e2 : fs[fi]? = some (va_rf x)) (k : fh (K x) h Q) : fh (mo_b (mo_gO a ci fi) K) h Q := f_e (rn_gO e e2) k
theorem f_ck {K : Unit → mo_M β} (e : h.1 a = some (.inr (ci, fs))) (k : fh (K ()) h Q) : fh (mo_b (mo_ck a ci) K) h Q := f_e (rn_ck e) k
theorem f_pV {K : Unit → mo_M β} {v : Value} (e : h.1 a = some (.inr (ci, fs))) (e2 : fi < fs.length) (k : ∀ h', h'.2 = h.2 → h'.1 a = some (.inr (ci, fs.set fi v)) → (∀ q, q ≠ a → h'.1 q = h.1 q) → fh (K ()) h' Q) : fh (mo_b (mo_pV a ci fi v) K) h Q := f_e (rn_pV e e2) (k _ rfl up_s (fun _ hq => up_n hq))
theorem f_pZ {K : Unit → mo_M β} {x : Int32} (hx : x = 0 ∨ x = 1) (e : h.1 a = some (.inr (ci, fs))) (e2 : fi < fs.length) (k : ∀ h', h'.2 = h.2 → h'.1 a = some (.inr (ci, fs.set fi (.int x))) → (∀ q, q ≠ a → h'.1 q = h.1 q) → fh (K ()) h' Q) : fh (mo_b (mo_pZ a ci fi x) K) h Q := f_e (rn_pZ hx e e2) (k _ rfl up_s (fun _ hq => up_n hq))
theorem f_na {K : Nat → mo_M β} {t m : Nat} {n : Int32} (en : n = nI m) (hm : m ≤ 1000000) (k : ∀ h', h'.2 = (h.2.1 + 1, h.2.2 + m) → h'.1 h.2.1 = some (aI m t) → (∀ q, q < h.2.1 → h'.1 q = h.1 q) → fh (K h.2.1) h' Q) : fh (mo_b (mo_na t n) K) h Q := by
  subst en
  have e := nI_clamp (n := m) (by omega)
  refine f_e (rn_na (by rw [e]; rintro (q | q); exact nI_pos (by omega) q; omega)) ?_
  rw [e]
  exact k _ rfl nw_s (fun q hq => nw_n hq)
theorem f_nq {K : Nat → mo_M β} {t m : Nat} {n : Int32} (en : n = nI m) (hm : m ≤ 1000000) (k : ∀ h', h'.2 = (h.2.1 + 1, h.2.2 + m) → h'.1 h.2.1 = some (.inl (t, m, gRef (fun _ => none))) → (∀ q, q < h.2.1 → h'.1 q = h.1 q) → fh (K h.2.1) h' Q) : fh (mo_b (mo_nq t n) K) h Q := by
  subst en
  have e := nI_clamp (n := m) (by omega)
  refine f_e (rn_nq (by rw [e]; rintro (q | q); exact nI_pos (by omega) q; omega)) ?_
  rw [e]
  exact k _ rfl nw_s (fun q hq => nw_n hq)
theorem f_nc {K : Nat → mo_M β} (k : ∀ h', h'.2 = (h.2.1 + 1, h.2.2 + fs.length) → h'.1 h.2.1 = some (.inr (ci, fs)) → (∀ q, q < h.2.1 → h'.1 q = h.1 q) → fh (K h.2.1) h' Q) : fh (mo_b (mo_nc ci fs) K) h Q := f_e rn_nc (k _ rfl nw_s (fun q hq => nw_n hq))
theorem f_sq {K : Unit → mo_M β} {t n v j : Nat} {vs : List Value} {F : Nat → Option Nat} {x : Int32} (ev : h.1 v = some (.inr (ci, vs))) (e : h.1 a = some (.inl (t, n, gRef F))) (ex : x = nI j) (hj : j < n) (hn : n < 2 ^ 31) (k : ∀ h', h'.2 = h.2 → h'.1 a = some (.inl (t, n, gRef (va_up F j (some v)))) → (∀ q, q ≠ a → h'.1 q = h.1 q) → fh (K ()) h' Q) : fh (mo_b (mo_sq t ci a x v) K) h Q := by
  subst ex
  have e1 := nI_clamp (n := j) (by omega)
  refine f_e (rn_sq ev e (by rw [e1]; rintro (q | q); exact nI_pos (by omega) q; omega)) ?_
  rw [e1]
  exact k _ rfl up_s (fun _ hq => up_n hq)
theorem f_sa {K : Unit → mo_M β} {t n j : Nat} {f : Nat → Int32} {x y : Int32} (e : h.1 a = some (.inl (t, n, .inl f))) (ex : x = nI j) (hj : j < n) (hn : n < 2 ^ 31) (k : ∀ h', h'.2 = h.2 → h'.1 a = some (.inl (t, n, .inl (upd f j y))) → (∀ q, q ≠ a → h'.1 q = h.1 q) → fh (K ()) h' Q) : fh (mo_b (mo_sa t a x y) K) h Q := by
  subst ex
  have e1 := nI_clamp (n := j) (by omega)
  refine f_e (rn_sa e (by rw [e1]; rintro (q | q); exact nI_pos (by omega) q; omega)) ?_
  rw [e1]
  exact k _ rfl up_s (fun _ hq => up_n hq)
theorem f_lq {K : Nat → mo_M β} {t n b j : Nat} {F : Nat → Option Nat} {x : Int32} (e : h.1 a = some (.inl (t, n, gRef F))) (ex : x = nI j) (hj : j < n) (hn : n < 2 ^ 31) (hF : F j = some b) (k : fh (K b) h Q) : fh (mo_b (mo_lq t a x) K) h Q := by
  subst ex
  have e1 := nI_clamp (n := j) (by omega)
  exact f_e (rn_lq e (by rw [e1]; rintro (q | q); exact nI_pos (by omega) q; omega) (by rw [e1]; exact hF)) k
end FH
/-- a new row: its cell, then its array -/
def RwF (h : mo_H) (a m : Nat) : Prop := h.1 a = some (.inr (9, [.ref (a + 1), .int 0])) ∧ h.1 (a + 1) = some (aI m 0)
section RW
variable {β : Type} {h : mo_H} {Q : β → mo_H → Prop}
/-- n cells more, the old ones as they were -/
def nx (k m : Nat) (h h' : mo_H) : Prop := h'.2 = (h.2.1 + k, h.2.2 + m) ∧ ∀ q, q < h.2.1 → h'.1 q = h.1 q
theorem f_row {K : Nat → mo_M β} {m : Nat} {x : Int32} (ex : x = nI m) (hm : m ≤ 1000000) (hm1 : 1 ≤ m) (k : ∀ h', nx 2 (2 + m) h h' → RwF h' h.2.1 m → fh (K h.2.1) h' Q) : fh (mo_b (mo_nc 9 dfX9) fun v => mo_b (F_X9_init v x) fun _ => K v) h Q := by
  refine f_nc (fun h1 a1 a2 a3 => ?_)
  refine f_c (Q1 := fun _ h' => nx 2 (2 + m) h h' ∧ RwF h' h.2.1 m) ?_ (fun _ h' q => k h' q.1 q.2)
  unfold F_X9_init
  subst ex
  have e1 : (if (1 : Int32) < nI m then nI m else 1) = nI m := by
    by_cases c : (1 : Int32) < nI m
    · rw [if_pos c]
    · rw [if_neg c]
      have : ¬ 1 < m := fun q => c ((nI_ltI (a := 1) (by omega) (by omega)).mpr q)
      have : m = 1 := by omega
      rw [this]; rfl
  rw [e1]
  have b1 : h1.2.1 = h.2.1 + 1 := by rw [a1]
  have b2 : h1.2.2 = h.2.2 + 2 := by rw [a1]; rfl
  refine f_na rfl hm (fun h2 c1 c2 c3 => ?_)
  rw [b1] at c1 c2 c3 ⊢
  rw [b2] at c1
  refine f_pV (a := h.2.1) (by rw [c3 _ (by omega)]; exact a2) (by show 0 < 2; omega) (fun h3 d1 d2 d3 => f_r ⟨⟨?_, fun q hq => ?_⟩, ?_, ?_⟩)
  · rw [d1, c1]; congr 1; omega
  · rw [d3 q (by omega), c3 q (by omega), a3 q hq]
  · rw [d2]; rfl
  · rw [d3 _ (by omega)]; exact c2
end RW
