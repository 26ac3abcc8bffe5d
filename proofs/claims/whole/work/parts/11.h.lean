/-! runs of single steps over the function heap, by what the cells are -/
section RUN
variable {β : Type} {h : mo_H} {a ci fi : Nat} {fs : List Value}
theorem rn_gI {K : Int32 → mo_M β} {x : Int32} (e : h.1 a = some (.inr (ci, fs))) (e2 : fs[fi]? = some (.int x)) : (mo_b (mo_gI a ci fi) K).1 h = (K x).1 h := by
  apply mo_b_run
  show ((mo_fs h a ci).bind fun fs => mo_vI fs[fi]?).map (fun x => (x, h)) = _
  rw [mo_fs_of e]
  show (mo_vI fs[fi]?).map (fun x => (x, h)) = _
  rw [e2]; rfl
theorem rn_gR {K : Nat → mo_M β} {x : Nat} (e : h.1 a = some (.inr (ci, fs))) (e2 : fs[fi]? = some (.ref x)) : (mo_b (mo_gR a ci fi) K).1 h = (K x).1 h := by
  apply mo_b_run
  show ((mo_fs h a ci).bind fun fs => mo_vR fs[fi]?).map (fun x => (x, h)) = _
  rw [mo_fs_of e]
  show (mo_vR fs[fi]?).map (fun x => (x, h)) = _
  rw [e2]; rfl
theorem rn_gO {K : Option Nat → mo_M β} {x : Option Nat} (e : h.1 a = some (.inr (ci, fs))) (e2 : fs[fi]? = some (va_rf x)) : (mo_b (mo_gO a ci fi) K).1 h = (K x).1 h := by
  apply mo_b_run
  show ((mo_fs h a ci).bind fun fs => mo_vO fs[fi]?).map (fun x => (x, h)) = _
  rw [mo_fs_of e]
  show (mo_vO fs[fi]?).map (fun x => (x, h)) = _
  rw [e2]; cases x <;> rfl
theorem rn_ck {K : Unit → mo_M β} (e : h.1 a = some (.inr (ci, fs))) : (mo_b (mo_ck a ci) K).1 h = (K ()).1 h := by
  apply mo_b_run
  show ((mo_fs h a ci).bind fun _ => some ()).map (fun x => (x, h)) = _
  rw [mo_fs_of e]; rfl
theorem rn_pV {K : Unit → mo_M β} {v : Value} (e : h.1 a = some (.inr (ci, fs))) (e2 : fi < fs.length) : (mo_b (mo_pV a ci fi v) K).1 h = (K ()).1 (mo_up h a (.inr (ci, fs.set fi v))) := by
  apply mo_b_run
  show ((mo_fs h a ci).bind fun fs => if fi < fs.length then some (a, (Sum.inr (ci, fs.set fi v) : mo_E)) else none).map (fun q => ((), mo_up h q.1 q.2)) = _
  rw [mo_fs_of e]
  show (if fi < fs.length then some (a, (Sum.inr (ci, fs.set fi v) : mo_E)) else none).map (fun q => ((), mo_up h q.1 q.2)) = _
  rw [if_pos e2]; rfl
theorem rn_pZ {K : Unit → mo_M β} {x : Int32} (hx : x = 0 ∨ x = 1) (e : h.1 a = some (.inr (ci, fs))) (e2 : fi < fs.length) : (mo_b (mo_pZ a ci fi x) K).1 h = (K ()).1 (mo_up h a (.inr (ci, fs.set fi (.int x)))) := by
  unfold mo_pZ
  rw [if_pos hx]
  exact rn_pV e e2
theorem rn_la {K : Int32 → mo_M β} {t n : Nat} {f : Nat → Int32} {x : Int32} (e : h.1 a = some (.inl (t, n, .inl f))) (hx : ¬ (x < 0 ∨ n ≤ x.toNatClampNeg)) : (mo_b (mo_la t a x) K).1 h = (K (f x.toNatClampNeg)).1 h := by
  apply mo_b_run
  show ((mo_ar h a t).bind fun q => if x < 0 ∨ q.1 ≤ x.toNatClampNeg then none else some (q.2 x.toNatClampNeg)).map (fun x => (x, h)) = _
  rw [mo_ar_of e]
  show (if x < 0 ∨ n ≤ x.toNatClampNeg then none else some (f x.toNatClampNeg)).map (fun x => (x, h)) = _
  rw [if_neg hx]; rfl
theorem rn_sa {K : Unit → mo_M β} {t n : Nat} {f : Nat → Int32} {x y : Int32} (e : h.1 a = some (.inl (t, n, .inl f))) (hx : ¬ (x < 0 ∨ n ≤ x.toNatClampNeg)) : (mo_b (mo_sa t a x y) K).1 h = (K ()).1 (mo_up h a (.inl (t, n, .inl (upd f x.toNatClampNeg y)))) := by
  apply mo_b_run
  show ((mo_ar h a t).bind fun q => if x < 0 ∨ q.1 ≤ x.toNatClampNeg then none else some (a, (Sum.inl (t, q.1, .inl (upd q.2 x.toNatClampNeg y)) : mo_E))).map (fun q => ((), mo_up h q.1 q.2)) = _
  rw [mo_ar_of e]
  show (if x < 0 ∨ n ≤ x.toNatClampNeg then none else some (a, (Sum.inl (t, n, .inl (upd f x.toNatClampNeg y)) : mo_E))).map (fun q => ((), mo_up h q.1 q.2)) = _
  rw [if_neg hx]; rfl
theorem rn_lq {K : Nat → mo_M β} {t n b : Nat} {F : Nat → Option Nat} {x : Int32} (e : h.1 a = some (.inl (t, n, gRef F))) (hx : ¬ (x < 0 ∨ n ≤ x.toNatClampNeg)) (hF : F x.toNatClampNeg = some b) : (mo_b (mo_lq t a x) K).1 h = (K b).1 h := by
  apply mo_b_run
  show ((mo_ag h a t).bind fun q => if x < 0 ∨ q.1 ≤ x.toNatClampNeg then none else q.2 x.toNatClampNeg).map (fun x => (x, h)) = _
  rw [mo_ag_of (f := F) (n := n) e]
  show (if x < 0 ∨ n ≤ x.toNatClampNeg then none else F x.toNatClampNeg).map (fun x => (x, h)) = _
  rw [if_neg hx, hF]; rfl
theorem rn_sq {K : Unit → mo_M β} {t n v : Nat} {vs : List Value} {F : Nat → Option Nat} {x : Int32} (ev : h.1 v = some (.inr (ci, vs))) (e : h.1 a = some (.inl (t, n, gRef F))) (hx : ¬ (x < 0 ∨ n ≤ x.toNatClampNeg)) : (mo_b (mo_sq t ci a x v) K).1 h = (K ()).1 (mo_up h a (.inl (t, n, gRef (va_up F x.toNatClampNeg (some v))))) := by
  apply mo_b_run
  show ((mo_fs h v ci).bind fun _ => (mo_ag h a t).bind fun q => if x < 0 ∨ q.1 ≤ x.toNatClampNeg then none else some (a, (Sum.inl (t, q.1, .inr (.inr (.inr (.inr (va_up q.2 x.toNatClampNeg (some v)))))) : mo_E))).map (fun q => ((), mo_up h q.1 q.2)) = _
  rw [mo_fs_of ev, mo_ag_of (f := F) (n := n) e]
  show (if x < 0 ∨ n ≤ x.toNatClampNeg then none else some (a, (Sum.inl (t, n, gRef (va_up F x.toNatClampNeg (some v))) : mo_E))).map (fun q => ((), mo_up h q.1 q.2)) = _
  rw [if_neg hx]; rfl
theorem rn_ln {K : Int32 → mo_M β} {t n : Nat} {f : (Nat → Int32) ⊕ (Nat → Int64) ⊕ (Nat → UInt32) ⊕ (Nat → UInt64) ⊕ (Nat → Option Nat)} (e : h.1 a = some (.inl (t, n, f))) (ht : t < 6) : (mo_b (mo_ln a) K).1 h = (K (Int32.ofNat n)).1 h := by
  apply mo_b_run
  show (mo_ln0 h a).map (fun x => (x, h)) = _
  unfold mo_ln0
  rw [e]
  show (if t < 6 then some (Int32.ofNat n) else none).map (fun x => (x, h)) = _
  rw [if_pos ht]; rfl
theorem rn_na {K : Nat → mo_M β} {t : Nat} {n : Int32} (hn : ¬ (n < 0 ∨ 1000000 < n.toNatClampNeg)) : (mo_b (mo_na t n) K).1 h = (K h.2.1).1 (mo_nw h (.inl (t, n.toNatClampNeg, .inl (fun _ => 0))) n.toNatClampNeg) := by
  unfold mo_na
  rw [if_neg hn]; rfl
theorem rn_nq {K : Nat → mo_M β} {t : Nat} {n : Int32} (hn : ¬ (n < 0 ∨ 1000000 < n.toNatClampNeg)) : (mo_b (mo_nq t n) K).1 h = (K h.2.1).1 (mo_nw h (.inl (t, n.toNatClampNeg, gRef (fun _ => none))) n.toNatClampNeg) := by
  unfold mo_nq
  rw [if_neg hn]; rfl
theorem rn_nc {K : Nat → mo_M β} : (mo_b (mo_nc ci fs) K).1 h = (K h.2.1).1 (mo_nw h (.inr (ci, fs)) fs.length) := rfl
theorem rn_cp {K : Unit → mo_M β} {a0 n0 n1 : Nat} {f g : Nat → Int32} {sp dp n : Int32} (e0 : h.1 a0 = some (.inl (0, n0, .inl f))) (e : h.1 a = some (.inl (0, n1, .inl g))) (hx : ¬ (sp < 0 ∨ dp < 0 ∨ n < 0 ∨ n0 < sp.toNatClampNeg + n.toNatClampNeg ∨ n1 < dp.toNatClampNeg + n.toNatClampNeg)) : (mo_b (mo_cp a0 sp a dp n) K).1 h = (K ()).1 (mo_up h a (.inl (0, n1, .inl (va_cpy f g sp.toNatClampNeg dp.toNatClampNeg n.toNatClampNeg)))) := by
  apply mo_b_run
  show ((mo_ar h a0 0).bind fun x => (mo_ar h a 0).bind fun y => if sp < 0 ∨ dp < 0 ∨ n < 0 ∨ x.1 < sp.toNatClampNeg + n.toNatClampNeg ∨ y.1 < dp.toNatClampNeg + n.toNatClampNeg then none else some (a, (Sum.inl (0, y.1, .inl (va_cpy x.2 y.2 sp.toNatClampNeg dp.toNatClampNeg n.toNatClampNeg)) : mo_E))).map (fun q => ((), mo_up h q.1 q.2)) = _
  rw [mo_ar_of e0, mo_ar_of e]
  show (if sp < 0 ∨ dp < 0 ∨ n < 0 ∨ n0 < sp.toNatClampNeg + n.toNatClampNeg ∨ n1 < dp.toNatClampNeg + n.toNatClampNeg then none else some (a, (Sum.inl (0, n1, .inl (va_cpy f g sp.toNatClampNeg dp.toNatClampNeg n.toNatClampNeg)) : mo_E))).map (fun q => ((), mo_up h q.1 q.2)) = _
  rw [if_neg hx]; rfl
end RUN
theorem up_s {h : mo_H} {a : Nat} {e : mo_E} : (mo_up h a e).1 a = some e := by simp [mo_up]
theorem up_n {h : mo_H} {a b : Nat} {e : mo_E} (hb : b ≠ a) : (mo_up h a e).1 b = h.1 b := by simp [mo_up, hb]
theorem nw_s {h : mo_H} {e : mo_E} {n : Nat} : (mo_nw h e n).1 h.2.1 = some e := by simp [mo_nw]
theorem nw_n {h : mo_H} {b : Nat} {e : mo_E} {n : Nat} (hb : b < h.2.1) : (mo_nw h e n).1 b = h.1 b := by simp [mo_nw, Nat.ne_of_lt hb]
/-- which unstable kinds a cell names -/
def gOw : List (Nat × Nat) := [(6, 7), (10, 11), (13, 14), (22, 23), (24, 25), (26, 27), (26, 29), (27, 28), (29, 30), (33, 34), (35, 36)]
theorem gC_U {θ : gT} {Gs U U' : gK → Nat} {k w i : Nat} {f : Nat → Int32} {n : Nat} (hU : ∀ x, (k, x) ∈ gOw → U' (pk x w i) = U (pk x w i)) (h35 : k = 35 → i = 0) : gC θ Gs U' k w i f n = gC θ Gs U k w i f n := by
  by_cases h6 : k = 6
  · subst h6; show Sum.inr _ = Sum.inr _; rw [hU 7 (by decide)]
  by_cases h10 : k = 10
  · subst h10; show Sum.inr _ = Sum.inr _; rw [hU 11 (by decide)]
  by_cases h13 : k = 13
  · subst h13; show Sum.inr _ = Sum.inr _; rw [hU 14 (by decide)]
  by_cases h22 : k = 22
  · subst h22; show Sum.inr _ = Sum.inr _; rw [hU 23 (by decide)]
  by_cases h24 : k = 24
  · subst h24; show Sum.inr _ = Sum.inr _; rw [hU 25 (by decide)]
  by_cases h26 : k = 26
  · subst h26; show Sum.inr _ = Sum.inr _; rw [hU 27 (by decide), hU 29 (by decide)]
  by_cases h27 : k = 27
  · subst h27; show Sum.inr _ = Sum.inr _; rw [hU 28 (by decide)]
  by_cases h29 : k = 29
  · subst h29; show Sum.inr _ = Sum.inr _; rw [hU 30 (by decide)]
  by_cases h33 : k = 33
  · subst h33; show Sum.inr _ = Sum.inr _; rw [hU 34 (by decide)]
  by_cases hk35 : k = 35
  · subst hk35
    have hi := h35 rfl
    subst hi
    show Sum.inr _ = Sum.inr _; rw [hU 36 (by decide)]
  unfold gC
  split <;> first | rfl | contradiction
theorem gA_U {Gs U U' : gK → Nat} {k w i : Nat} (h : U' (pk k w i) = U (pk k w i)) : gA Gs U' k w i = gA Gs U k w i := by
  unfold gA
  split
  · exact h
  · rfl
/-- an unstable array gets a new cell; its owner names it -/
theorem gI.grow {θ : gT} {Gs U : gK → Nat} {h h' : mo_H} {s : gS} {k x w i n : Nat} {f : Nat → Int32} {e0 e1 : mo_E} (H : gI θ Gs U h s) (hv : gV θ k w i) (hvx : gV θ x w i) (hx : gU x = true) (hxk : x ≠ k) (how : ∀ k', (k', x) ∈ gOw → k' = k)
    (hh1 : h'.1 (gA Gs U k w i) = some e0) (hh2 : h'.1 h.2.1 = some e1) (hh3 : ∀ q, q ≠ gA Gs U k w i → q ≠ h.2.1 → h'.1 q = h.1 q) (hh4 : h'.2 = (h.2.1 + 1, h.2.2 + n))
    (he0 : e0 = gC θ Gs (fun q => if q = pk x w i then h.2.1 else U q) k w i (s.1 (pk k w i)) (s.2.1 (pk k w i))) (he1 : e1 = gC θ Gs (fun q => if q = pk x w i then h.2.1 else U q) x w i f n) :
    gI θ Gs (fun q => if q = pk x w i then h.2.1 else U q) h' (fun q => if q = pk x w i then f else s.1 q, fun q => if q = pk x w i then n else s.2.1 q, (s.2.2.1 + 1, s.2.2.2 + n)) := by
  obtain ⟨h1, ⟨own, h2⟩, h3⟩ := H
  have bv := gV_b hv
  have hlt := (h1 k w i hv).2
  have key : ∀ k' w' i', gV θ k' w' i' → ¬ pk k' w' i' = pk x w i → gA Gs (fun q => if q = pk x w i then h.2.1 else U q) k' w' i' = gA Gs U k' w' i' := fun k' w' i' _ hn => gA_U (by show (if _ then _ else _) = _; rw [if_neg hn])
  have hax : gA Gs (fun q => if q = pk x w i then h.2.1 else U q) x w i = h.2.1 := by
    unfold gA
    rw [hx]
    show (if pk x w i = pk x w i then h.2.1 else U (pk x w i)) = _
    rw [if_pos rfl]
  refine ⟨fun k' w' i' hv' => ?_, ⟨fun q => if q = h.2.1 then pk x w i else own q, fun k' w' i' hv' => ?_⟩, ?_⟩
  · have bv' := gV_b hv'
    by_cases hp : pk k' w' i' = pk x w i
    · obtain ⟨rfl, rfl, rfl⟩ := pk_inj bv' bv hp
      rw [hax]
      refine ⟨?_, by rw [hh4]; exact Nat.lt_succ_self _⟩
      show _ = some (gC θ Gs _ k' w' i' (if pk k' w' i' = pk k' w' i' then f else _) (if pk k' w' i' = pk k' w' i' then n else _))
      rw [if_pos rfl, if_pos rfl, hh2, he1]
    · rw [key k' w' i' hv' hp]
      have hl := (h1 k' w' i' hv').2
      refine ⟨?_, by rw [hh4]; exact Nat.lt_succ_of_lt hl⟩
      show _ = some (gC θ Gs _ k' w' i' (if pk k' w' i' = pk x w i then f else s.1 (pk k' w' i')) (if pk k' w' i' = pk x w i then n else s.2.1 (pk k' w' i')))
      rw [if_neg hp, if_neg hp]
      by_cases hq : pk k' w' i' = pk k w i
      · obtain ⟨rfl, rfl, rfl⟩ := pk_inj bv' bv hq
        rw [hh1, he0]
      · have hA : gA Gs U k' w' i' ≠ gA Gs U k w i := fun e => hq (by rw [← h2 _ _ _ hv', ← h2 _ _ _ hv, e])
        rw [hh3 _ hA (Nat.ne_of_lt hl), (h1 k' w' i' hv').1]
        congr 1
        refine (gC_U (fun y hy => ?_) (fun e => ?_)).symm
        · show (if _ then _ else _) = _
          rw [if_neg]
          intro e
          obtain ⟨rfl, rfl, rfl⟩ := pk_inj bv' bv e
          exact hq (by rw [how k' hy])
        · subst e
          exact hv'.1.2
  · show (if gA Gs _ k' w' i' = h.2.1 then pk x w i else own (gA Gs _ k' w' i')) = _
    by_cases hp : pk k' w' i' = pk x w i
    · obtain ⟨rfl, rfl, rfl⟩ := pk_inj (gV_b hv') bv hp
      rw [hax, if_pos rfl]
    · rw [key k' w' i' hv' hp, if_neg (Nat.ne_of_lt (h1 k' w' i' hv').2)]
      exact h2 _ _ _ hv'
  · rw [hh4, h3]
