/-! INPUT -/
section JN
variable {θ : gT} {π π' : mP} {n w : Nat} {bv : Int32} {s0 s s' : gS} {W : mW} {d a b : Nat} {sl : Bool} {acts : List mAct} {T b1 b2 c : Nat} {x : Int32}
theorem gGL_34 {i : Nat} (hi : i < 4) : pk 34 0 i ∈ gGL := by
  unfold gGL
  refine List.mem_append.mpr (Or.inr ?_)
  have : i = 0 ∨ i = 1 ∨ i = 2 ∨ i = 3 := by omega
  rcases this with rfl | rfl | rfl | rfl <;> simp
def kAc (q : gK) : Prop := q.2.1 = 0 ∧ (q.1 = 33 ∨ q.1 = 34)
theorem cr_o {l : List Int32} {i j : Nat} (h : cRow s 33 0 i l) (hf : fr (kRow 33 0 j) s s') (hij : i ≠ j) : cRow s' 33 0 i l := by
  have o : ∀ k, s'.1 (pk k 0 i) = s.1 (pk k 0 i) ∧ s'.2.1 (pk k 0 i) = s.2.1 (pk k 0 i) := fun k => hf.1 _ (fun z => z.elim (fun z => absurd z (pk_ne (by omega))) (fun z => absurd z (pk_ne (by omega))))
  exact h.cg (o 33).1 (o 34).1 (o 34).2
theorem kR_Ac {j : Nat} (hf : fr (kRow 33 0 j) s s') : fr kAc s s' := hf.mono (fun q hq => by rcases hq with rfl | rfl; exact ⟨rfl, Or.inl rfl⟩; exact ⟨rfl, Or.inr rfl⟩)
theorem c_act (h : cA s acts) (hn : acts.length < 3000) (d t : Nat) (i : Bool) (v : Int32) {x2 : Int32} (hx2 : x2 = if i = true then 1 else 0) : gh (G_X0_add θ (nI d) x2 (nI t) v) s (fun _ s' => cA s' (acts ++ [(d, i, t, v)]) ∧ fr kAc s s') := by
  have cap : ∀ f : mAct → Int32, 2 * (acts.map f).length ≤ gcap 34 := fun f => by rw [List.length_map]; show _ ≤ 6000; omega
  unfold G_X0_add
  refine hc (c_add h.1 (nI d) (gGL_34 (by omega)) (cap _)) (fun _ s1 q1 => ?_)
  have m1 : cRow s1 33 0 1 _ := cr_o h.2.1 q1.2 (by omega)
  have m2 : cRow s1 33 0 2 _ := cr_o h.2.2.1 q1.2 (by omega)
  have m3 : cRow s1 33 0 3 _ := cr_o h.2.2.2 q1.2 (by omega)
  have go : ∀ y, y = (if i = true then 1 else 0 : Int32) → gh (G_X0_add_21 θ (nI t) v 1 y) s1 (fun _ s' => cA s' (acts ++ [(d, i, t, v)]) ∧ fr kAc s s') := fun y hy => by
    unfold G_X0_add_21
    refine hc (c_add m1 y (gGL_34 (by omega)) (cap _)) (fun _ s2 q2 => ?_)
    refine hc (c_add (cr_o m2 q2.2 (by omega)) (nI t) (gGL_34 (by omega)) (cap _)) (fun _ s3 q3 => ?_)
    refine hc (c_add (cr_o (cr_o m3 q2.2 (by omega)) q3.2 (by omega)) v (gGL_34 (by omega)) (cap _)) (fun _ s4 q4 => hr ⟨⟨?_, ?_, ?_, ?_⟩, (((kR_Ac q1.2).tr (kR_Ac q2.2)).tr (kR_Ac q3.2)).tr (kR_Ac q4.2)⟩)
    · rw [List.map_append]; exact cr_o (cr_o (cr_o q1.1 q2.2 (by omega)) q3.2 (by omega)) q4.2 (by omega)
    · rw [List.map_append]; exact cr_o (cr_o (by rw [hy] at q2; exact q2.1) q3.2 (by omega)) q4.2 (by omega)
    · rw [List.map_append]; exact cr_o q3.1 q4.2 (by omega)
    · rw [List.map_append]; exact q4.1
  refine hif (fun e => go 0 (e.symm.trans hx2)) (fun e => go 1 ?_)
  rw [hx2] at e
  cases i with
  | true => rfl
  | false => exact absurd rfl e
/-- what a note leaves -/
def nt (s s' : gS) : Prop := s'.2 = s.2 ∧ (∀ k, k ≠ 41 → ¬ (57 ≤ k ∧ k ≤ 60) → s'.1 (rk k) = s.1 (rk k)) ∧ (∀ q, q ≠ rk q.1 → s'.1 q = s.1 q) ∧ ∀ x, x ≠ 14 → s'.1 (rk 41) x = s.1 (rk 41) x
theorem nt.q (h : nt s s') (q : gK) (hq : q.1 < 41) : s'.1 q = s.1 q := by
  by_cases e : q = rk q.1
  · rw [e]; exact h.2.1 q.1 (by omega) (by omega)
  · exact h.2.2.1 q e
theorem r_note (h : rA s acts) (hL : ∀ k, 42 ≤ k → s.2.1 (rk k) = rLen k) (hn : acts.length < 3000) {t : Nat} (ht : s.1 (rk 87) 0 = nI t) (d : Nat) (i : Bool) (v : Int32) {x2 : Int32} (hx2 : x2 = if i = true then 1 else 0) : gh (G_X11_note θ (nI d) x2 v) s (fun _ s' => rA s' (acts ++ [(d, i, t, v)]) ∧ nt s s') := by
  have hz : x2 = 0 ∨ x2 = 1 := by rw [hx2]; cases i; exact Or.inl rfl; exact Or.inr rfl
  unfold G_X11_note
  refine hg h.1 ?_
  refine hsr (i := acts.length) rfl (hL 57 (by omega)) (by show _ < 3000; omega) (fun s1 a0 a1 a2 => ?_)
  have g1 : s1.1 (rk 41) = s.1 (rk 41) := a2 _ (rk_ne (by omega))
  refine hg (v := nI acts.length) (by show Prod.fst s1 (rk 41) 14 = _; rw [g1]; exact h.1) ?_
  refine hzr (i := acts.length) hz rfl (by rw [a0]; exact hL 58 (by omega)) (by show _ < 3000; omega) (fun s2 c0 c1 c2 => ?_)
  have g2 : s2.1 (rk 41) = s.1 (rk 41) := (c2 _ (rk_ne (by omega))).trans g1
  refine hg (v := nI acts.length) (by show Prod.fst s2 (rk 41) 14 = _; rw [g2]; exact h.1) ?_
  refine hlr (i := 0) (v := nI t) rfl (by rw [c0, a0]; exact hL 87 (by omega)) (by show _ < 3; omega) (by rw [c2 _ (rk_ne (by omega)), a2 _ (rk_ne (by omega))]; exact ht) ?_
  refine hsr (i := acts.length) rfl (by rw [c0, a0]; exact hL 59 (by omega)) (by show _ < 3000; omega) (fun s3 d0 d1 d2 => ?_)
  have g3 : s3.1 (rk 41) = s.1 (rk 41) := (d2 _ (rk_ne (by omega))).trans g2
  refine hg (v := nI acts.length) (by show Prod.fst s3 (rk 41) 14 = _; rw [g3]; exact h.1) ?_
  refine hsr (i := acts.length) rfl (by rw [d0, c0, a0]; exact hL 60 (by omega)) (by show _ < 3000; omega) (fun s4 e0 e1 e2 => ?_)
  have g4 : s4.1 (rk 41) = s.1 (rk 41) := (e2 _ (rk_ne (by omega))).trans g3
  refine hg (v := nI acts.length) (by show Prod.fst s4 (rk 41) 14 = _; rw [g4]; exact h.1) ?_
  rw [nI_1]
  refine hp (hr ?_)
  have r8 : (gw s4 (pk 41 0 0) (upd (s4.1 (pk 41 0 0)) 14 (nI (acts.length + 1)))).1 (rk 41) = upd (s4.1 (rk 41)) 14 (nI (acts.length + 1)) := gw_s
  have ro : ∀ q, q ≠ rk 41 → (gw s4 (pk 41 0 0) (upd (s4.1 (pk 41 0 0)) 14 (nI (acts.length + 1)))).1 q = s4.1 q := fun q hq => gw_o hq
  have r2 : (gw s4 (pk 41 0 0) (upd (s4.1 (pk 41 0 0)) 14 (nI (acts.length + 1)))).2 = s4.2 := rfl
  revert r8 ro r2
  generalize gw s4 (pk 41 0 0) (upd (s4.1 (pk 41 0 0)) 14 (nI (acts.length + 1))) = s5
  intro r8 ro r2
  have k57 : s5.1 (rk 57) = upd (s.1 (rk 57)) acts.length (nI d) := by rw [ro _ (rk_ne (by omega)), e2 _ (rk_ne (by omega)), d2 _ (rk_ne (by omega)), c2 _ (rk_ne (by omega)), a1]
  have k58 : s5.1 (rk 58) = upd (s.1 (rk 58)) acts.length x2 := by rw [ro _ (rk_ne (by omega)), e2 _ (rk_ne (by omega)), d2 _ (rk_ne (by omega)), c1, a2 _ (rk_ne (by omega))]
  have k59 : s5.1 (rk 59) = upd (s.1 (rk 59)) acts.length (nI t) := by rw [ro _ (rk_ne (by omega)), e2 _ (rk_ne (by omega)), d1, c2 _ (rk_ne (by omega)), a2 _ (rk_ne (by omega))]
  have k60 : s5.1 (rk 60) = upd (s.1 (rk 60)) acts.length v := by rw [ro _ (rk_ne (by omega)), e1, d2 _ (rk_ne (by omega)), c2 _ (rk_ne (by omega)), a2 _ (rk_ne (by omega))]
  refine ⟨⟨by rw [r8, upd_s, List.length_append, List.length_singleton], fun i' hi => ?_⟩, by rw [r2, e0, d0, c0, a0], fun k h1 h2 => ?_, fun q hq => ?_, fun y hy => ?_⟩
  · rw [List.length_append, List.length_singleton] at hi
    rw [k57, k58, k59, k60, getD_app]
    by_cases e : i' = acts.length
    · rw [if_neg (by omega), if_pos e, e, upd_s, upd_s, upd_s, upd_s]
      exact ⟨rfl, hx2, rfl, rfl⟩
    · rw [if_pos (by omega), upd_o e, upd_o e, upd_o e, upd_o e]
      exact h.2 i' (by omega)
  · rw [ro _ (rk_ne h1), e2 _ (rk_ne (by omega)), d2 _ (rk_ne (by omega)), c2 _ (rk_ne (by omega)), a2 _ (rk_ne (by omega))]
  · have ne : ∀ k, q ≠ rk k := fun k e => hq (by rw [e]; rfl)
    rw [ro _ (ne 41), e2 _ (ne 60), d2 _ (ne 59), c2 _ (ne 58), a2 _ (ne 57)]
  · rw [r8, upd_o hy, g4]
theorem cT.ac (h : cT θ π n w s0 s W) (hf : fr kAc s s') : cT θ π n w s' s' W := h.mv (fun q hq => hf.1 q (fun z => by have := z.2; omega))
theorem rT.cl (h : rT π n w bv s0 s W) (hf : fr (fun q => q.1 < 41) s s') : rT π n w bv s' s' W := by
  have o : ∀ k, 41 ≤ k → s'.1 (rk k) = s.1 (rk k) ∧ s'.2.1 (rk k) = s.2.1 (rk k) := fun k hk => hf.1 (rk k) (fun z => by
    have : k < 41 := z
    omega)
  refine ⟨fun j i k hr' => ?_, fun c k hc h1 h2 => ?_, ?_, fun k hk => by rw [(o k (by omega)).2]; exact h.ln k hk, fun d hd => ?_, h.ms.cg (fun k hk => (o k (by omega)).1), h.pl.mv (fun k x hk => by rw [(o k (by omega)).1]), rfr.rf, h.w3⟩
  · have v := rKd_r hr'
    rw [rF_1, (o _ (by omega)).1, ← rF_1 w j i k]
    exact h.sc j i k hr'
  · rw [(o 80 (by omega)).1]; exact h.sh c k hc h1 h2
  · rw [(o 92 (by omega)).1]; exact h.bg
  · exact (h.io.cg (fun k h1 h2 => (o k (by omega)).1)) d hd
theorem rA.cl (h : rA s acts) (hf : fr (fun q => q.1 < 41) s s') : rA s' acts := by
  have o : ∀ k, 41 ≤ k → s'.1 (rk k) = s.1 (rk k) := fun k hk => (hf.1 (rk k) (fun z => by
    have : k < 41 := z
    omega)).1
  unfold rA
  rw [o 41 (by omega), o 57 (by omega), o 58 (by omega), o 59 (by omega), o 60 (by omega)]
  exact h
theorem rT.nt (h : rT π n w bv s0 s W) (hf : nt s s') : rT π n w bv s' s' W := by
  have o : ∀ k, 61 ≤ k → s'.1 (rk k) = s.1 (rk k) := fun k hk => hf.2.1 k (by omega) (by omega)
  refine ⟨fun j i k hr' => ?_, fun c k hc h1 h2 => ?_, ?_, fun k hk => by rw [hf.1]; exact h.ln k hk, fun d hd => ?_, h.ms.cg (fun k hk => o k (by omega)), h.pl.mv (fun k x hk => ?_), rfr.rf, h.w3⟩
  · have v := rKd_r hr'
    rw [rF_1, o _ (by omega), ← rF_1 w j i k]
    exact h.sc j i k hr'
  · rw [o 80 (by omega)]; exact h.sh c k hc h1 h2
  · rw [o 92 (by omega)]; exact h.bg
  · exact (h.io.cg (fun k h1 h2 => o k (by omega))) d hd
  · rcases hk with ⟨rfl, hx'⟩ | hk
    · exact hf.2.2.2 x (by omega)
    · rw [hf.2.1 k (by omega) (by omega)]
theorem rA.wo (h : rA s acts) (hf : rfr w s s') : rA s' acts := by
  unfold rA
  rw [hf.o (q := rk 41) (by decide), hf.o (q := rk 57) (by decide), hf.o (q := rk 58) (by decide), hf.o (q := rk 59) (by decide), hf.o (q := rk 60) (by decide)]
  exact h
theorem rSl_d {k y : Nat} (h : rSl 1 k y) : ¬ rSl 0 k y := by
  intro h0
  unfold rSl at h h0
  repeat' split at h
  all_goals simp_all
  all_goals omega
/-- what the reference's ticks and notes leave -/
def nr (s s' : gS) : Prop := s'.2 = s.2 ∧ (∀ q : gK, q.1 < 41 → s'.1 q = s.1 q) ∧ (∀ k x, k ≠ 41 → ¬ (57 ≤ k ∧ k ≤ 60) → ¬ rSl 0 k x → s'.1 (rk k) x = s.1 (rk k) x) ∧ ∀ x, x ≠ 14 → s'.1 (rk 41) x = s.1 (rk 41) x
theorem nr.rf : nr s s := ⟨rfl, fun _ _ => rfl, fun _ _ _ _ _ => rfl, fun _ _ => rfl⟩
theorem nr.tr {s1 s2 : gS} (a : nr s s1) (b : nr s1 s2) : nr s s2 := ⟨b.1.trans a.1, fun q h => (b.2.1 q h).trans (a.2.1 q h), fun k x h1 h2 h3 => (b.2.2.1 k x h1 h2 h3).trans (a.2.2.1 k x h1 h2 h3), fun x h => (b.2.2.2 x h).trans (a.2.2.2 x h)⟩
theorem nt.nr (h : nt s s') : nr s s' := ⟨h.1, h.q, fun k x h1 h2 _ => by rw [h.2.1 k h1 h2], h.2.2.2⟩
theorem rfr.nr (h : rfr 0 s s') : nr s s' := ⟨h.1, fun q hq => h.o (by omega), fun k x _ _ h3 => h.2 (rk k) x (fun z => h3 z.2), fun x _ => by rw [h.o (q := rk 41) (by decide)]⟩
theorem nSl {k x : Nat} (h : k < 61 ∨ 93 < k) : ¬ rSl w k x := by
  intro h0
  unfold rSl at h0
  repeat' split at h0
  all_goals omega
/-- kernel's world 0 and its actions, then the reference's, change: the rest of the purge stays -/
theorem jP.st (h : jP θ π s) (hq : mQ0 π) {s1 s3 : gS} (f1 : fr (fun q => kAc q ∨ cK 0 q) s s1) (f2 : nr s1 s3) : jP θ π s3 := by
  have o1 : ∀ k, 41 ≤ k → s1.1 (rk k) = s.1 (rk k) ∧ s1.2.1 (rk k) = s.2.1 (rk k) := fun k hk => f1.1 (rk k) (fun z => by
    rcases z with z | z
    · have : k = 33 ∨ k = 34 := z.2
      omega
    · have : k ≤ 31 := z.2.2
      omega)
  refine h.mv hq (fun q hq' => ?_) (fun k x hk => ?_) (fun k x h1 h2 h3 => ?_) (funext fun x => ?_) ?_ (fun k hk => by rw [f2.1]; exact (o1 k (by omega)).2)
  · have a := f1.1 q (fun z => by
      rcases z with z | z
      · rcases hq' with hq' | ⟨hq', hq2⟩
        · have := z.2; omega
        · exact hq' z.1
      · rcases hq' with hq' | hq'
        · have := z.2.1; omega
        · exact hq'.1 z.1)
    rw [f2.2.1 q (by omega), f2.1]
    exact a
  · rcases hk with ⟨rfl, hx'⟩ | hk
    · rw [f2.2.2.2 x (by omega), (o1 41 (by omega)).1]
    · rw [f2.2.2.1 k x (by omega) (by omega) (nSl (by omega)), (o1 k (by omega)).1]
  · rw [f2.2.2.1 k x (by omega) (by omega) (rSl_d h3), (o1 k (by omega)).1]
  · rw [f2.2.2.1 94 x (by omega) (by omega) (nSl (by omega)), (o1 94 (by omega)).1]
  · rw [f2.2.2.2 54 (by omega), (o1 41 (by omega)).1]
theorem JI_st (J : JI θ π true acts T n W b1 b2 s) {acts' : List mAct} {T' n' : Nat} {W' : mW} {s2 s4 s5 s6 : gS} (f1 : fr (fun q => kAc q ∨ cK 0 q) s s2) (f2 : nr s2 s4) (hcw : cT θ π n' 0 s5 s2 W') (hrr : rT π n' 0 (if mbgn π W' then 1 else 0) s6 s4 W') (hA : cA s2 acts') (hB : rA s4 acts') (hn : acts'.length ≤ 3000 ∧ n' ≤ acts'.length ∧ ∀ a, a ∈ acts' → a.1 < π.1) (hI : mI π n' T' W') (hok : mokf π (mall acts') 0 (mres π)) (he' : mend (mall acts') 0 ≤ T') (hrep : mrep π (mall acts') 0 (mres π) T' = W') : JI θ π true acts' T' n' W' b1 b2 s4 := by
  have q := J.qs rfl
  have c4 : ∀ q : gK, q.1 < 41 → s4.1 q = s2.1 q ∧ s4.2.1 q = s2.2.1 q := fun q hq => ⟨f2.2.1 q hq, by rw [f2.1]⟩
  refine JI_se (hcw.mv (fun q hq => c4 q (by omega))) hrr.rf ?_ ?_ (hA.cg (fun q hq => c4 q (by omega))) hB hn J.q0 q.1 hI hok he' hrep (J.jp.st J.q0 f1 f2) ((J.jb.cg f1.2.1 f1.2.2).o2 f2.1)
  · rw [(c4 _ (by decide)).1, (f1.1 (pk 1 0 0) (fun z => ?_)).1]
    · exact J.cs
    · rcases z with z | z
      · exact absurd z.2 (by decide)
      · exact absurd z.2.1 (by decide)
  · rw [f2.2.2.2 13 (by omega), (f1.1 (rk 41) (fun z => ?_)).1]
    · exact J.rs
    · rcases z with z | z
      · exact absurd z.2 (by decide)
      · exact absurd z.2.2 (by decide)
theorem fr41 (f1 : fr (fun q => kAc q ∨ cK 0 q) s s') : fr (fun q => q.1 < 41) s s' := f1.mono (fun q hq => by
  rcases hq with z | z
  · have := z.2; omega
  · have := z.2.2; omega)
theorem mall_snoc (l : List mAct) (a : mAct) : mall (l ++ [a]) = mall l ++ [(a, true)] := by
  unfold mall
  rw [List.map_append]; rfl
theorem e_time (h : cT θ π n 0 s0 s W) (hI : mIc π T W) : s.1 (pk 18 0 0) 1 = nI T := (h.sc 5 0 1 ⟨rfl, by omega, by omega⟩).trans hI.1
theorem r_time (h : rT π n 0 bv s0 s W) (hI : mIc π T W) : s.1 (rk 87) 0 = nI T := (h.sc 5 0 1 ⟨rfl, by omega, by omega⟩).trans hI.1
theorem e_count (h : cA s acts) : G_X0_count θ s = some (nI acts.length, s) := by
  have := h.2.2.1.1
  rw [List.length_map] at this
  unfold G_X0_count
  exact gh_eq (hg this (hr ⟨rfl, rfl⟩))
theorem e_inl (h : cT θ π n 0 s0 s W) (hd : d < π.1) : s.1 (pk 22 0 d) 1 = nI (W.2.1 0 d).length := (h.rw d hd).1.1
theorem r_inl {β : Type} {Q : β → gS → Prop} {Kc : Int32 → gM β} (h : rT π n 0 bv s0 s W) (hd : d < π.1) (k : gh (Kc (nI (W.2.1 0 d).length)) s Q) : gh (gb (gl (pk 66 0 0) (nI d)) Kc) s Q := by
  have ht := h.pl.t1
  refine hlr (i := 6 * 0 + d) (by rw [← nI00]) (h.ln 66 (by omega)) (by show _ < 18; omega) (h.io d hd).1.1 k
theorem P_input (J : JI θ π sl acts T n W b1 b2 s) (hc' : T ≤ c) (x1 x2 : Int32) : PP θ (G_X10_input θ x1 x2) (G_X11_input θ x1 x2) c b1 b2 s := by
  have ht := J.cw.pl.t1
  have hp1 := J.cw.pl
  have hp2 := J.rr.pl
  cases sl with
  | false =>
    refine pp_no J hc' (-1) ?_ ?_
    · unfold G_X10_input; exact hg J.cs (hT rfl (hr ⟨rfl, rfl⟩))
    · unfold G_X11_input; exact hg J.rs (hT rfl (hr ⟨rfl, rfl⟩))
  | true =>
    have q := J.qs rfl
    have hI := q.2.1
    have hN := J.na.1
    rcases dom_cs π x1 with ⟨a, ha, rfl, ca⟩ | ca
    · have hla := (hI.io a ha).1
      by_cases h8 : (W.2.1 0 a).length = 8
      · refine pp_no J hc' (-1) ?_ ?_
        · unfold G_X10_input
          exact hg J.cs (hF (by decide) (hb ((dm_y ca).1 hp1) (hF (by decide) (hb (e_count J.ca) (hif (fun _ => hr ⟨rfl, rfl⟩) (fun _ => hx rfl (by rw [ht.1]; exact ha) (by omega) (hg (e_inl J.cw ha) (hT (by rw [h8]; rfl) (hr ⟨rfl, rfl⟩)))))))))
        · unfold G_X11_input
          exact hg J.rs (hF (by decide) (hb ((dm_y ca).2 hp2) (hF (by decide) (r_inl J.rr ha (hT (by rw [h8]; rfl) (hr ⟨rfl, rfl⟩))))))
      · have n8 : ¬ nI (W.2.1 0 a).length = (8 : Int32) := fun e => h8 ((nI_eq (b := 8) (by omega) (by omega)).mp e)
        by_cases hk : acts.length = 3000
        · refine pp_no J hc' (-1) ?_ ?_
          · unfold G_X10_input
            exact hg J.cs (hF (by decide) (hb ((dm_y ca).1 hp1) (hF (by decide) (hb (e_count J.ca) (hT (by rw [hk]; rfl) (hr ⟨rfl, rfl⟩))))))
          · unfold G_X11_input
            exact hg J.rs (hF (by decide) (hb ((dm_y ca).2 hp2) (hF (by decide) (r_inl J.rr ha (hF n8 (hg J.ra.1 (hT (by rw [hk]; rfl) (hr ⟨rfl, rfl⟩))))))))
        · have nk : ¬ nI acts.length = (3000 : Int32) := fun e => hk ((nI_eq (b := 3000) (by omega) (by omega)).mp e)
          unfold PP G_X10_input
          refine hg J.cs (hF (by decide) (hb ((dm_y ca).1 hp1) (hF (by decide) (hb (e_count J.ca) (hF nk (hx rfl (by rw [ht.1]; exact ha) (by omega) (hg (e_inl J.cw ha) (hF n8 (hg (e_time J.cw hI.ck) ?_)))))))))
          refine hc (c_act J.ca (by omega) a T true x2 rfl) (fun _ s1 z1 => ?_)
          have cw1 := J.cw.ac z1.2
          refine hc (c_add (cw1.rw a ha).1 x2 (gGLk (by decide) (by omega)) (by show _ ≤ 16; omega)) (fun _ s2 z2 => ?_)
          have cw2 : cT θ π n 0 s1 s2 (minp W a x2) := cw1.row0 z2.1 z2.2
          refine hg z2.1.1 (hr ?_)
          have f1 : fr (fun q => kAc q ∨ cK 0 q) s s2 := (z1.2.mono (fun q => Or.inl)).tr (cw2.fm.mono (fun q => Or.inr))
          have rr2 := J.rr.cl (fr41 f1)
          have ra2 := J.ra.cl (fr41 f1)
          have o41 : s2.1 (rk 41) = s.1 (rk 41) := ((fr41 f1).1 (rk 41) (by decide)).1
          unfold G_X11_input
          refine hg (v := 1) (by show Prod.fst s2 (rk 41) 13 = 1; rw [o41]; exact J.rs) (hF (by decide) (hb ((dm_y ca).2 rr2.pl) (hF (by decide) (r_inl rr2 ha (hF n8 (hg ra2.1 (hF nk ?_)))))))
          refine hc (r_note ra2 rr2.ln (by omega) (r_time rr2 hI.ck) a true x2 rfl) (fun _ s3 z3 => ?_)
          have rr3 := rr2.nt z3.2
          have hG : G_X11_give θ (0 : Int32) (nI a) x2 = G_X11_give θ (nI 0) (nI a) x2 := rfl
          rw [hG]
          refine hc (rt_inp rr3 hI.io ha (by omega)) (fun _ s4 z4 => ?_)
          refine r_inl z4 ha (hr ⟨?_, π, true, acts ++ [(a, true, T, x2)], T, n, minp W a x2, ?_, hc'⟩)
          · show nI ((minp W a x2).2.1 0 a).length = _
            rw [show (minp W a x2).2.1 0 a = W.2.1 0 a ++ [x2] from mB_s]
          · refine JI_st J f1 (z3.2.nr.tr z4.fm.nr) cw2 z4 ?_ (z3.1.wo z4.fm) ⟨by rw [List.length_append, List.length_singleton]; omega, by rw [List.length_append, List.length_singleton]; have := J.na.2.1; omega, fun y hy => ?_⟩ (minp_I hI (by omega)) ?_ ?_ ?_
            · exact z1.1.cg (fun q hq => z2.2.1 q (fun z => by rcases z with rfl | rfl <;> (dsimp only [pk] at hq; omega)))
            · rcases List.mem_append.mp hy with h | h
              · exact J.na.2.2 y h
              · rw [List.mem_singleton.mp h]; exact ha
            · rw [mall_snoc]
              refine mok_snoc _ _ _ _ q.2.2.1 q.2.2.2.1 ha (fun _ => ?_) (fun z => by cases z)
              rw [q.2.2.2.2]; show (W.2.1 0 a).length < 8; omega
            · rw [mall_snoc, mend_snoc]; exact Nat.le_refl _
            · rw [mall_snoc, mrep_snoc]
              show mid π (T - T) (minp (mrep π (mall acts) 0 (mres π) T) a x2) = _
              rw [Nat.sub_self, q.2.2.2.2]; rfl
    · refine pp_no J hc' (-1) ?_ ?_
      · unfold G_X10_input
        exact hg J.cs (hF (by decide) (hb ((dm_n ca).1 hp1) (hT rfl (hr ⟨rfl, rfl⟩))))
      · unfold G_X11_input
        exact hg J.rs (hF (by decide) (hb ((dm_n ca).2 hp2) (hT rfl (hr ⟨rfl, rfl⟩))))
end JN
