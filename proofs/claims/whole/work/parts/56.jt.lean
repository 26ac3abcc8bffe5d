/-! TICK -/
def mtick (π : mP) : Nat → List mAct → Nat → Nat → mW → Nat → List mAct × Nat × Nat × mW × Nat
  | 0, acts, T, n, W, st => (acts, T, n, W, st)
  | k + 1, acts, T, n, W, st => if mrdy π W then (if acts.length = 3000 then (acts, T, n, W, st) else mtick π k (acts ++ [((msl π W).1, false, T, mins π W (msl π W).1)]) (T + 1) (n + 1) (mpass π W true) (st + 1)) else mtick π k acts (T + 1) n (mpass π W false) st
def MV (π : mP) (acts : List mAct) (T n : Nat) (W : mW) : Prop := (acts.length ≤ 3000 ∧ n ≤ acts.length ∧ ∀ a, a ∈ acts → a.1 < π.1) ∧ mI π n T W ∧ mokf π (mall acts) 0 (mres π) ∧ mend (mall acts) 0 ≤ T ∧ mrep π (mall acts) 0 (mres π) T = W
section JT
variable {θ : gT} {π π' : mP} {n w : Nat} {bv : Int32} {s0 s s' : gS} {W : mW} {d a b : Nat} {sl : Bool} {acts : List mAct} {T b1 b2 c : Nat} {x : Int32}
theorem MV.idle (h : MV π acts T n W) (hQ : mQ π) : MV π acts (T + 1) n (mpass π W false) :=
  ⟨h.1, mpass_I h.2.1 hQ, h.2.2.1, Nat.le_succ_of_le h.2.2.2.1, by rw [mrep_idle _ _ _ _ h.2.2.2.1, h.2.2.2.2]⟩
theorem MV.step (h : MV π acts T n W) (hQ : mQ π) (hl' : acts.length < 3000) (hr' : mrdy π W) : MV π (acts ++ [((msl π W).1, false, T, mins π W (msl π W).1)]) (T + 1) (n + 1) (mpass π W true) := by
  have hd := (h.2.1.sl hQ).1
  refine ⟨⟨by rw [List.length_append, List.length_singleton]; omega, by rw [List.length_append, List.length_singleton]; have := h.1.2.1; omega, fun y hy => ?_⟩, mpass_I1 h.2.1 hQ, ?_, ?_, ?_⟩
  · rcases List.mem_append.mp hy with z | z
    · exact h.1.2.2 y z
    · rw [List.mem_singleton.mp z]; exact hd
  · rw [mall_snoc]
    refine mok_snoc _ _ _ _ h.2.2.1 h.2.2.2.1 hd (fun z => by cases z) (fun _ => ?_)
    show (msl π (mrep π (mall acts) 0 (mres π) T)).1 = (msl π W).1 ∧ (mrep π (mall acts) 0 (mres π) T).1 2 (msl π W).1 5 = 0
    rw [h.2.2.2.2]
    exact ⟨rfl, hr'.1⟩
  · rw [mall_snoc, mend_snoc]; exact Nat.le_refl _
  · rw [mall_snoc, mrep_snoc]
    show mid π (T + 1 - (T + 1)) (mpass π (mrep π (mall acts) 0 (mres π) T) true) = _
    rw [Nat.sub_self, h.2.2.2.2]; rfl
theorem mtick_v (hQ : mQ π) : ∀ (k : Nat) (acts : List mAct) (T n : Nat) (W : mW) (st : Nat), MV π acts T n W → MV π (mtick π k acts T n W st).1 (mtick π k acts T n W st).2.1 (mtick π k acts T n W st).2.2.1 (mtick π k acts T n W st).2.2.2.1 ∧ (mtick π k acts T n W st).2.1 ≤ T + k
  | 0, acts, T, n, W, st, h => ⟨h, Nat.le_refl _⟩
  | k + 1, acts, T, n, W, st, h => by
    unfold mtick
    by_cases c : mrdy π W
    · rw [if_pos c]
      by_cases c2 : acts.length = 3000
      · rw [if_pos c2]; exact ⟨h, Nat.le_add_right _ _⟩
      · rw [if_neg c2]
        have := mtick_v hQ k _ _ _ _ (st + 1) (h.step hQ (by have := h.1.1; omega) c)
        exact ⟨this.1, by have := this.2; omega⟩
    · rw [if_neg c]
      have := mtick_v hQ k _ _ _ _ st (h.idle hQ)
      exact ⟨this.1, by have := this.2; omega⟩
theorem e_sdue (h : cT θ π n w s0 s W) (hI : mI π n T W) (hQ : mQ π) : G_X5_stepIsDue θ w s = some (if mrdy π W then 1 else 0, s) := gh_eq (by
  have hd := (hI.sl hQ).1
  have ht := h.pl.t1
  have k22 : ∀ y : Int32, gh (G_X5_stepIsDue_22 θ w y) s (fun r s' => r = (if W.1 2 (msl π W).1 5 = 0 ∧ y = 0 then 1 else 0) ∧ s' = s) := fun y => by
    unfold G_X5_stepIsDue_22
    refine hb (e_slD h hI.ck hQ) (hx rfl (by rw [ht.1]; exact hd) (by omega) ?_)
    refine hg (h.sc 2 (msl π W).1 5 ⟨hd, by omega, by omega⟩) ?_
    refine hif (fun c => hif (fun c2 => ?_) (fun c2 => ?_)) (fun c => ?_)
    · rw [if_pos ⟨c, c2⟩]; exact hr1 ⟨rfl, rfl⟩
    · rw [if_neg (fun q => c2 q.2)]; exact hr0 ⟨rfl, rfl⟩
    · rw [if_neg (fun q => c q.1)]; exact hr0 ⟨rfl, rfl⟩
  have e21 : (if W.1 2 (msl π W).1 5 = 0 ∧ (0 : Int32) = 0 then (1 : Int32) else 0) = if W.1 2 (msl π W).1 5 = 0 then 1 else 0 := by
    by_cases c : W.1 2 (msl π W).1 5 = 0
    · rw [if_pos ⟨c, rfl⟩, if_pos c]
    · rw [if_neg (fun q => c q.1), if_neg c]
  unfold G_X5_stepIsDue G_X5_stepIsDue_21
  refine hg (h.sc 5 0 6 ⟨rfl, by omega, by omega⟩) ?_
  refine hif (fun c => ?_) (fun c => ?_)
  · refine hm2 (k22 0) (fun r s' q => ⟨q.1.trans ?_, q.2⟩)
    rw [e21]
    by_cases c1 : W.1 2 (msl π W).1 5 = 0
    · rw [if_pos c1, if_pos ⟨c1, Or.inr c⟩]
    · rw [if_neg c1, if_neg (fun q => c1 q.1)]
  · refine hb (e_bgs h hI.ck hQ) ?_
    by_cases c3 : mbgn π W
    · rw [if_pos c3]
      refine hF (by decide) (hm2 (k22 0) (fun r s' q => ⟨q.1.trans ?_, q.2⟩))
      rw [e21]
      by_cases c1 : W.1 2 (msl π W).1 5 = 0
      · rw [if_pos c1, if_pos ⟨c1, Or.inl c3⟩]
      · rw [if_neg c1, if_neg (fun q => c1 q.1)]
    · rw [if_neg c3]
      refine hT rfl (hm2 (k22 1) (fun r s' q => ⟨q.1.trans ?_, q.2⟩))
      rw [if_neg (fun q => absurd q.2 (by decide)), if_neg (fun q => q.2.elim c3 c)])
theorem kA0 (f : fr kAc s s') : fr (fun q => kAc q ∨ cK 0 q) s s' := f.mono (fun _ => Or.inl)
theorem kC0 (f : fr (cK 0) s s') : fr (fun q => kAc q ∨ cK 0 q) s s' := f.mono (fun _ => Or.inr)
theorem c_tk (hQ : mQ π) {N : Nat} (hN : N ≤ 200) : ∀ (fu k i : Nat) (acts : List mAct) (T n : Nat) (W : mW) (st : Nat) (s : gS), cT θ π n 0 s s W → cA s acts → MV π acts T n W → k < fu → i + k = N → gh (G_X10_tick_28 θ fu (nI N) (nI st) (nI i)) s (fun r s' => r = nI (mtick π k acts T n W st).2.2.2.2 ∧ cT θ π (mtick π k acts T n W st).2.2.1 0 s' s' (mtick π k acts T n W st).2.2.2.1 ∧ cA s' (mtick π k acts T n W st).1 ∧ fr (fun q => kAc q ∨ cK 0 q) s s')
  | 0, k, i, acts, T, n, W, st, s, _, _, _, h, _ => by omega
  | fu + 1, 0, i, acts, T, n, W, st, s, hw, hA, hV, hf, hi => by
    unfold G_X10_tick_28
    exact hT ((nI_leI (by omega) (by omega)).mpr (by omega)) (hr ⟨rfl, hw, hA, fr.rf⟩)
  | fu + 1, k + 1, i, acts, T, n, W, st, s, hw, hA, hV, hf, hi => by
    have hI := hV.2.1
    unfold G_X10_tick_28
    refine hF (fun q => absurd ((nI_leI (by omega) (by omega)).mp q) (by omega)) (hb (e_sdue hw hI hQ) ?_)
    have hl := hV.1.1
    have hn := hV.1.2.1
    unfold mtick
    by_cases c : mrdy π W
    · rw [if_pos c, if_pos c]
      refine hF (by decide) (hb (e_count hA) ?_)
      by_cases c2 : acts.length = 3000
      · rw [if_pos c2]
        refine hT (by rw [c2]; rfl) ?_
        unfold G_X10_tick_60
        exact hr ⟨rfl, hw, hA, fr.rf⟩
      · rw [if_neg c2]
        refine hF (fun e => c2 ((nI_eq (b := 3000) (by omega) (by omega)).mp e)) ?_
        unfold G_X10_tick_63 G_X10_tick_123
        refine hF (by decide) (hb (e_slD hw hI.ck hQ) (hg (e_time hw hI.ck) (hb (e_due hw hI hQ (by omega) rfl) ?_)))
        refine hc (c_act hA (by omega) (msl π W).1 T false (mins π W (msl π W).1) rfl) (fun _ s1 z1 => ?_)
        have hw1 := hw.ac z1.2
        refine hc (c_pass1 hw1 hI hQ (by omega) (by omega)) (fun _ s2 z2 => ?_)
        rw [nI_1, nI_1]
        have hA2 : cA s2 (acts ++ [((msl π W).1, false, T, mins π W (msl π W).1)]) := z1.1.cg (fun q hq => z2.fm.1 q (fun z => by have := z.2.2; omega))
        refine hm2 (c_tk hQ hN fu k (i + 1) _ (T + 1) (n + 1) (mpass π W true) (st + 1) s2 z2.rf hA2 (hV.step hQ (by omega) c) (by omega) (by omega)) (fun r s3 z3 => ⟨z3.1, z3.2.1, z3.2.2.1, ((kA0 z1.2).tr (kC0 z2.fm)).tr z3.2.2.2⟩)
    · rw [if_neg c, if_neg c]
      refine hT rfl ?_
      unfold G_X10_tick_63 G_X10_tick_123
      refine hT rfl (hc (c_pass0 hw hI hQ) (fun _ s2 z2 => ?_))
      rw [nI_1]
      have hA2 : cA s2 acts := hA.cg (fun q hq => z2.fm.1 q (fun z => by have := z.2.2; omega))
      refine hm2 (c_tk hQ hN fu k (i + 1) _ (T + 1) n (mpass π W false) st s2 z2.rf hA2 (hV.idle hQ) (by omega) (by omega)) (fun r s3 z3 => ⟨z3.1, z3.2.1, z3.2.2.1, (kC0 z2.fm).tr z3.2.2.2⟩)
theorem r_tk (hQ : mQ π) {N : Nat} (hN : N ≤ 200) : ∀ (fu k i : Nat) (acts : List mAct) (T n : Nat) (W : mW) (st : Nat) (s : gS), rT π n 0 (if mbgn π W then 1 else 0) s s W → rA s acts → MV π acts T n W → k < fu → i + k = N → gh (G_X11_tick_25 θ fu (nI N) (nI st) (nI i)) s (fun r s' => r = nI (mtick π k acts T n W st).2.2.2.2 ∧ rT π (mtick π k acts T n W st).2.2.1 0 (if mbgn π (mtick π k acts T n W st).2.2.2.1 then 1 else 0) s' s' (mtick π k acts T n W st).2.2.2.1 ∧ rA s' (mtick π k acts T n W st).1 ∧ nr s s')
  | 0, k, i, acts, T, n, W, st, s, _, _, _, h, _ => by omega
  | fu + 1, 0, i, acts, T, n, W, st, s, hw, hA, hV, hf, hi => by
    unfold G_X11_tick_25
    exact hT ((nI_leI (by omega) (by omega)).mpr (by omega)) (hr ⟨rfl, hw, hA, nr.rf⟩)
  | fu + 1, k + 1, i, acts, T, n, W, st, s, hw, hA, hV, hf, hi => by
    have hI := hV.2.1
    have hl := hV.1.1
    have hn := hV.1.2.1
    unfold G_X11_tick_25
    refine hF (fun q => absurd ((nI_leI (by omega) (by omega)).mp q) (by omega)) (hb (e_rdy (w := 0) hw hI hQ rfl) ?_)
    unfold mtick
    by_cases c : mrdy π W
    · rw [if_pos c, if_pos c]
      refine hF (by decide) (hg hA.1 ?_)
      by_cases c2 : acts.length = 3000
      · rw [if_pos c2]
        exact hT (by rw [c2]; rfl) (hr ⟨rfl, hw, hA, nr.rf⟩)
      · rw [if_neg c2]
        refine hF (fun e => c2 ((nI_eq (b := 3000) (by omega) (by omega)).mp e)) ?_
        unfold G_X11_tick_54 G_X11_tick_83
        refine hF (by decide) (hb (e_slR (w := 0) hw hI.ck hQ) (hb (e_insR (w := 0) hw hI hQ (by omega) (hI.sl hQ).1) ?_))
        refine hc (r_note hA hw.ln (by omega) (r_time hw hI.ck) (msl π W).1 false (mins π W (msl π W).1) rfl) (fun _ s1 z1 => ?_)
        have hw1 := hw.nt z1.2
        refine hc (r_pass (w := 0) hw1 hI hQ rfl (by omega) true (fun _ => by omega)) (fun _ s2 z2 => ?_)
        rw [nI_1, nI_1]
        have z2' : rT π (n + 1) 0 (if mbgn π (mpass π W true) then 1 else 0) s1 s2 (mpass π W true) := z2
        refine hm2 (r_tk hQ hN fu k (i + 1) _ (T + 1) (n + 1) (mpass π W true) (st + 1) s2 z2'.rf (z1.1.wo z2'.fm) (hV.step hQ (by omega) c) (by omega) (by omega)) (fun r s3 z3 => ⟨z3.1, z3.2.1, z3.2.2.1, (z1.2.nr.tr z2'.fm.nr).tr z3.2.2.2⟩)
    · rw [if_neg c, if_neg c]
      refine hT rfl ?_
      unfold G_X11_tick_54 G_X11_tick_83
      refine hT rfl (hc (r_pass (w := 0) hw hI hQ rfl (by omega) false (fun z => by cases z)) (fun _ s2 z2 => ?_))
      rw [nI_1]
      have z2' : rT π n 0 (if mbgn π (mpass π W false) then 1 else 0) s s2 (mpass π W false) := z2
      refine hm2 (r_tk hQ hN fu k (i + 1) _ (T + 1) n (mpass π W false) st s2 z2'.rf (hA.wo z2'.fm) (hV.idle hQ) (by omega) (by omega)) (fun r s3 z3 => ⟨z3.1, z3.2.1, z3.2.2.1, z2'.fm.nr.tr z3.2.2.2⟩)
theorem P_tick (J : JI θ π sl acts T n W b1 b2 s) (hc' : T + 200 ≤ c) (x1 : Int32) : PP θ (G_X10_tick θ x1) (G_X11_tick θ x1) c b1 b2 s := by
  have hc2 : T ≤ c := by omega
  cases sl with
  | false =>
    refine pp_no J hc2 (-1) ?_ ?_
    · unfold G_X10_tick; exact hg J.cs (hT rfl (hr ⟨rfl, rfl⟩))
    · unfold G_X11_tick; exact hg J.rs (hT rfl (hr ⟨rfl, rfl⟩))
  | true =>
    by_cases c1 : x1 < 1
    · refine pp_no J hc2 (-1) ?_ ?_
      · unfold G_X10_tick; exact hg J.cs (hF (by decide) (hT c1 (hr ⟨rfl, rfl⟩)))
      · unfold G_X11_tick; exact hg J.rs (hF (by decide) (hT c1 (hr ⟨rfl, rfl⟩)))
    · by_cases c2 : x1 ≤ (200 : Int32)
      · obtain ⟨N, hNi, rfl⟩ := nI_of (x := x1) (fun q => c1 (Int32.lt_trans q (by decide)))
        have hN : N ≤ 200 := (nI_leI (b := 200) hNi (by omega)).mp c2
        have q := J.qs rfl
        have hQ := J.q0.up q.1
        have V : MV π acts T n W := ⟨J.na, q.2⟩
        have rr : rT π n 0 (if mbgn π W then 1 else 0) s s W := by have := J.rr; rw [if_pos rfl] at this; exact this
        unfold PP G_X10_tick
        refine hg J.cs (hF (by decide) (hF c1 (hT c2 ?_)))
        refine hm2 (c_tk (N := N) hQ hN mo_fu N 0 acts T n W 0 s J.cw J.ca V (by unfold mo_fu; omega) (by omega)) (fun r s1 z1 => ?_)
        have f1 := z1.2.2.2
        have rr1 := rr.cl (fr41 f1)
        have ra1 := J.ra.cl (fr41 f1)
        unfold G_X11_tick
        refine hg (v := 1) (by show Prod.fst s1 (rk 41) 13 = 1; rw [((fr41 f1).1 (rk 41) (by decide)).1]; exact J.rs) (hF (by decide) (hF c1 (hT c2 ?_)))
        refine hm2 (r_tk (N := N) hQ hN mo_fu N 0 acts T n W 0 s1 rr1 ra1 V (by unfold mo_fu; omega) (by omega)) (fun r2 s2 z2 => ⟨z2.1.trans z1.1.symm, ?_⟩)
        have V' := mtick_v hQ N acts T n W 0 V
        exact ⟨π, true, _, _, _, _, JI_st J f1 z2.2.2.2 z1.2.1 z2.2.1 z1.2.2.1 z2.2.2.1 V'.1.1 V'.1.2.1 V'.1.2.2.1 V'.1.2.2.2.1 V'.1.2.2.2.2, by have := V'.2; omega⟩
      · refine pp_no J hc2 (-1) ?_ ?_
        · unfold G_X10_tick; exact hg J.cs (hF (by decide) (hF c1 (hF c2 (hr ⟨rfl, rfl⟩))))
        · unfold G_X11_tick; exact hg J.rs (hF (by decide) (hF c1 (hF c2 (hr ⟨rfl, rfl⟩))))
end JT
