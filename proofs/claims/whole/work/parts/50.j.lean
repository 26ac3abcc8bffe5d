/-! BOTH KERNELS OVER ONE STORE -/
def mz : mW := (fun _ _ _ => 0, fun _ _ => [], fun _ _ => [])
def mQ0 (π : mP) : Prop := (mPok π) ∧ (∀ a, a < 3 → (psl π a).length ≤ 12 ∧ ∀ b, b < (psl π a).length → ((psl π a).getD b (0, 0)).1 < π.1 ∧ 1 ≤ ((psl π a).getD b (0, 0)).2 ∧ ((psl π a).getD b (0, 0)).2 ≤ 20) ∧ (∀ d, d < π.1 → (ppr π d).length ≤ 64) ∧ (∀ c, c < π.2.1 → 1 ≤ psz π c ∧ psz π c ≤ 4 ∧ plk π c 3 = nI (psz π c) ∧ (plk π c 2 = 0 ∨ plk π c 2 = 1)) ∧ (∀ d, d < π.1 → pwy π d = 0 ∨ pwy π d = 1 ∨ pwy π d = 2)
theorem mQ0.pok {π : mP} (h : mQ0 π) : mPok π := h.1
theorem mQ0.sl {π : mP} (h : mQ0 π) : ∀ a, a < 3 → (psl π a).length ≤ 12 ∧ ∀ b, b < (psl π a).length → ((psl π a).getD b (0, 0)).1 < π.1 ∧ 1 ≤ ((psl π a).getD b (0, 0)).2 ∧ ((psl π a).getD b (0, 0)).2 ≤ 20 := h.2.1
theorem mQ0.pr {π : mP} (h : mQ0 π) : ∀ d, d < π.1 → (ppr π d).length ≤ 64 := h.2.2.1
theorem mQ0.lk {π : mP} (h : mQ0 π) : ∀ c, c < π.2.1 → 1 ≤ psz π c ∧ psz π c ≤ 4 ∧ plk π c 3 = nI (psz π c) ∧ (plk π c 2 = 0 ∨ plk π c 2 = 1) := h.2.2.2.1
theorem mQ0.wy {π : mP} (h : mQ0 π) : ∀ d, d < π.1 → pwy π d = 0 ∨ pwy π d = 1 ∨ pwy π d = 2 := h.2.2.2.2
theorem mQ0.up {π : mP} (h : mQ0 π) (h0 : 0 < (psl π 0).length) : mQ π := ⟨h.pok, h.sl, h0, h.pr, h.lk, h.wy⟩
def jP (θ : gT) (π : mP) (s : gS) : Prop := (θ.2.2.1 = false → s.1 (rk 41) 54 = -1) ∧ (θ.2.2.1 = true → ∃ n1 X1 pa bv1, n1 ≤ 3000 ∧ cT θ π n1 1 s s X1 ∧ rT π n1 1 bv1 s s X1 ∧ (∃ t1, mI π n1 t1 X1) ∧ pa ≤ 3000 ∧ s.1 (pk 35 1 0) 3 = nI pa ∧ s.1 (rk 41) 54 = nI pa ∧ pa ≤ s.2.1 (pk 36 1 0) ∧ ∀ j, j < pa → s.1 (pk 36 1 0) j = s.1 (rk 94) j) ∧ (θ.2.2.2 = true → ∃ n2 X2, cT θ π n2 2 s s X2) ∧ (θ.2.2.1 = true → 4 ≤ s.2.1 (pk 36 1 0) ∧ s.2.1 (pk 36 1 0) ≤ 6000) ∧ (θ.2.2.2 = true → 4 ≤ s.2.1 (pk 36 2 0) ∧ s.2.1 (pk 36 2 0) ≤ 6000) ∧ ((θ.2.2.1 = false → ∀ k i, 15 ≤ k → k < 37 → s.2.1 (pk k 1 i) = 0) ∧ (θ.2.2.2 = false → ∀ k i, 15 ≤ k → k < 37 → s.2.1 (pk k 2 i) = 0))
theorem jP.p0 {θ : gT} {π : mP} {s : gS} (h : jP θ π s) : θ.2.2.1 = false → s.1 (rk 41) 54 = -1 := h.1
theorem jP.p1 {θ : gT} {π : mP} {s : gS} (h : jP θ π s) : θ.2.2.1 = true → ∃ n1 X1 pa bv1, n1 ≤ 3000 ∧ cT θ π n1 1 s s X1 ∧ rT π n1 1 bv1 s s X1 ∧ (∃ t1, mI π n1 t1 X1) ∧ pa ≤ 3000 ∧ s.1 (pk 35 1 0) 3 = nI pa ∧ s.1 (rk 41) 54 = nI pa ∧ pa ≤ s.2.1 (pk 36 1 0) ∧ ∀ j, j < pa → s.1 (pk 36 1 0) j = s.1 (rk 94) j := h.2.1
theorem jP.p2 {θ : gT} {π : mP} {s : gS} (h : jP θ π s) : θ.2.2.2 = true → ∃ n2 X2, cT θ π n2 2 s s X2 := h.2.2.1
theorem jP.l1 {θ : gT} {π : mP} {s : gS} (h : jP θ π s) : θ.2.2.1 = true → 4 ≤ s.2.1 (pk 36 1 0) ∧ s.2.1 (pk 36 1 0) ≤ 6000 := h.2.2.2.1
theorem jP.l2 {θ : gT} {π : mP} {s : gS} (h : jP θ π s) : θ.2.2.2 = true → 4 ≤ s.2.1 (pk 36 2 0) ∧ s.2.1 (pk 36 2 0) ≤ 6000 := h.2.2.2.2.1
theorem jP.zr {θ : gT} {π : mP} {s : gS} (h : jP θ π s) : (θ.2.2.1 = false → ∀ k i, 15 ≤ k → k < 37 → s.2.1 (pk k 1 i) = 0) ∧ (θ.2.2.2 = false → ∀ k i, 15 ≤ k → k < 37 → s.2.1 (pk k 2 i) = 0) := h.2.2.2.2.2
def jB (b1 b2 : Nat) (s : gS) : Prop := gLB s ∧ 4 * s.2.2.1 ≤ b1 + gpot s ∧ s.2.2.2 ≤ b2 + 2 * gpot s
def JI (θ : gT) (π : mP) (sl : Bool) (acts : List mAct) (T n : Nat) (W : mW) (b1 b2 : Nat) (s : gS) : Prop := (cT θ π n 0 s s W) ∧ (rT π n 0 (if sl = true then (if mbgn π W then 1 else 0) else 0) s s W) ∧ (s.1 (pk 1 0 0) 8 = if sl = true then 1 else 0) ∧ (s.1 (rk 41) 13 = if sl = true then 1 else 0) ∧ (cA s acts) ∧ (rA s acts) ∧ (acts.length ≤ 3000 ∧ n ≤ acts.length ∧ ∀ a, a ∈ acts → a.1 < π.1) ∧ (∀ d, d < π.1 → (W.2.1 0 d).length ≤ 8 ∧ (W.2.1 1 d).length ≤ 200) ∧ (mQ0 π) ∧ (sl = true → 0 < (psl π 0).length ∧ mI π n T W ∧ mokf π (mall acts) 0 (mres π) ∧ mend (mall acts) 0 ≤ T ∧ mrep π (mall acts) 0 (mres π) T = W) ∧ (sl = false → W = mz ∧ acts = [] ∧ n = 0 ∧ θ.2.2.1 = false ∧ θ.2.2.2 = false ∧ T = 0 ∧ (∀ k x, 61 ≤ k → k ≤ 93 → s.1 (rk k) x = 0) ∧ ∀ k i, 26 ≤ k → k ≤ 31 → π.2.1 ≤ i → s.2.1 (pk k 0 i) = 0) ∧ (jP θ π s) ∧ (jB b1 b2 s)
theorem JI.cw {θ : gT} {π : mP} {sl : Bool} {acts : List mAct} {T n : Nat} {W : mW} {b1 b2 : Nat} {s : gS} (h : JI θ π sl acts T n W b1 b2 s) : cT θ π n 0 s s W := h.1
theorem JI.rr {θ : gT} {π : mP} {sl : Bool} {acts : List mAct} {T n : Nat} {W : mW} {b1 b2 : Nat} {s : gS} (h : JI θ π sl acts T n W b1 b2 s) : rT π n 0 (if sl = true then (if mbgn π W then 1 else 0) else 0) s s W := h.2.1
theorem JI.cs {θ : gT} {π : mP} {sl : Bool} {acts : List mAct} {T n : Nat} {W : mW} {b1 b2 : Nat} {s : gS} (h : JI θ π sl acts T n W b1 b2 s) : s.1 (pk 1 0 0) 8 = if sl = true then 1 else 0 := h.2.2.1
theorem JI.rs {θ : gT} {π : mP} {sl : Bool} {acts : List mAct} {T n : Nat} {W : mW} {b1 b2 : Nat} {s : gS} (h : JI θ π sl acts T n W b1 b2 s) : s.1 (rk 41) 13 = if sl = true then 1 else 0 := h.2.2.2.1
theorem JI.ca {θ : gT} {π : mP} {sl : Bool} {acts : List mAct} {T n : Nat} {W : mW} {b1 b2 : Nat} {s : gS} (h : JI θ π sl acts T n W b1 b2 s) : cA s acts := h.2.2.2.2.1
theorem JI.ra {θ : gT} {π : mP} {sl : Bool} {acts : List mAct} {T n : Nat} {W : mW} {b1 b2 : Nat} {s : gS} (h : JI θ π sl acts T n W b1 b2 s) : rA s acts := h.2.2.2.2.2.1
theorem JI.na {θ : gT} {π : mP} {sl : Bool} {acts : List mAct} {T n : Nat} {W : mW} {b1 b2 : Nat} {s : gS} (h : JI θ π sl acts T n W b1 b2 s) : acts.length ≤ 3000 ∧ n ≤ acts.length ∧ ∀ a, a ∈ acts → a.1 < π.1 := h.2.2.2.2.2.2.1
theorem JI.io {θ : gT} {π : mP} {sl : Bool} {acts : List mAct} {T n : Nat} {W : mW} {b1 b2 : Nat} {s : gS} (h : JI θ π sl acts T n W b1 b2 s) : ∀ d, d < π.1 → (W.2.1 0 d).length ≤ 8 ∧ (W.2.1 1 d).length ≤ 200 := h.2.2.2.2.2.2.2.1
theorem JI.q0 {θ : gT} {π : mP} {sl : Bool} {acts : List mAct} {T n : Nat} {W : mW} {b1 b2 : Nat} {s : gS} (h : JI θ π sl acts T n W b1 b2 s) : mQ0 π := h.2.2.2.2.2.2.2.2.1
theorem JI.qs {θ : gT} {π : mP} {sl : Bool} {acts : List mAct} {T n : Nat} {W : mW} {b1 b2 : Nat} {s : gS} (h : JI θ π sl acts T n W b1 b2 s) : sl = true → 0 < (psl π 0).length ∧ mI π n T W ∧ mokf π (mall acts) 0 (mres π) ∧ mend (mall acts) 0 ≤ T ∧ mrep π (mall acts) 0 (mres π) T = W := h.2.2.2.2.2.2.2.2.2.1
theorem JI.us {θ : gT} {π : mP} {sl : Bool} {acts : List mAct} {T n : Nat} {W : mW} {b1 b2 : Nat} {s : gS} (h : JI θ π sl acts T n W b1 b2 s) : sl = false → W = mz ∧ acts = [] ∧ n = 0 ∧ θ.2.2.1 = false ∧ θ.2.2.2 = false ∧ T = 0 ∧ (∀ k x, 61 ≤ k → k ≤ 93 → s.1 (rk k) x = 0) ∧ ∀ k i, 26 ≤ k → k ≤ 31 → π.2.1 ≤ i → s.2.1 (pk k 0 i) = 0 := h.2.2.2.2.2.2.2.2.2.2.1
theorem JI.jp {θ : gT} {π : mP} {sl : Bool} {acts : List mAct} {T n : Nat} {W : mW} {b1 b2 : Nat} {s : gS} (h : JI θ π sl acts T n W b1 b2 s) : jP θ π s := h.2.2.2.2.2.2.2.2.2.2.2.1
theorem JI.jb {θ : gT} {π : mP} {sl : Bool} {acts : List mAct} {T n : Nat} {W : mW} {b1 b2 : Nat} {s : gS} (h : JI θ π sl acts T n W b1 b2 s) : jB b1 b2 s := h.2.2.2.2.2.2.2.2.2.2.2.2
/-- both answer the same and change nothing -/
def RE (g1 g2 : gM Int32) (s : gS) : Prop := ∃ r, g1 s = some (r, s) ∧ g2 s = some (r, s)
section RE
variable {s : gS} {g1 g2 : gM Int32}
theorem re_if {c : Prop} [Decidable c] {a1 b1 a2 b2 : gM Int32} (h1 : c → RE a1 b1 s) (h2 : ¬ c → RE a2 b2 s) : RE (gif c a1 a2) (gif c b1 b2) s := by
  unfold gif
  by_cases hc : c
  · rw [if_pos hc, if_pos hc]; exact h1 hc
  · rw [if_neg hc, if_neg hc]; exact h2 hc
theorem re_ret {x : Int32} : RE (gret x) (gret x) s := ⟨x, rfl, rfl⟩
theorem re_of {v : Int32} (h1 : gh g1 s (fun r s' => r = v ∧ s' = s)) (h2 : gh g2 s (fun r s' => r = v ∧ s' = s)) : RE g1 g2 s := ⟨v, gh_eq h1, gh_eq h2⟩
theorem re_b {a b : Int32} {f1 f2 : gM Int32} {k1 k2 : Int32 → gM Int32} (h1 : f1 s = some (a, s)) (h2 : f2 s = some (b, s)) (k : RE (k1 a) (k2 b) s) : RE (gb f1 k1) (gb f2 k2) s := by
  obtain ⟨r, e1, e2⟩ := k
  refine ⟨r, ?_, ?_⟩
  · show gbf (f1 s) k1 = _; rw [h1]; exact e1
  · show gbf (f2 s) k2 = _; rw [h2]; exact e2
theorem re_l {a : Int32} {f1 : gM Int32} {k1 : Int32 → gM Int32} (h1 : f1 s = some (a, s)) (k : RE (k1 a) g2 s) : RE (gb f1 k1) g2 s := by
  obtain ⟨r, e1, e2⟩ := k
  refine ⟨r, ?_, e2⟩
  show gbf (f1 s) k1 = _; rw [h1]; exact e1
theorem re_rt {a : Int32} {f2 : gM Int32} {k2 : Int32 → gM Int32} (h2 : f2 s = some (a, s)) (k : RE g1 (k2 a) s) : RE g1 (gb f2 k2) s := by
  obtain ⟨r, e1, e2⟩ := k
  refine ⟨r, e1, ?_⟩
  show gbf (f2 s) k2 = _; rw [h2]; exact e2
theorem re_rF {c : Prop} [Decidable c] {a b : gM Int32} (hc : ¬ c) (k : RE g1 b s) : RE g1 (gif c a b) s := by
  unfold gif
  rw [if_neg hc]; exact k
theorem re_x {n j : Nat} {x : Int32} {k1 : Nat → gM Int32} (e : x = nI j) (hj : j < n) (hn : n < 2 ^ 31) (k : RE (k1 j) g2 s) : RE (gb (gx n x) k1) g2 s := by
  obtain ⟨r, e1, e2⟩ := k
  subst e
  refine ⟨r, ?_, e2⟩
  show gbf (gx n (nI j) s) k1 = _
  unfold gx
  rw [if_neg (nI_in hj hn), nI_clamp (by omega)]
  exact e1
end RE
section RD
variable {θ : gT} {π : mP} {n w : Nat} {bv : Int32} {s0 s s' : gS} {W : mW} {d : Nat} {sl : Bool} {acts : List mAct} {T b1 b2 : Nat}
theorem rF_len0 (h : rT π n w bv s0 s W) (hz : ∀ c, c < π.2.1 → psz π c ≤ 4) {j i k : Nat} (hr : mR π j i k) : (rF w j i k).2 < rLen (rF w j i k).1 := by
  have v := rKd_v hr
  have hw := h.w3
  have ht := h.pl.t1
  rw [rF_1]
  rcases mR_lt hr with rfl | rfl | rfl | rfl | rfl | rfl
  · rw [(rF_2 w i k).1, show rKd 0 k = 61 by omega]
    have := hr.1; have := hr.2
    show _ < 144
    omega
  · rw [(rF_2 w i k).2.1, show rKd 1 k = 62 by omega]
    have := hr.1; have := hr.2
    show _ < 576
    omega
  · rw [(rF_2 w i k).2.2.1]
    have := hr.1
    have e : rLen (rKd 2 k) = 18 := by
      have : rKd 2 k = 63 ∨ rKd 2 k = 64 ∨ rKd 2 k = 69 ∨ rKd 2 k = 70 ∨ rKd 2 k = 71 := by omega
      rcases this with e | e | e | e | e <;> rw [e] <;> rfl
    rw [e]; omega
  · rw [(rF_2 w i k).2.2.2.1]
    have := hr.1
    have e : rLen (rKd 3 k) = 36 := by
      have : rKd 3 k = 78 ∨ rKd 3 k = 79 ∨ rKd 3 k = 81 ∨ rKd 3 k = 82 := by omega
      rcases this with e | e | e | e <;> rw [e] <;> rfl
    rw [e]; omega
  · rw [(rF_2 w i k).2.2.2.2.1, show rKd 4 k = 80 by omega]
    have := hr.1; have := hr.2; have := hz i hr.1
    show _ < 144
    omega
  · rw [(rF_2 w i k).2.2.2.2.2]
    have e : rLen (rKd 5 k) = 3 := by
      have : rKd 5 k = 87 ∨ rKd 5 k = 88 ∨ rKd 5 k = 89 ∨ rKd 5 k = 90 ∨ rKd 5 k = 91 ∨ rKd 5 k = 93 := by omega
      rcases this with e | e | e | e | e | e <;> rw [e] <;> rfl
    rw [e]; omega
theorem rt_g0 (h : rT π n w bv s0 s W) (hz : ∀ c, c < π.2.1 → psz π c ≤ 4) {β : Type} {Q : β → gS → Prop} {j i k K idx : Nat} {x : Int32} {Kc : Int32 → gM β} (hr : mR π j i k) (hkk : rF w j i k = (K, idx)) (ex : x = nI idx) (kk : gh (Kc (W.1 j i k)) s Q) : gh (gb (gl (pk K 0 0) x) Kc) s Q := by
  have h1 := rF_len0 h hz hr
  have h2 := h.sc j i k hr
  have h3 := rKd_r hr
  rw [← rF_1 w j i k] at h3
  rw [hkk] at h1 h2 h3
  have := rLen_le K
  exact hl (i := idx) ex (Nat.lt_of_lt_of_eq h1 (h.ln K (by have := h3.1; omega)).symm) (by have : idx < rLen K := h1; omega) h2 kk
theorem JI.hz (J : JI θ π sl acts T n W b1 b2 s) : ∀ c, c < π.2.1 → psz π c ≤ 4 := fun c hc => (J.q0.lk c hc).2.1
/-- a domain's number or not -/
theorem dom_cs (π : mP) (x : Int32) : (∃ d, d < π.1 ∧ x = nI d ∧ (¬ x < 0 ∧ x.toNatClampNeg < π.1)) ∨ ¬ (¬ x < 0 ∧ x.toNatClampNeg < π.1) := by
  by_cases c : ¬ x < 0 ∧ x.toNatClampNeg < π.1
  · obtain ⟨j, hj, e⟩ := nI_of c.1
    refine Or.inl ⟨j, ?_, e, c⟩
    have := c.2
    rw [e, nI_clamp hj] at this
    exact this
  · exact Or.inr c
theorem e_regZ (h : cT θ π n w s0 s W) (hd : d < π.1) (x : Int32) : G_X3_registerOrZero θ w d x s = some (if x < 0 then 0 else if (8 : Int32) ≤ x then 0 else W.1 0 d x.toNatClampNeg, s) := gh_eq (by
  unfold G_X3_registerOrZero
  refine hif (fun c => by rw [if_pos c]; exact hr ⟨rfl, rfl⟩) (fun c => ?_)
  rw [if_neg c]
  refine hif (fun c2 => by rw [if_pos c2]; exact hr ⟨rfl, rfl⟩) (fun c2 => ?_)
  rw [if_neg c2]
  obtain ⟨k, hk, rfl⟩ := nI_of c
  have c2' : ¬ 8 ≤ k := fun q => c2 ((nI_leI (a := 8) (by omega) hk).mpr q)
  rw [nI_clamp hk]
  exact hl (i := k) rfl (by rw [(h.ln.1 d hd).1]; omega) hk (h.sc 0 d k ⟨hd, by omega⟩) (hr ⟨rfl, rfl⟩))
theorem e_celZ (h : cT θ π n w s0 s W) (hd : d < π.1) (x : Int32) : G_X3_cellOrZero θ w d x s = some (if x < 0 then 0 else if (32 : Int32) ≤ x then 0 else W.1 1 d x.toNatClampNeg, s) := gh_eq (by
  unfold G_X3_cellOrZero
  refine hb (e_has (m := 1) (by omega)) ?_
  by_cases c : x < 0
  · rw [if_pos c, if_neg (fun q => q.1 c)]
    exact hT rfl (hr ⟨rfl, rfl⟩)
  · obtain ⟨k, hk, rfl⟩ := nI_of c
    rw [if_neg c]
    by_cases c2 : (32 : Int32) ≤ nI k
    · have c2' : 32 ≤ k := (nI_leI (a := 32) (by omega) hk).mp c2
      rw [if_pos c2, if_neg (fun q => by have := q.2; rw [nI_clamp hk] at this; omega)]
      exact hT rfl (hr ⟨rfl, rfl⟩)
    · have c2' : ¬ 32 ≤ k := fun q => c2 ((nI_leI (a := 32) (by omega) hk).mpr q)
      rw [if_neg c2, if_pos ⟨c, by rw [nI_clamp hk]; omega⟩, nI_clamp hk]
      exact hF (by decide) (hl (i := k) rfl (by rw [(h.ln.1 d hd).2]; omega) hk (h.sc 1 d k ⟨hd, by omega⟩) (hr ⟨rfl, rfl⟩)))
/-- the reference's registers, cells, outputs at a domain's number -/
theorem r_reg (h : rT π n w bv s0 s W) (hz : ∀ c, c < π.2.1 → psz π c ≤ 4) (hd : d < π.1) (x : Int32) {y : Int32} (hy : y = nI (6 * w + d)) : gh (gif (x < 0) (gret 0) (gif ((8 : Int32) ≤ x) (gret 0) (gb (gl (pk 61 0 0) (((8 : Int32) * y) + x)) fun v2 => gret v2))) s (fun r s' => r = (if x < 0 then 0 else if (8 : Int32) ≤ x then 0 else W.1 0 d x.toNatClampNeg) ∧ s' = s) := by
  subst hy
  refine hif (fun c => by rw [if_pos c]; exact hr ⟨rfl, rfl⟩) (fun c => ?_)
  rw [if_neg c]
  refine hif (fun c2 => by rw [if_pos c2]; exact hr ⟨rfl, rfl⟩) (fun c2 => ?_)
  rw [if_neg c2]
  obtain ⟨k, hk, rfl⟩ := nI_of c
  have c2' : ¬ 8 ≤ k := fun q => c2 ((nI_leI (a := 8) (by omega) hk).mpr q)
  rw [nI_clamp hk]
  exact rt_g0 h hz (j := 0) (i := d) (k := k) ⟨hd, by omega⟩ rfl (by rw [m_8, nI_add]) (hr ⟨rfl, rfl⟩)
theorem r_cel (h : rT π n w bv s0 s W) (hz : ∀ c, c < π.2.1 → psz π c ≤ 4) (hd : d < π.1) (x : Int32) {y : Int32} (hy : y = nI (6 * w + d)) : gh (gif (x < 0) (gret 0) (gif ((32 : Int32) ≤ x) (gret 0) (gb (gl (pk 62 0 0) (((32 : Int32) * y) + x)) fun v2 => gret v2))) s (fun r s' => r = (if x < 0 then 0 else if (32 : Int32) ≤ x then 0 else W.1 1 d x.toNatClampNeg) ∧ s' = s) := by
  subst hy
  refine hif (fun c => by rw [if_pos c]; exact hr ⟨rfl, rfl⟩) (fun c => ?_)
  rw [if_neg c]
  refine hif (fun c2 => by rw [if_pos c2]; exact hr ⟨rfl, rfl⟩) (fun c2 => ?_)
  rw [if_neg c2]
  obtain ⟨k, hk, rfl⟩ := nI_of c
  have c2' : ¬ 32 ≤ k := fun q => c2 ((nI_leI (a := 32) (by omega) hk).mpr q)
  rw [nI_clamp hk]
  exact rt_g0 h hz (j := 1) (i := d) (k := k) ⟨hd, by omega⟩ rfl (by rw [m_32, nI_add]) (hr ⟨rfl, rfl⟩)
theorem r_outp (h : rT π n w bv s0 s W) (hio : (W.2.1 1 d).length ≤ 200) (hd : d < π.1) (x : Int32) {y : Int32} (hy : y = nI (6 * w + d)) : gh (gif (x < 0) (gret 0) (gb (gl (pk 68 0 0) y) fun v2 => (gif (v2 ≤ x) (gret 0) (gb (gl (pk 67 0 0) (((200 : Int32) * y) + x)) fun v3 => gret v3)))) s (fun r s' => r = (if x < 0 then 0 else (W.2.1 1 d).getD x.toNatClampNeg 0) ∧ s' = s) := by
  have hw := h.w3
  have ht := h.pl.t1
  subst hy
  refine hif (fun c => by rw [if_pos c]; exact hr ⟨rfl, rfl⟩) (fun c => ?_)
  rw [if_neg c]
  obtain ⟨k, hk, rfl⟩ := nI_of c
  rw [nI_clamp hk]
  refine hlr (i := 6 * w + d) rfl (h.ln 68 (by omega)) (by show _ < 18; omega) (h.io d hd).2.1 ?_
  refine hif (fun c2 => ?_) (fun c2 => ?_)
  · rw [nI_leI (by omega) hk] at c2
    rw [getD_def c2]; exact hr ⟨rfl, rfl⟩
  · rw [nI_leI (by omega) hk] at c2
    rw [m_200, nI_add]
    exact hlr (i := 200 * (6 * w + d) + k) rfl (h.ln 67 (by omega)) (by show _ < 3600; omega) ((h.io d hd).2.2 k (by omega)) (hr ⟨rfl, rfl⟩)
theorem r_num (h : rT π n w bv s0 s W) (hz : ∀ c, c < π.2.1 → psz π c ≤ 4) (hd : d < π.1) {k K : Nat} (hk : 4 ≤ k ∧ k ≤ 8) (hK : rF w 2 d k = (K, 6 * w + d)) {y : Int32} (hy : y = nI (6 * w + d)) : gh (gb (gl (pk K 0 0) y) fun v => gret v) s (fun r s' => r = W.1 2 d k ∧ s' = s) := by
  subst hy
  exact rt_g0 h hz (j := 2) (i := d) (k := k) ⟨hd, hk.1, hk.2⟩ hK rfl (hr ⟨rfl, rfl⟩)
theorem r_inn (h : rT π n w bv s0 s W) (hd : d < π.1) {y : Int32} (hy : y = nI (6 * w + d)) : gh (gb (gl (pk 66 0 0) y) fun v => gret v) s (fun r s' => r = nI (W.2.1 0 d).length ∧ s' = s) := by
  have hw := h.w3
  have ht := h.pl.t1
  subst hy
  exact hlr (i := 6 * w + d) rfl (h.ln 66 (by omega)) (by show _ < 18; omega) (h.io d hd).1.1 (hr ⟨rfl, rfl⟩)
theorem r_oun (h : rT π n w bv s0 s W) (hd : d < π.1) {y : Int32} (hy : y = nI (6 * w + d)) : gh (gb (gl (pk 68 0 0) y) fun v => gret v) s (fun r s' => r = nI (W.2.1 1 d).length ∧ s' = s) := by
  have hw := h.w3
  have ht := h.pl.t1
  subst hy
  exact hlr (i := 6 * w + d) rfl (h.ln 68 (by omega)) (by show _ < 18; omega) (h.io d hd).2.1 (hr ⟨rfl, rfl⟩)
theorem nI00 (d : Nat) : nI d = nI (6 * 0 + d) := by congr 1; omega
theorem nI61 (d : Nat) : (6 : Int32) + nI d = nI (6 * 1 + d) := nI_add 6 d
theorem gb_gret {g : gM Int32} {v : Int32} (h : g s = some (v, s)) : gh (gb g fun v3 => gret v3) s (fun r s' => r = v ∧ s' = s) := hb h (hr ⟨rfl, rfl⟩)
theorem P_register (J : JI θ π sl acts T n W b1 b2 s) (x1 x2 : Int32) : RE (G_X10_register θ x1 x2) (G_X11_register θ x1 x2) s := by
  have ht := J.cw.pl.t1
  unfold G_X10_register G_X11_register
  refine re_b (e_hasD J.cw.pl x1) (e_isD J.rr.pl x1) ?_
  rcases dom_cs π x1 with ⟨d, hd, rfl, c⟩ | c
  · rw [if_pos c]
    refine re_if (fun q => absurd q (by decide)) (fun _ => ?_)
    refine re_x rfl (by rw [ht.1]; exact hd) (by omega) ?_
    exact re_of (gb_gret (e_regZ J.cw hd x2)) (r_reg J.rr J.hz hd x2 (nI00 d))
  · rw [if_neg c]
    exact re_if (fun _ => re_ret) (fun q => absurd rfl q)
theorem P_cell (J : JI θ π sl acts T n W b1 b2 s) (x1 x2 : Int32) : RE (G_X10_cell θ x1 x2) (G_X11_cell θ x1 x2) s := by
  have ht := J.cw.pl.t1
  unfold G_X10_cell G_X11_cell
  refine re_b (e_hasD J.cw.pl x1) (e_isD J.rr.pl x1) ?_
  rcases dom_cs π x1 with ⟨d, hd, rfl, c⟩ | c
  · rw [if_pos c]
    refine re_if (fun q => absurd q (by decide)) (fun _ => ?_)
    refine re_x rfl (by rw [ht.1]; exact hd) (by omega) ?_
    exact re_of (gb_gret (e_celZ J.cw hd x2)) (r_cel J.rr J.hz hd x2 (nI00 d))
  · rw [if_neg c]
    exact re_if (fun _ => re_ret) (fun q => absurd rfl q)
theorem P_output (J : JI θ π sl acts T n W b1 b2 s) (x1 x2 : Int32) : RE (G_X10_output θ x1 x2) (G_X11_output θ x1 x2) s := by
  have ht := J.cw.pl.t1
  unfold G_X10_output G_X11_output
  refine re_b (e_hasD J.cw.pl x1) (e_isD J.rr.pl x1) ?_
  rcases dom_cs π x1 with ⟨d, hd, rfl, c⟩ | c
  · rw [if_pos c]
    refine re_if (fun q => absurd q (by decide)) (fun _ => ?_)
    refine re_x rfl (by rw [ht.1]; exact hd) (by omega) ?_
    exact re_of (gb_gret (e_get (J.cw.rw d hd).2 x2)) (r_outp J.rr (J.io d hd).2 hd x2 (nI00 d))
  · rw [if_neg c]
    exact re_if (fun _ => re_ret) (fun q => absurd rfl q)
theorem P_of (J : JI θ π sl acts T n W b1 b2 s) (x1 x2 : Int32) : RE (G_X10_of θ x1 x2) (G_X11_of θ x1 x2) s := by
  have ht := J.cw.pl.t1
  unfold G_X10_of G_X11_of
  refine re_b (e_hasD J.cw.pl x1) (e_isD J.rr.pl x1) ?_
  rcases dom_cs π x1 with ⟨d, hd, rfl, c⟩ | c
  · rw [if_pos c]
    refine re_if (fun q => absurd q (by decide)) (fun _ => ?_)
    refine re_x rfl (by rw [ht.1]; exact hd) (by omega) ?_
    have nm : ∀ k, 4 ≤ k ∧ k ≤ 8 → gh (gb (gg (pk 19 0 d) k) fun v3 => gret v3) s (fun r s' => r = W.1 2 d k ∧ s' = s) := fun k hk => hg (J.cw.sc 2 d k ⟨hd, hk.1, hk.2⟩) (hr ⟨rfl, rfl⟩)
    refine re_if (fun _ => re_of (nm 4 (by omega)) (r_num J.rr J.hz hd (k := 4) (by omega) rfl (nI00 d))) (fun _ => ?_)
    refine re_if (fun _ => re_of (nm 5 (by omega)) (r_num J.rr J.hz hd (k := 5) (by omega) rfl (nI00 d))) (fun _ => ?_)
    refine re_if (fun _ => re_of (hg (J.cw.rw d hd).1.1 (hr ⟨rfl, rfl⟩)) (r_inn J.rr hd (nI00 d))) (fun _ => ?_)
    refine re_if (fun _ => re_of (hg (J.cw.rw d hd).2.1 (hr ⟨rfl, rfl⟩)) (r_oun J.rr hd (nI00 d))) (fun _ => ?_)
    refine re_if (fun _ => re_of (nm 6 (by omega)) (r_num J.rr J.hz hd (k := 6) (by omega) rfl (nI00 d))) (fun _ => ?_)
    refine re_if (fun _ => re_of (nm 7 (by omega)) (r_num J.rr J.hz hd (k := 7) (by omega) rfl (nI00 d))) (fun _ => ?_)
    refine re_if (fun _ => re_of (nm 8 (by omega)) (r_num J.rr J.hz hd (k := 8) (by omega) rfl (nI00 d))) (fun _ => ?_)
    refine re_if (fun _ => ?_) (fun _ => re_ret)
    refine re_b (e_reign J.cw.pl hd) (e_rgn J.rr.pl (J.rr.ln 43 (by omega)) J.q0.pok hd) ?_
    exact re_if (fun _ => re_ret) (fun _ => re_ret)
  · rw [if_neg c]
    exact re_if (fun _ => re_ret) (fun q => absurd rfl q)
theorem e_age0 (h : rT π n 0 bv s0 s W) (hz : ∀ c, c < π.2.1 → psz π c ≤ 4) {c : Nat} (hc : c < π.2.1) : G_X11_ageOf θ 0 (nI c) s = some (mage W c, s) := gh_eq (by
  unfold G_X11_ageOf mage
  refine rt_g0 h hz (j := 3) (i := c) (k := 6) ⟨hc, by omega⟩ rfl (by congr 1; omega) ?_
  refine hif (fun q => ?_) (fun q => ?_)
  · rw [if_pos q]; exact hr ⟨rfl, rfl⟩
  · rw [if_neg q]
    refine rt_g0 h hz (j := 5) (i := 0) (k := 1) ⟨rfl, by omega, by omega⟩ rfl rfl ?_
    exact rt_g0 h hz (j := 3) (i := c) (k := 7) ⟨hc, by omega⟩ rfl (by congr 1; omega) (hr ⟨rfl, rfl⟩))
theorem hlr_e (h : rT π n w bv s0 s W) {c : Nat} (hc : c < π.2.1) : gh (gl (pk 47 0 0) (nI c)) s (fun r s' => r = plk π c 2 ∧ s' = s) := by
  have ht := h.pl.t1
  have hL : s.2.1 (pk 47 0 0) = 12 := h.ln 47 (by omega)
  refine ⟨plk π c 2, s, ?_, rfl, rfl⟩
  unfold gl
  rw [if_neg (fun q => q.elim (nI_pos (by omega)) (fun q => by rw [nI_clamp (by omega), hL] at q; omega)), nI_clamp (by omega)]
  rw [← h.pl.lk c 2 hc (by omega)]
  rfl
theorem P_at (J : JI θ π sl acts T n W b1 b2 s) (x1 x2 : Int32) : RE (G_X10_at θ x1 x2) (G_X11_at θ x1 x2) s := by
  have ht := J.cw.pl.t1
  unfold G_X10_at G_X11_at
  refine re_if (fun _ => re_ret) (fun c0 => ?_)
  refine re_b (b := nI π.2.1) (show gg (pk 1 0 0) 3 s = some (nI π.2.1, s) by rw [← J.cw.pl.nc]; rfl) (show gg (pk 41 0 0) 2 s = some (nI π.2.1, s) by rw [← J.rr.pl.nc]; rfl) ?_
  refine re_if (fun c1 => ?_) (fun _ => re_ret)
  obtain ⟨c, hc, rfl⟩ := nI_of c0
  rw [nI_ltI hc (by omega)] at c1
  refine re_x rfl (by rw [ht.2.1]; exact c1) (by omega) ?_
  have lk : ∀ k, k < 4 → gh (gb (gg (pk 4 0 c) k) fun v3 => gret v3) s (fun r s' => r = plk π c k ∧ s' = s) := fun k hk => hg (J.cw.pl.lk c k c1 hk) (hr ⟨rfl, rfl⟩)
  have lr : ∀ k K, k < 4 → K = 45 + k → gh (gb (gl (pk K 0 0) (nI c)) fun v3 => gret v3) s (fun r s' => r = plk π c k ∧ s' = s) := fun k K hk hK => by
    subst hK
    refine hlr (i := c) rfl (J.rr.ln (45 + k) (by omega)) ?_ (J.rr.pl.lk c k c1 hk) (hr ⟨rfl, rfl⟩)
    have : k = 0 ∨ k = 1 ∨ k = 2 ∨ k = 3 := by omega
    rcases this with rfl | rfl | rfl | rfl <;> (show c < 12; omega)
  have hcn := rM_cnt J.rr.ms c1
  have sc : ∀ k K, (k = 4 ∧ K = 78) ∨ (k = 6 ∧ K = 81) → gh (gb (gl (pk K 0 0) (nI c)) fun v3 => gret v3) s (fun r s' => r = W.1 3 c k ∧ s' = s) := fun k K hk => by
    rcases hk with ⟨rfl, rfl⟩ | ⟨rfl, rfl⟩
    · exact rt_g0 J.rr J.hz (j := 3) (i := c) (k := 4) ⟨c1, by omega⟩ rfl (by congr 1; omega) (hr ⟨rfl, rfl⟩)
    · exact rt_g0 J.rr J.hz (j := 3) (i := c) (k := 6) ⟨c1, by omega⟩ rfl (by congr 1; omega) (hr ⟨rfl, rfl⟩)
  have l2 : gl (pk 47 0 0) (nI c) s = some (plk π c 2, s) := gh_eq (hlr_e J.rr c1)
  refine re_if (fun _ => re_of (lk 0 (by omega)) (lr 0 45 (by omega) rfl)) (fun _ => ?_)
  refine re_if (fun _ => re_of (lk 1 (by omega)) (lr 1 46 (by omega) rfl)) (fun _ => ?_)
  refine re_if (fun _ => ?_) (fun _ => ?_)
  · refine re_b (b := plk π c 2) (show gg (pk 4 0 c) 2 s = some (plk π c 2, s) by rw [← J.cw.pl.lk c 2 c1 (by omega)]; rfl) l2 ?_
    exact re_if (fun _ => re_ret) (fun _ => re_ret)
  refine re_if (fun _ => re_of (lk 3 (by omega)) (lr 3 48 (by omega) rfl)) (fun _ => ?_)
  refine re_if (fun _ => re_of (gb_gret (e_left (J.cw.ms c c1).1)) (hlr (i := c) rfl (J.rr.ln 74 (by omega)) (by show _ < 36; omega) (by have := hcn.2.1; rw [show 12 * 0 + c = c by omega] at this; exact this) (hr ⟨rfl, rfl⟩))) (fun _ => ?_)
  refine re_if (fun _ => re_of (gb_gret (e_left (J.cw.ms c c1).2)) (hlr (i := c) rfl (J.rr.ln 77 (by omega)) (by show _ < 36; omega) (by have := hcn.2.2.1; rw [show 12 * 0 + c = c by omega] at this; exact this) (hr ⟨rfl, rfl⟩))) (fun _ => ?_)
  refine re_if (fun _ => re_of (hg (J.cw.sc 3 c 4 ⟨c1, by omega⟩) (hr ⟨rfl, rfl⟩)) (sc 4 78 (by omega))) (fun _ => ?_)
  refine re_if (fun _ => re_of (hg (J.cw.sc 3 c 6 ⟨c1, by omega⟩) (hr ⟨rfl, rfl⟩)) (sc 6 81 (by omega))) (fun _ => ?_)
  refine re_if (fun _ => ?_) (fun _ => re_ret)
  refine re_b (b := plk π c 2) (show gg (pk 4 0 c) 2 s = some (plk π c 2, s) by rw [← J.cw.pl.lk c 2 c1 (by omega)]; rfl) l2 ?_
  refine re_if (fun _ => re_ret) (fun _ => ?_)
  refine re_of (v := mage W c) (hg (J.cw.sc 5 0 1 ⟨rfl, by omega, by omega⟩) (hb (e_age J.cw c1) (hr ⟨rfl, rfl⟩))) (hb (e_age0 J.rr J.hz c1) (hr ⟨rfl, rfl⟩))
theorem P_told (J : JI θ π sl acts T n W b1 b2 s) (x1 : Int32) : RE (G_X10_told θ x1) (G_X11_told θ x1) s := by
  have ck : ∀ k K, 1 ≤ k → k ≤ 5 → K = 86 + k → RE (gb (gg (pk 18 0 0) k) fun v => gret v) (gb (gl (pk K 0 0) (0 : Int32)) fun v => gret v) s := fun k K k1 k2 hK => by
    subst hK
    refine re_of (v := W.1 5 0 k) (hg ?_ (hr ⟨rfl, rfl⟩)) (rt_g0 J.rr J.hz (j := 5) (i := 0) (k := k) ⟨rfl, k1, by omega⟩ ?_ rfl (hr ⟨rfl, rfl⟩))
    · have := J.cw.sc 5 0 k ⟨rfl, k1, by omega⟩
      have e : cF 0 5 0 k = (pk 18 0 0, k) := by
        show (if k = 6 then _ else _) = _
        rw [if_neg (by omega)]
      rw [e] at this
      exact this
    · show ((if k = 6 then 93 else 86 + k : Nat), 0) = _
      rw [if_neg (by omega)]
  have cnt : gh (gb (G_X0_count θ) fun v2 => gret v2) s (fun r s' => r = nI acts.length ∧ s' = s) := by
    have := J.ca.2.2.1.1
    rw [List.length_map] at this
    unfold G_X0_count
    exact hb (a := nI acts.length) (s1 := s) (gh_eq (hg this (hr ⟨rfl, rfl⟩))) (hr ⟨rfl, rfl⟩)
  unfold G_X10_told G_X11_told
  refine re_if (fun _ => ck 1 87 (by omega) (by omega) rfl) (fun _ => ?_)
  refine re_if (fun _ => re_of cnt (hg J.ra.1 (hr ⟨rfl, rfl⟩))) (fun _ => ?_)
  refine re_if (fun _ => ?_) (fun _ => ?_)
  · refine re_b (b := if sl = true then 1 else 0) (show gg (pk 1 0 0) 8 s = some ((if sl = true then 1 else 0), s) by rw [← J.cs]; rfl) (show gg (pk 41 0 0) 13 s = some ((if sl = true then 1 else 0), s) by rw [← J.rs]; rfl) ?_
    refine re_if (fun _ => re_ret) (fun c => ?_)
    have hsl : sl = true := by
      cases sl
      · exact absurd rfl c
      · rfl
    have q := J.qs hsl
    have hQ := J.q0.up q.1
    exact re_of (gb_gret (e_slD J.cw q.2.1.ck hQ)) (hb (e_slR J.rr q.2.1.ck hQ) (hr ⟨rfl, rfl⟩))
  refine re_if (fun _ => ck 3 89 (by omega) (by omega) rfl) (fun _ => ?_)
  refine re_if (fun _ => ck 2 88 (by omega) (by omega) rfl) (fun _ => ?_)
  refine re_if (fun _ => ck 4 90 (by omega) (by omega) rfl) (fun _ => ?_)
  refine re_if (fun _ => ck 5 91 (by omega) (by omega) rfl) (fun _ => ?_)
  refine re_if (fun _ => re_of (hg J.cw.pl.nc (hr ⟨rfl, rfl⟩)) (hg J.rr.pl.nc (hr ⟨rfl, rfl⟩))) (fun _ => ?_)
  refine re_if (fun _ => re_of (hg J.cw.pl.nd (hr ⟨rfl, rfl⟩)) (hg J.rr.pl.nd (hr ⟨rfl, rfl⟩))) (fun _ => ?_)
  refine re_if (fun _ => ?_) (fun _ => re_ret)
  refine re_b (b := if sl = true then 1 else 0) (show gg (pk 1 0 0) 8 s = some ((if sl = true then 1 else 0), s) by rw [← J.cs]; rfl) (show gg (pk 41 0 0) 13 s = some ((if sl = true then 1 else 0), s) by rw [← J.rs]; rfl) ?_
  exact re_if (fun _ => re_ret) (fun _ => re_ret)
theorem P_action (J : JI θ π sl acts T n W b1 b2 s) (x1 x2 : Int32) : RE (G_X10_action θ x1 x2) (G_X11_action θ x1 x2) s := by
  have hN := J.na.1
  unfold G_X10_action G_X11_action
  by_cases c : x1 < 0
  · have z : ∀ k w i l, cRow s k w i l → G_X9_get θ k w i x1 s = some (0, s) := fun k w i l h => by rw [e_get h, if_pos c]
    refine ⟨0, ?_, ?_⟩
    · refine gh_eq (hif (fun _ => gb_gret (z _ _ _ _ J.ca.1)) (fun _ => hif (fun _ => gb_gret (z _ _ _ _ J.ca.2.1)) (fun _ => hif (fun _ => gb_gret (z _ _ _ _ J.ca.2.2.1)) (fun _ => hif (fun _ => gb_gret (z _ _ _ _ J.ca.2.2.2)) (fun _ => hr ⟨rfl, rfl⟩)))))
    · exact gh_eq (hT c (hr ⟨rfl, rfl⟩))
  · obtain ⟨i, hi, rfl⟩ := nI_of c
    by_cases c2 : i < acts.length
    · have a := J.ra.2 i c2
      have g : ∀ (f : mAct → Int32) k j, cRow s 33 0 j (acts.map f) → k = 33 → gh (gb (G_X9_get θ k 0 j (nI i)) fun v => gret v) s (fun r s' => r = f (acts.getD i mdf) ∧ s' = s) := fun f k j h hk => by
        subst hk
        refine hb (e_getn h rfl hi) (hr ⟨?_, rfl⟩)
        rw [getD_map (d := mdf) c2]
      suffices hs : RE (gif (x2 = (0 : Int32)) (gb (G_X9_get θ 33 0 0 (nI i)) fun v1 => gret v1) (gif (x2 = (1 : Int32)) (gb (G_X9_get θ 33 0 1 (nI i)) fun v2 => gret v2) (gif (x2 = (2 : Int32)) (gb (G_X9_get θ 33 0 2 (nI i)) fun v3 => gret v3) (gif (x2 = (3 : Int32)) (gb (G_X9_get θ 33 0 3 (nI i)) fun v4 => gret v4) (gret (0 : Int32)))))) (gif (x2 = (0 : Int32)) (gb (gl (pk 57 0 0) (nI i)) fun v2 => gret v2) (gif (x2 = (1 : Int32)) (gb (gl (pk 58 0 0) (nI i)) fun v3 => (gif (v3 = 0) (gret (0 : Int32)) (gret (1 : Int32)))) (gif (x2 = (2 : Int32)) (gb (gl (pk 59 0 0) (nI i)) fun v4 => gret v4) (gif (x2 = (3 : Int32)) (gb (gl (pk 60 0 0) (nI i)) fun v5 => gret v5) (gret (0 : Int32)))))) s by
        obtain ⟨r, e1, e2⟩ := hs
        refine ⟨r, e1, gh_eq (hF c (hg J.ra.1 (hT ((nI_ltI hi (by omega)).mpr c2) ?_)))⟩
        exact ⟨r, s, e2, rfl, rfl⟩
      refine re_if (fun _ => re_of (g (fun a => nI a.1) 33 0 J.ca.1 rfl) (hlr (i := i) rfl (J.rr.ln 57 (by omega)) (by show _ < 3000; omega) a.1 (hr ⟨rfl, rfl⟩))) (fun _ => ?_)
      refine re_if (fun _ => re_of (g (fun a => if a.2.1 = true then 1 else 0) 33 1 J.ca.2.1 rfl) (hlr (i := i) rfl (J.rr.ln 58 (by omega)) (by show _ < 3000; omega) a.2.1 ?_)) (fun _ => ?_)
      · by_cases q : (acts.getD i mdf).2.1 = true
        · exact hF (by rw [if_pos q]; decide) (hr ⟨(if_pos q).symm, rfl⟩)
        · exact hT (by rw [if_neg q]) (hr ⟨(if_neg q).symm, rfl⟩)
      refine re_if (fun _ => re_of (g (fun a => nI a.2.2.1) 33 2 J.ca.2.2.1 rfl) (hlr (i := i) rfl (J.rr.ln 59 (by omega)) (by show _ < 3000; omega) a.2.2.1 (hr ⟨rfl, rfl⟩))) (fun _ => ?_)
      refine re_if (fun _ => re_of (g (fun a => a.2.2.2) 33 3 J.ca.2.2.2 rfl) (hlr (i := i) rfl (J.rr.ln 60 (by omega)) (by show _ < 3000; omega) a.2.2.2 (hr ⟨rfl, rfl⟩))) (fun _ => re_ret)
    · have z : ∀ (f : mAct → Int32) j, cRow s 33 0 j (acts.map f) → G_X9_get θ 33 0 j (nI i) s = some (0, s) := fun f j h => by
        rw [e_getn h rfl hi, getD_def (by rw [List.length_map]; omega)]
      refine ⟨0, ?_, ?_⟩
      · refine gh_eq (hif (fun _ => gb_gret (z _ _ J.ca.1)) (fun _ => hif (fun _ => gb_gret (z _ _ J.ca.2.1)) (fun _ => hif (fun _ => gb_gret (z _ _ J.ca.2.2.1)) (fun _ => hif (fun _ => gb_gret (z _ _ J.ca.2.2.2)) (fun _ => hr ⟨rfl, rfl⟩)))))
      · exact gh_eq (hF c (hg J.ra.1 (hF (fun q => c2 ((nI_ltI hi (by omega)).mp q)) (hr ⟨rfl, rfl⟩))))
theorem P_kept (J : JI θ π sl acts T n W b1 b2 s) (x1 : Int32) : RE (G_X10_kept θ x1) (G_X11_kept θ x1) s := by
  unfold G_X10_kept G_X11_kept G_X11_kept_12
  cases hθ : θ.2.2.1 with
  | false =>
    have e := J.jp.p0 hθ
    refine ⟨-1, rfl, gh_eq (hif (fun _ => hr ⟨rfl, rfl⟩) (fun c => hg e (hF (fun q => c ?_) (hr ⟨rfl, rfl⟩))))⟩
    exact Int32.lt_trans q (by decide)
  | true =>
    obtain ⟨n1, X1, pa, bv1, h1, h2, h3, h4, h5, h6, h7, h8, h9⟩ := J.jp.p1 hθ
    refine re_if (fun _ => re_ret) (fun c => ?_)
    refine re_b (b := nI pa) (show gg (pk 35 1 0) 3 s = some (nI pa, s) by rw [← h6]; rfl) (show gg (pk 41 0 0) 54 s = some (nI pa, s) by rw [← h7]; rfl) ?_
    refine re_if (fun c1 => ?_) (fun _ => re_ret)
    obtain ⟨i, hi, rfl⟩ := nI_of c
    rw [nI_ltI hi (by omega)] at c1
    have a1 : gl (pk 36 1 0) (nI i) s = some (s.1 (rk 94) i, s) := by
      unfold gl
      rw [if_neg (fun q => q.elim (nI_pos hi) (fun q => by rw [nI_clamp hi] at q; omega)), nI_clamp hi, h9 i c1]
    have a2 : gl (pk 94 0 0) (nI i) s = some (s.1 (rk 94) i, s) := by
      have hL : s.2.1 (pk 94 0 0) = 3000 := J.rr.ln 94 (by omega)
      unfold gl
      rw [if_neg (fun q => q.elim (nI_pos hi) (fun q => by rw [nI_clamp hi, hL] at q; omega)), nI_clamp hi]
      rfl
    exact re_b a1 a2 (re_if (fun _ => re_ret) (fun _ => re_ret))
theorem P_purged (J : JI θ π sl acts T n W b1 b2 s) (x1 x2 x3 : Int32) : RE (G_X10_purged θ x1 x2 x3) (G_X11_purged θ x1 x2 x3) s := by
  have ht := J.cw.pl.t1
  unfold G_X10_purged G_X11_purged
  cases hθ : θ.2.2.1 with
  | false =>
    have e := J.jp.p0 hθ
    exact ⟨0, rfl, gh_eq (hg e (hT (by decide) (hr ⟨rfl, rfl⟩)))⟩
  | true =>
    obtain ⟨n1, X1, pa, bv1, h1, h2, h3, ⟨t1, hI1⟩, h5, h6, h7, h8, h9⟩ := J.jp.p1 hθ
    refine re_rt (a := nI pa) (show gg (pk 41 0 0) 54 s = some (nI pa, s) by rw [← h7]; rfl) (re_rF (nI_pos (by omega)) ?_)
    refine re_b (e_hasD J.cw.pl x1) (e_isD J.rr.pl x1) ?_
    rcases dom_cs π x1 with ⟨d, hd, rfl, c⟩ | c
    · rw [if_pos c]
      refine re_if (fun q => absurd q (by decide)) (fun _ => ?_)
      refine re_x rfl (by rw [ht.1]; exact hd) (by omega) ?_
      have nm : ∀ k, 4 ≤ k ∧ k ≤ 8 → gh (gb (gg (pk 19 1 d) k) fun v3 => gret v3) s (fun r s' => r = X1.1 2 d k ∧ s' = s) := fun k hk => hg (h2.sc 2 d k ⟨hd, hk.1, hk.2⟩) (hr ⟨rfl, rfl⟩)
      refine re_if (fun _ => re_of (gb_gret (e_regZ h2 hd x3)) (r_reg h3 J.hz hd x3 (nI61 d))) (fun _ => ?_)
      refine re_if (fun _ => re_of (gb_gret (e_celZ h2 hd x3)) (r_cel h3 J.hz hd x3 (nI61 d))) (fun _ => ?_)
      refine re_if (fun _ => re_of (gb_gret (e_get (h2.rw d hd).2 x3)) (r_outp h3 (hI1.io d hd).2 hd x3 (nI61 d))) (fun _ => ?_)
      refine re_if (fun _ => re_of (nm 4 (by omega)) (r_num h3 J.hz hd (k := 4) (by omega) rfl (nI61 d))) (fun _ => ?_)
      refine re_if (fun _ => re_of (nm 5 (by omega)) (r_num h3 J.hz hd (k := 5) (by omega) rfl (nI61 d))) (fun _ => ?_)
      refine re_if (fun _ => re_of (hg (h2.rw d hd).2.1 (hr ⟨rfl, rfl⟩)) (r_oun h3 hd (nI61 d))) (fun _ => ?_)
      refine re_if (fun _ => re_of (nm 6 (by omega)) (r_num h3 J.hz hd (k := 6) (by omega) rfl (nI61 d))) (fun _ => ?_)
      exact re_if (fun _ => re_of (nm 7 (by omega)) (r_num h3 J.hz hd (k := 7) (by omega) rfl (nI61 d))) (fun _ => re_ret)
    · rw [if_neg c]
      exact re_if (fun _ => re_ret) (fun q => absurd rfl q)
end RD
