/-! THE CLASS'S WORLD over the store -/
def mR (π : mP) (j i k : Nat) : Prop := match j with
  | 0 => i < π.1 ∧ k < 8
  | 1 => i < π.1 ∧ k < 32
  | 2 => i < π.1 ∧ 4 ≤ k ∧ k ≤ 8
  | 3 => i < π.2.1 ∧ (k = 3 ∨ k = 4 ∨ k = 6 ∨ k = 7)
  | 4 => i < π.2.1 ∧ k < psz π i
  | 5 => i = 0 ∧ 1 ≤ k ∧ k ≤ 6
  | _ => False
theorem mR_lt {π : mP} {j i k : Nat} (h : mR π j i k) : j = 0 ∨ j = 1 ∨ j = 2 ∨ j = 3 ∨ j = 4 ∨ j = 5 := by
  unfold mR at h
  split at h
  all_goals first | omega | exact h.elim
def cF (w j i k : Nat) : gK × Nat := match j with
  | 0 => (pk 20 w i, k)
  | 1 => (pk 21 w i, k)
  | 2 => (pk 19 w i, k)
  | 3 => (pk 26 w i, k)
  | 4 => (pk 31 w i, k)
  | _ => if k = 6 then (pk 15 w 0, 4) else (pk 18 w 0, k)
def cKd (j k : Nat) : Nat := match j with
  | 0 => 20
  | 1 => 21
  | 2 => 19
  | 3 => 26
  | 4 => 31
  | _ => if k = 6 then 15 else 18
theorem cF_1 (w j i k : Nat) : (cF w j i k).1.1 = cKd j k ∧ (cF w j i k).1.2.1 = w := by
  unfold cF cKd
  split
  all_goals first | exact ⟨rfl, rfl⟩ | (split <;> exact ⟨rfl, rfl⟩)
theorem cKd_r (j k : Nat) : (15 ≤ cKd j k ∧ cKd j k ≤ 31) ∧ cKd j k ≠ 22 ∧ cKd j k ≠ 23 ∧ cKd j k ≠ 24 ∧ cKd j k ≠ 25 ∧ cKd j k ≠ 27 ∧ cKd j k ≠ 28 ∧ cKd j k ≠ 29 ∧ cKd j k ≠ 30 := by
  unfold cKd
  split
  all_goals first | omega | (split <;> omega)
def cJf (m : Nat) : Nat := if m = 20 then 0 else if m = 21 then 1 else if m = 19 then 2 else if m = 26 then 3 else if m = 31 then 4 else 5
theorem cJf_eq {π : mP} {j i k : Nat} (h : mR π j i k) : cJf (cKd j k) = j := by
  rcases mR_lt h with rfl | rfl | rfl | rfl | rfl | rfl
  · rfl
  · rfl
  · rfl
  · rfl
  · rfl
  · show cJf (if k = 6 then 15 else 18) = 5
    split <;> rfl
theorem cF_inj {π : mP} {w j i k j' i' k' : Nat} (h : mR π j i k) (h' : mR π j' i' k') (e : cF w j i k = cF w j' i' k') : j' = j ∧ i' = i ∧ k' = k := by
  have e1 : cKd j k = cKd j' k' := by rw [← (cF_1 w j i k).1, ← (cF_1 w j' i' k').1, e]
  have hj := mR_lt h
  have hj' := mR_lt h'
  have ejj : j' = j := by rw [← cJf_eq h, ← cJf_eq h', e1]
  subst ejj
  refine ⟨rfl, ?_⟩
  rcases hj with rfl | rfl | rfl | rfl | rfl | rfl
  · have : (((20, w, i), k) : gK × Nat) = ((20, w, i'), k') := e
    simp only [Prod.mk.injEq] at this
    omega
  · have : (((21, w, i), k) : gK × Nat) = ((21, w, i'), k') := e
    simp only [Prod.mk.injEq] at this
    omega
  · have : (((19, w, i), k) : gK × Nat) = ((19, w, i'), k') := e
    simp only [Prod.mk.injEq] at this
    omega
  · have : (((26, w, i), k) : gK × Nat) = ((26, w, i'), k') := e
    simp only [Prod.mk.injEq] at this
    omega
  · have : (((31, w, i), k) : gK × Nat) = ((31, w, i'), k') := e
    simp only [Prod.mk.injEq] at this
    omega
  · have a1 : i = 0 := h.1
    have a2 : i' = 0 := h'.1
    refine ⟨by omega, ?_⟩
    have e' : (if k = 6 then (pk 15 w 0, 4) else (pk 18 w 0, k) : gK × Nat) = (if k' = 6 then (pk 15 w 0, 4) else (pk 18 w 0, k')) := e
    by_cases c : k = 6
    · by_cases c' : k' = 6
      · omega
      · rw [if_pos c, if_neg c'] at e'
        simp [pk] at e'
    · by_cases c' : k' = 6
      · rw [if_neg c, if_pos c'] at e'
        simp [pk] at e'
      · rw [if_neg c, if_neg c'] at e'
        simp [pk] at e'
        omega
/-- flow bits -/
def fbits (f : Nat → Bool) : Nat → Nat
  | 0 => 0
  | n + 1 => fbits f n + (if f n = true then 2 ^ n else 0)
def pC (θ : gT) (π : mP) (s : gS) : Prop := (θ.1 = π.1 ∧ θ.2.1 = π.2.1 ∧ π.1 ≤ 6 ∧ 2 ≤ π.1 ∧ π.2.1 ≤ 12) ∧ (s.1 (pk 1 0 0) 0 = nI π.1) ∧ (s.1 (pk 1 0 0) 3 = nI π.2.1) ∧ (s.2.1 (pk 2 0 0) = π.1 ∧ ∀ a, a < π.1 → s.1 (pk 2 0 0) a = nI (fbits (pfl π a) π.1)) ∧ (∀ c k, c < π.2.1 → k < 4 → s.1 (pk 4 0 c) k = plk π c k) ∧ (∀ d, d < π.1 → cRow s 6 0 d (ppr π d)) ∧ (s.2.1 (pk 8 0 0) = π.1 ∧ ∀ d, d < π.1 → s.1 (pk 8 0 0) d = pwy π d) ∧ (∀ a, a < 3 → cRow s 10 0 a ((psl π a).map fun x => nI x.1) ∧ cRow s 13 0 a ((psl π a).map fun x => nI x.2))
theorem pC.t1 {θ : gT} {π : mP} {s : gS} (h : pC θ π s) : θ.1 = π.1 ∧ θ.2.1 = π.2.1 ∧ π.1 ≤ 6 ∧ 2 ≤ π.1 ∧ π.2.1 ≤ 12 := h.1
theorem pC.nd {θ : gT} {π : mP} {s : gS} (h : pC θ π s) : s.1 (pk 1 0 0) 0 = nI π.1 := h.2.1
theorem pC.nc {θ : gT} {π : mP} {s : gS} (h : pC θ π s) : s.1 (pk 1 0 0) 3 = nI π.2.1 := h.2.2.1
theorem pC.fl {θ : gT} {π : mP} {s : gS} (h : pC θ π s) : s.2.1 (pk 2 0 0) = π.1 ∧ ∀ a, a < π.1 → s.1 (pk 2 0 0) a = nI (fbits (pfl π a) π.1) := h.2.2.2.1
theorem pC.lk {θ : gT} {π : mP} {s : gS} (h : pC θ π s) : ∀ c k, c < π.2.1 → k < 4 → s.1 (pk 4 0 c) k = plk π c k := h.2.2.2.2.1
theorem pC.pr {θ : gT} {π : mP} {s : gS} (h : pC θ π s) : ∀ d, d < π.1 → cRow s 6 0 d (ppr π d) := h.2.2.2.2.2.1
theorem pC.wy {θ : gT} {π : mP} {s : gS} (h : pC θ π s) : s.2.1 (pk 8 0 0) = π.1 ∧ ∀ d, d < π.1 → s.1 (pk 8 0 0) d = pwy π d := h.2.2.2.2.2.2.1
theorem pC.sl {θ : gT} {π : mP} {s : gS} (h : pC θ π s) : ∀ a, a < 3 → cRow s 10 0 a ((psl π a).map fun x => nI x.1) ∧ cRow s 13 0 a ((psl π a).map fun x => nI x.2) := h.2.2.2.2.2.2.2
theorem pC.cg {θ : gT} {π : mP} {s s' : gS} (h : pC θ π s) (e : ∀ q : gK, q.1 < 15 → s'.1 q = s.1 q ∧ s'.2.1 q = s.2.1 q) : pC θ π s' := by
  refine ⟨h.t1, ?_, ?_, ?_, fun c k hc hk => ?_, fun d hd => ?_, ?_, fun a ha => ⟨?_, ?_⟩⟩
  · rw [(e _ (by decide)).1]; exact h.nd
  · rw [(e _ (by decide)).1]; exact h.nc
  · rw [(e _ (by decide)).1, (e _ (by decide)).2]; exact h.fl
  · rw [(e (pk 4 0 c) (by show 4 < 15; omega)).1]; exact h.lk c k hc hk
  · exact (h.pr d hd).cg (e _ (by show 6 < 15; omega)).1 (e _ (by show 7 < 15; omega)).1 (e _ (by show 7 < 15; omega)).2
  · rw [(e _ (by decide)).1, (e _ (by decide)).2]; exact h.wy
  · exact ((h.sl a ha).1).cg (e _ (by show 10 < 15; omega)).1 (e _ (by show 11 < 15; omega)).1 (e _ (by show 11 < 15; omega)).2
  · exact ((h.sl a ha).2).cg (e _ (by show 13 < 15; omega)).1 (e _ (by show 14 < 15; omega)).1 (e _ (by show 14 < 15; omega)).2
def cK (w : Nat) (q : gK) : Prop := q.2.1 = w ∧ 15 ≤ q.1 ∧ q.1 ≤ 31
def cT (θ : gT) (π : mP) (n w : Nat) (s0 s : gS) (W : mW) : Prop := (∀ j i k, mR π j i k → s.1 (cF w j i k).1 (cF w j i k).2 = W.1 j i k) ∧ ((∀ d, d < π.1 → s.2.1 (pk 20 w d) = 8 ∧ s.2.1 (pk 21 w d) = 32) ∧ ∀ c, c < π.2.1 → s.2.1 (pk 31 w c) = psz π c) ∧ (∀ d, d < π.1 → cRow s 22 w d (W.2.1 0 d) ∧ cRow s 24 w d (W.2.1 1 d)) ∧ (∀ c, c < π.2.1 → cMsg s 27 w c n (W.2.2 0 c) ∧ cMsg s 29 w c n (W.2.2 1 c)) ∧ (pC θ π s) ∧ (fr (cK w) s0 s)
theorem cT.sc {θ : gT} {π : mP} {n w : Nat} {s0 s : gS} {W : mW} (h : cT θ π n w s0 s W) : ∀ j i k, mR π j i k → s.1 (cF w j i k).1 (cF w j i k).2 = W.1 j i k := h.1
theorem cT.ln {θ : gT} {π : mP} {n w : Nat} {s0 s : gS} {W : mW} (h : cT θ π n w s0 s W) : (∀ d, d < π.1 → s.2.1 (pk 20 w d) = 8 ∧ s.2.1 (pk 21 w d) = 32) ∧ ∀ c, c < π.2.1 → s.2.1 (pk 31 w c) = psz π c := h.2.1
theorem cT.rw {θ : gT} {π : mP} {n w : Nat} {s0 s : gS} {W : mW} (h : cT θ π n w s0 s W) : ∀ d, d < π.1 → cRow s 22 w d (W.2.1 0 d) ∧ cRow s 24 w d (W.2.1 1 d) := h.2.2.1
theorem cT.ms {θ : gT} {π : mP} {n w : Nat} {s0 s : gS} {W : mW} (h : cT θ π n w s0 s W) : ∀ c, c < π.2.1 → cMsg s 27 w c n (W.2.2 0 c) ∧ cMsg s 29 w c n (W.2.2 1 c) := h.2.2.2.1
theorem cT.pl {θ : gT} {π : mP} {n w : Nat} {s0 s : gS} {W : mW} (h : cT θ π n w s0 s W) : pC θ π s := h.2.2.2.2.1
theorem cT.fm {θ : gT} {π : mP} {n w : Nat} {s0 s : gS} {W : mW} (h : cT θ π n w s0 s W) : fr (cK w) s0 s := h.2.2.2.2.2
section CT
variable {θ : gT} {π : mP} {n w : Nat} {s0 s s' : gS} {W W' : mW} {d : Nat}
/-- a change at scalar keys -/
theorem cT.sca (h : cT θ π n w s0 s W) {j i k : Nat} {f : Nat → Int32} (hW : W'.2 = W.2) (hs : ∀ j' i' k', mR π j' i' k' → (gw s (cF w j i k).1 f).1 (cF w j' i' k').1 (cF w j' i' k').2 = W'.1 j' i' k') : cT θ π n w s0 (gw s (cF w j i k).1 f) W' := by
  have h1 := cF_1 w j i k
  have hr := cKd_r j k
  have ho : ∀ q : gK, q.1 = 22 ∨ q.1 = 23 ∨ q.1 = 24 ∨ q.1 = 25 ∨ q.1 = 27 ∨ q.1 = 28 ∨ q.1 = 29 ∨ q.1 = 30 ∨ q.1 < 15 → (gw s (cF w j i k).1 f).1 q = s.1 q := fun q hq => gw_o (fun e => by
    rw [e, h1.1] at hq
    omega)
  refine ⟨hs, h.ln, fun d hd => ?_, fun c hc => ?_, h.pl.cg (fun q hq => ⟨ho q (by omega), rfl⟩), h.fm.tr (fr.gw ⟨h1.2, by rw [h1.1]; exact hr.1⟩)⟩
  · rw [hW]
    exact ⟨((h.rw d hd).1).cg (ho _ (by show (22 : Nat) = 22 ∨ _; omega)) (ho _ (by show (23 : Nat) = 22 ∨ (23 : Nat) = 23 ∨ _; omega)) rfl, ((h.rw d hd).2).cg (ho _ (by show (24 : Nat) = 22 ∨ (24 : Nat) = 23 ∨ (24 : Nat) = 24 ∨ _; omega)) (ho _ (by show (25 : Nat) = 22 ∨ (25 : Nat) = 23 ∨ (25 : Nat) = 24 ∨ (25 : Nat) = 25 ∨ _; omega)) rfl⟩
  · rw [hW]
    have a1 := (h.ms c hc).1
    have a2 := (h.ms c hc).2
    refine ⟨a1.cg (ho (pk 27 w c) ?_) (ho (pk 28 w c) ?_) rfl, a2.cg (ho (pk 29 w c) ?_) (ho (pk 30 w c) ?_) rfl⟩
    all_goals (dsimp only [pk]; omega)
theorem cT.wr (h : cT θ π n w s0 s W) {j i k : Nat} {v : Int32} (hr : mR π j i k) : cT θ π n w s0 (gw s (cF w j i k).1 (upd (s.1 (cF w j i k).1) (cF w j i k).2 v)) (mA W j i k v) := by
  refine h.sca rfl (fun j' i' k' hr' => ?_)
  by_cases e : cF w j i k = cF w j' i' k'
  · obtain ⟨rfl, rfl, rfl⟩ := cF_inj hr hr' e
    rw [gw_s, upd_s, mA_s]
  · have hn : ¬ (j' = j ∧ i' = i ∧ k' = k) := fun q => e (by rw [q.1, q.2.1, q.2.2])
    rw [mA_n hn, ← h.sc j' i' k' hr']
    by_cases e2 : (cF w j' i' k').1 = (cF w j i k).1
    · rw [e2, gw_s, upd_o]
      exact fun e3 => e (Prod.ext e2.symm e3.symm)
    · rw [gw_o e2]
/-- a whole array: registers, cells, what a board shows -/
theorem cT.ar (h : cT θ π n w s0 s W) {j i : Nat} {f g : Nat → Int32} (hj : j = 0 ∨ j = 1 ∨ j = 4) (hfg : ∀ k, mR π j i k → f k = g k) : cT θ π n w s0 (gw s (cF w j i 0).1 f) (mAr W j i g) := by
  refine h.sca rfl (fun j' i' k' hr' => ?_)
  by_cases e : j' = j ∧ i' = i
  · obtain ⟨rfl, rfl⟩ := e
    have e2 : (cF w j' i' k').1 = (cF w j' i' 0).1 ∧ (cF w j' i' k').2 = k' := by
      rcases hj with rfl | rfl | rfl <;> exact ⟨rfl, rfl⟩
    rw [e2.1, e2.2, gw_s, hfg k' hr']
    exact (if_pos ⟨rfl, rfl⟩ : (if j' = j' ∧ i' = i' then g k' else _) = _).symm
  · rw [mAr_n e, ← h.sc j' i' k' hr', gw_o]
    intro e2
    have a1 : cKd j' k' = cKd j 0 := by rw [← (cF_1 w j' i' k').1, ← (cF_1 w j i 0).1, e2]
    have hj' := mR_lt hr'
    have ejj : j' = j := by
      rw [← cJf_eq hr', a1]
      rcases hj with rfl | rfl | rfl <;> rfl
    subst ejj
    refine e ⟨rfl, ?_⟩
    rcases hj with rfl | rfl | rfl
    · have : ((20, w, i') : gK) = (20, w, i) := e2
      simpa using this
    · have : ((21, w, i') : gK) = (21, w, i) := e2
      simpa using this
    · have : ((31, w, i') : gK) = (31, w, i) := e2
      simpa using this
/-- what stays where only keys of lists change -/
theorem cT.lst (h : cT θ π n w s0 s W) {n' : Nat} {K : gK → Prop} (hf : fr K s s') (hK : ∀ q, K q → q.2.1 = w ∧ (q.1 = 22 ∨ q.1 = 23 ∨ q.1 = 24 ∨ q.1 = 25 ∨ q.1 = 27 ∨ q.1 = 28 ∨ q.1 = 29 ∨ q.1 = 30)) (hW : ∀ j i k, W'.1 j i k = W.1 j i k) (hrw : ∀ d, d < π.1 → cRow s' 22 w d (W'.2.1 0 d) ∧ cRow s' 24 w d (W'.2.1 1 d)) (hms : ∀ c, c < π.2.1 → cMsg s' 27 w c n' (W'.2.2 0 c) ∧ cMsg s' 29 w c n' (W'.2.2 1 c)) : cT θ π n' w s0 s' W' := by
  have ho : ∀ q : gK, (q.1 = 20 ∨ q.1 = 21 ∨ q.1 = 31 ∨ q.1 < 15) → s'.1 q = s.1 q ∧ s'.2.1 q = s.2.1 q := fun q hq => hf.1 q (fun z => by
    have := (hK q z).2
    omega)
  refine ⟨fun j i k hr => ?_, ⟨fun d hd => ?_, fun c hc => ?_⟩, hrw, hms, h.pl.cg (fun q hq => ho q (by omega)), h.fm.tr (hf.mono (fun q hq => ⟨(hK q hq).1, by have := (hK q hq).2; omega, by have := (hK q hq).2; omega⟩))⟩
  · rw [hW, ← h.sc j i k hr, (hf.1 _ (fun z => by
      have a1 := (hK _ z).2
      rw [(cF_1 w j i k).1] at a1
      have := cKd_r j k
      omega)).1]
  · rw [(ho (pk 20 w d) (by dsimp only [pk]; omega)).2, (ho (pk 21 w d) (by dsimp only [pk]; omega)).2]; exact h.ln.1 d hd
  · rw [(ho (pk 31 w c) (by dsimp only [pk]; omega)).2]; exact h.ln.2 c hc
theorem mB_s {j i : Nat} {l : List Int32} : (mB W j i l).2.1 j i = l := if_pos ⟨rfl, rfl⟩
theorem mB_n {j i j' i' : Nat} {l : List Int32} (h : ¬ (j' = j ∧ i' = i)) : (mB W j i l).2.1 j' i' = W.2.1 j' i' := if_neg h
theorem mC_s {j i : Nat} {l : List (List Int32)} : (mC W j i l).2.2 j i = l := if_pos ⟨rfl, rfl⟩
theorem cT.row0 (h : cT θ π n w s0 s W) {l : List Int32} (hr : cRow s' 22 w d l) (hf : fr (kRow 22 w d) s s') : cT θ π n w s0 s' (mB W 0 d l) := by
  refine h.lst hf (fun q hq => ?_) (fun _ _ _ => rfl) (fun x hx => ⟨?_, ?_⟩) (fun c hc => ?_)
  · rcases hq with rfl | rfl
    · exact ⟨rfl, by dsimp only [pk]; omega⟩
    · exact ⟨rfl, by dsimp only [pk]; omega⟩
  · by_cases e : x = d
    · subst e; rw [mB_s]; exact hr
    · rw [mB_n (by omega)]
      have a1 := hf.1 (pk 22 w x) (fun z => z.elim (fun z => absurd z (pk_ne (by omega))) (fun z => absurd z (pk_ne (by omega))))
      have a2 := hf.1 (pk 23 w x) (fun z => z.elim (fun z => absurd z (pk_ne (by omega))) (fun z => absurd z (pk_ne (by omega))))
      exact ((h.rw x hx).1).cg a1.1 a2.1 a2.2
  · rw [mB_n (by omega)]
    have a1 := hf.1 (pk 24 w x) (fun z => z.elim (fun z => absurd z (pk_ne (by omega))) (fun z => absurd z (pk_ne (by omega))))
    have a2 := hf.1 (pk 25 w x) (fun z => z.elim (fun z => absurd z (pk_ne (by omega))) (fun z => absurd z (pk_ne (by omega))))
    exact ((h.rw x hx).2).cg a1.1 a2.1 a2.2
  · have a : ∀ k, k = 27 ∨ k = 28 ∨ k = 29 ∨ k = 30 → s'.1 (pk k w c) = s.1 (pk k w c) ∧ s'.2.1 (pk k w c) = s.2.1 (pk k w c) := fun k hk => hf.1 (pk k w c) (fun z => z.elim (fun z => absurd z (pk_ne (by omega))) (fun z => absurd z (pk_ne (by omega))))
    exact ⟨((h.ms c hc).1).cg (a 27 (by omega)).1 (a 28 (by omega)).1 (a 28 (by omega)).2, ((h.ms c hc).2).cg (a 29 (by omega)).1 (a 30 (by omega)).1 (a 30 (by omega)).2⟩
theorem cT.row1 (h : cT θ π n w s0 s W) {l : List Int32} (hr : cRow s' 24 w d l) (hf : fr (kRow 24 w d) s s') : cT θ π n w s0 s' (mB W 1 d l) := by
  refine h.lst hf (fun q hq => ?_) (fun _ _ _ => rfl) (fun x hx => ⟨?_, ?_⟩) (fun c hc => ?_)
  · rcases hq with rfl | rfl
    · exact ⟨rfl, by dsimp only [pk]; omega⟩
    · exact ⟨rfl, by dsimp only [pk]; omega⟩
  · rw [mB_n (by omega)]
    have a1 := hf.1 (pk 22 w x) (fun z => z.elim (fun z => absurd z (pk_ne (by omega))) (fun z => absurd z (pk_ne (by omega))))
    have a2 := hf.1 (pk 23 w x) (fun z => z.elim (fun z => absurd z (pk_ne (by omega))) (fun z => absurd z (pk_ne (by omega))))
    exact ((h.rw x hx).1).cg a1.1 a2.1 a2.2
  · by_cases e : x = d
    · subst e; rw [mB_s]; exact hr
    · rw [mB_n (by omega)]
      have a1 := hf.1 (pk 24 w x) (fun z => z.elim (fun z => absurd z (pk_ne (by omega))) (fun z => absurd z (pk_ne (by omega))))
      have a2 := hf.1 (pk 25 w x) (fun z => z.elim (fun z => absurd z (pk_ne (by omega))) (fun z => absurd z (pk_ne (by omega))))
      exact ((h.rw x hx).2).cg a1.1 a2.1 a2.2
  · have a : ∀ k, k = 27 ∨ k = 28 ∨ k = 29 ∨ k = 30 → s'.1 (pk k w c) = s.1 (pk k w c) ∧ s'.2.1 (pk k w c) = s.2.1 (pk k w c) := fun k hk => hf.1 (pk k w c) (fun z => z.elim (fun z => absurd z (pk_ne (by omega))) (fun z => absurd z (pk_ne (by omega))))
    exact ⟨((h.ms c hc).1).cg (a 27 (by omega)).1 (a 28 (by omega)).1 (a 28 (by omega)).2, ((h.ms c hc).2).cg (a 29 (by omega)).1 (a 30 (by omega)).1 (a 30 (by omega)).2⟩
/-- a channel's messages; k is 27 or 29, j 0 or 1 -/
theorem cT.msg (h : cT θ π n w s0 s W) {n' c : Nat} {l : List (List Int32)} {j : Nat} (hj : j < 2) (hn : n ≤ n') (hr : cMsg s' (27 + 2 * j) w c n' l) (hf : fr (kRow (27 + 2 * j) w c) s s') : cT θ π n' w s0 s' (mC W j c l) := by
  have rs : ∀ k x, ¬ ((k = 27 + 2 * j ∨ k = 27 + 2 * j + 1) ∧ x = c) → s'.1 (pk k w x) = s.1 (pk k w x) ∧ s'.2.1 (pk k w x) = s.2.1 (pk k w x) := fun k x hk => hf.1 (pk k w x) (fun z => z.elim (fun z => absurd z (pk_ne (by omega))) (fun z => absurd z (pk_ne (by omega))))
  refine h.lst hf (fun q hq => ?_) (fun _ _ _ => rfl) (fun x hx => ⟨?_, ?_⟩) (fun x hx => ⟨?_, ?_⟩)
  · rcases hq with rfl | rfl
    · exact ⟨rfl, by dsimp only [pk]; omega⟩
    · exact ⟨rfl, by dsimp only [pk]; omega⟩
  · exact ((h.rw x hx).1).cg (rs 22 x (by omega)).1 (rs 23 x (by omega)).1 (rs 23 x (by omega)).2
  · exact ((h.rw x hx).2).cg (rs 24 x (by omega)).1 (rs 25 x (by omega)).1 (rs 25 x (by omega)).2
  · by_cases e : j = 0 ∧ x = c
    · obtain ⟨rfl, rfl⟩ := e
      rw [mC_s]; exact hr
    · rw [mC_n (by omega)]
      exact (((h.ms x hx).1).cg (rs 27 x (by omega)).1 (rs 28 x (by omega)).1 (rs 28 x (by omega)).2).mono hn
  · by_cases e : j = 1 ∧ x = c
    · obtain ⟨rfl, rfl⟩ := e
      rw [mC_s]; exact hr
    · rw [mC_n (by omega)]
      exact (((h.ms x hx).2).cg (rs 29 x (by omega)).1 (rs 30 x (by omega)).1 (rs 30 x (by omega)).2).mono hn
theorem cT.mono (h : cT θ π n w s0 s W) {n' : Nat} (hn : n ≤ n') : cT θ π n' w s0 s W := ⟨h.sc, h.ln, h.rw, fun c hc => ⟨((h.ms c hc).1).mono hn, ((h.ms c hc).2).mono hn⟩, h.pl, h.fm⟩
/-- a world that looks the same in range -/
theorem cT.eqW (h : cT θ π n w s0 s W) (h1 : ∀ j i k, mR π j i k → W'.1 j i k = W.1 j i k) (h2 : ∀ j d, j < 2 → d < π.1 → W'.2.1 j d = W.2.1 j d) (h3 : ∀ j c, j < 2 → c < π.2.1 → W'.2.2 j c = W.2.2 j c) : cT θ π n w s0 s W' :=
  ⟨fun j i k hr => by rw [h1 j i k hr]; exact h.sc j i k hr, h.ln, fun d hd => by rw [h2 0 d (by omega) hd, h2 1 d (by omega) hd]; exact h.rw d hd, fun c hc => by rw [h3 0 c (by omega) hc, h3 1 c (by omega) hc]; exact h.ms c hc, h.pl, h.fm⟩
end CT
