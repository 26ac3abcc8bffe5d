/-! THE REFERENCE'S WORLD over the store: arrays, a slice for each world -/
def rk (k : Nat) : gK := pk k 0 0
def rF (w j i k : Nat) : Nat × Nat := match j with
  | 0 => (61, 8 * (6 * w + i) + k)
  | 1 => (62, 32 * (6 * w + i) + k)
  | 2 => (if k = 4 then 63 else if k = 5 then 64 else 63 + k, 6 * w + i)
  | 3 => (if k = 3 then 79 else if k = 4 then 78 else 75 + k, 12 * w + i)
  | 4 => (80, 4 * (12 * w + i) + k)
  | _ => (if k = 6 then 93 else 86 + k, w)
def rLen (k : Nat) : Nat := if k = 43 ∨ k = 52 ∨ k = 53 then 36 else if 45 ≤ k ∧ k ≤ 48 then 12 else if k = 49 then 384 else if k = 50 ∨ k = 51 ∨ k = 97 then 6 else if k = 54 ∨ (86 ≤ k ∧ k ≤ 93) then 3 else if (57 ≤ k ∧ k ≤ 60) ∨ k = 94 ∨ k = 95 then 3000 else if k = 61 ∨ k = 65 ∨ k = 80 then 144 else if k = 62 then 576 else if k = 67 then 3600 else if (63 ≤ k ∧ k ≤ 71) then 18 else if (72 ≤ k ∧ k ≤ 82) then 36 else if k = 83 ∨ k = 84 then 9000 else if k = 85 then 36000 else 0
/-- a world's slice of an array -/
def rSl (w k x : Nat) : Prop := if k = 61 ∨ k = 65 ∨ k = 80 then 48 * w ≤ x ∧ x < 48 * w + 48 else if k = 62 then 192 * w ≤ x ∧ x < 192 * w + 192 else if k = 67 then 1200 * w ≤ x ∧ x < 1200 * w + 1200 else if (63 ≤ k ∧ k ≤ 71) then 6 * w ≤ x ∧ x < 6 * w + 6 else if (72 ≤ k ∧ k ≤ 82) then 12 * w ≤ x ∧ x < 12 * w + 12 else if k = 83 ∨ k = 84 then 3000 * w ≤ x ∧ x < 3000 * w + 3000 else if k = 85 then 12000 * w ≤ x ∧ x < 12000 * w + 12000 else if 86 ≤ k ∧ k ≤ 93 then x = w else False
def rfr (w : Nat) (s0 s : gS) : Prop := s.2 = s0.2 ∧ ∀ (q : gK) (x : Nat), ¬ (q = rk q.1 ∧ rSl w q.1 x) → s.1 q x = s0.1 q x
def pR (π : mP) (s : gS) : Prop := (π.1 ≤ 6 ∧ 2 ≤ π.1 ∧ π.2.1 ≤ 12) ∧ (s.1 (rk 41) 0 = nI π.1) ∧ (s.1 (rk 41) 2 = nI π.2.1) ∧ (∀ a b, a < π.1 → b < π.1 → a ≠ b → s.1 (rk 43) (6 * a + b) = if pfl π a b = true then 1 else 0) ∧ (∀ c k, c < π.2.1 → k < 4 → s.1 (rk (45 + k)) c = plk π c k) ∧ (∀ d, d < π.1 → s.1 (rk 50) d = nI (ppr π d).length ∧ ∀ p, p < (ppr π d).length → s.1 (rk 49) (64 * d + p) = (ppr π d).getD p 0) ∧ (∀ d, d < π.1 → s.1 (rk 51) d = pwy π d) ∧ (∀ a, a < 3 → s.1 (rk 54) a = nI (psl π a).length ∧ ∀ b, b < (psl π a).length → s.1 (rk 52) (12 * a + b) = nI ((psl π a).getD b (0, 0)).1 ∧ s.1 (rk 53) (12 * a + b) = nI ((psl π a).getD b (0, 0)).2)
theorem pR.t1 {π : mP} {s : gS} (h : pR π s) : π.1 ≤ 6 ∧ 2 ≤ π.1 ∧ π.2.1 ≤ 12 := h.1
theorem pR.nd {π : mP} {s : gS} (h : pR π s) : s.1 (rk 41) 0 = nI π.1 := h.2.1
theorem pR.nc {π : mP} {s : gS} (h : pR π s) : s.1 (rk 41) 2 = nI π.2.1 := h.2.2.1
theorem pR.fl {π : mP} {s : gS} (h : pR π s) : ∀ a b, a < π.1 → b < π.1 → a ≠ b → s.1 (rk 43) (6 * a + b) = if pfl π a b = true then 1 else 0 := h.2.2.2.1
theorem pR.lk {π : mP} {s : gS} (h : pR π s) : ∀ c k, c < π.2.1 → k < 4 → s.1 (rk (45 + k)) c = plk π c k := h.2.2.2.2.1
theorem pR.pr {π : mP} {s : gS} (h : pR π s) : ∀ d, d < π.1 → s.1 (rk 50) d = nI (ppr π d).length ∧ ∀ p, p < (ppr π d).length → s.1 (rk 49) (64 * d + p) = (ppr π d).getD p 0 := h.2.2.2.2.2.1
theorem pR.wy {π : mP} {s : gS} (h : pR π s) : ∀ d, d < π.1 → s.1 (rk 51) d = pwy π d := h.2.2.2.2.2.2.1
theorem pR.sl {π : mP} {s : gS} (h : pR π s) : ∀ a, a < 3 → s.1 (rk 54) a = nI (psl π a).length ∧ ∀ b, b < (psl π a).length → s.1 (rk 52) (12 * a + b) = nI ((psl π a).getD b (0, 0)).1 ∧ s.1 (rk 53) (12 * a + b) = nI ((psl π a).getD b (0, 0)).2 := h.2.2.2.2.2.2.2
def rIO (π : mP) (w : Nat) (s : gS) (B : Nat → Nat → List Int32) : Prop := ∀ d, d < π.1 → (s.1 (rk 66) (6 * w + d) = nI (B 0 d).length ∧ (∀ x, x < (B 0 d).length → s.1 (rk 65) (8 * (6 * w + d) + x) = (B 0 d).getD x 0)) ∧ (s.1 (rk 68) (6 * w + d) = nI (B 1 d).length ∧ ∀ x, x < (B 1 d).length → s.1 (rk 67) (200 * (6 * w + d) + x) = (B 1 d).getD x 0)
/-- messages at these places, each naming the next -/
def rCh (s : gS) : List Nat → List (List Int32) → Prop
  | [], [] => True
  | i :: is, m :: ms => (s.1 (rk 84) i = nI m.length ∧ ∀ y, y < m.length → s.1 (rk 85) (4 * i + y) = m.getD y 0) ∧ (∀ i2 r, is = i2 :: r → s.1 (rk 83) i = nI i2) ∧ rCh s is ms
  | _, _ => False
def rM (π : mP) (n w : Nat) (s : gS) (C : Nat → Nat → List (List Int32)) : Prop := ∃ (ix : Nat → Nat → List Nat) (cnt : Nat), s.1 (rk 86) w = nI cnt ∧ cnt ≤ n ∧ (∀ c j, c < π.2.1 → j < 2 → (∀ i, i ∈ ix j c → 3000 * w ≤ i ∧ i < 3000 * w + cnt) ∧ rCh s (ix j c) (C j c) ∧ (s.1 (rk (74 + 3 * j)) (12 * w + c) = nI (C j c).length) ∧ (∀ i r, ix j c = i :: r → s.1 (rk (72 + 3 * j)) (12 * w + c) = nI i)) ∧ (∀ c, c < π.2.1 → ∀ i, (ix 1 c).getLast? = some i → s.1 (rk 76) (12 * w + c) = nI i) ∧ (∀ c, c < π.2.1 → (ix 0 c ++ ix 1 c).Nodup) ∧ (∀ c c' j j', c < π.2.1 → c' < π.2.1 → j < 2 → j' < 2 → c ≠ c' → ∀ i, i ∈ ix j c → ¬ i ∈ ix j' c')
def rT (π : mP) (n w : Nat) (bv : Int32) (s0 s : gS) (W : mW) : Prop := (∀ j i k, mR π j i k → s.1 (rk (rF w j i k).1) (rF w j i k).2 = W.1 j i k) ∧ (∀ c k, c < π.2.1 → psz π c ≤ k → k < 4 → s.1 (rk 80) (4 * (12 * w + c) + k) = 0) ∧ (s.1 (rk 92) w = bv) ∧ (∀ k, 42 ≤ k → s.2.1 (rk k) = rLen k) ∧ (rIO π w s W.2.1) ∧ (rM π n w s W.2.2) ∧ (pR π s) ∧ (rfr w s0 s) ∧ (w < 3)
theorem rT.sc {π : mP} {n w : Nat} {bv : Int32} {s0 s : gS} {W : mW} (h : rT π n w bv s0 s W) : ∀ j i k, mR π j i k → s.1 (rk (rF w j i k).1) (rF w j i k).2 = W.1 j i k := h.1
theorem rT.sh {π : mP} {n w : Nat} {bv : Int32} {s0 s : gS} {W : mW} (h : rT π n w bv s0 s W) : ∀ c k, c < π.2.1 → psz π c ≤ k → k < 4 → s.1 (rk 80) (4 * (12 * w + c) + k) = 0 := h.2.1
theorem rT.bg {π : mP} {n w : Nat} {bv : Int32} {s0 s : gS} {W : mW} (h : rT π n w bv s0 s W) : s.1 (rk 92) w = bv := h.2.2.1
theorem rT.ln {π : mP} {n w : Nat} {bv : Int32} {s0 s : gS} {W : mW} (h : rT π n w bv s0 s W) : ∀ k, 42 ≤ k → s.2.1 (rk k) = rLen k := h.2.2.2.1
theorem rT.io {π : mP} {n w : Nat} {bv : Int32} {s0 s : gS} {W : mW} (h : rT π n w bv s0 s W) : rIO π w s W.2.1 := h.2.2.2.2.1
theorem rT.ms {π : mP} {n w : Nat} {bv : Int32} {s0 s : gS} {W : mW} (h : rT π n w bv s0 s W) : rM π n w s W.2.2 := h.2.2.2.2.2.1
theorem rT.pl {π : mP} {n w : Nat} {bv : Int32} {s0 s : gS} {W : mW} (h : rT π n w bv s0 s W) : pR π s := h.2.2.2.2.2.2.1
theorem rT.fm {π : mP} {n w : Nat} {bv : Int32} {s0 s : gS} {W : mW} (h : rT π n w bv s0 s W) : rfr w s0 s := h.2.2.2.2.2.2.2.1
theorem rT.w3 {π : mP} {n w : Nat} {bv : Int32} {s0 s : gS} {W : mW} (h : rT π n w bv s0 s W) : w < 3 := h.2.2.2.2.2.2.2.2
def rKd (j k : Nat) : Nat := (rF 0 j 0 k).1
theorem rF_1 (w j i k : Nat) : (rF w j i k).1 = rKd j k := by
  unfold rKd rF
  split <;> rfl
def rJf (m : Nat) : Nat := if m = 61 then 0 else if m = 62 then 1 else if m = 63 ∨ m = 64 ∨ m = 69 ∨ m = 70 ∨ m = 71 then 2 else if m = 79 ∨ m = 78 ∨ m = 81 ∨ m = 82 then 3 else if m = 80 then 4 else 5
section RT
variable {π : mP} {n w : Nat} {bv : Int32} {s0 s s' : gS} {W W' : mW} {d : Nat}
theorem rKd_2 (k : Nat) : rKd 2 k = if k = 4 then 63 else if k = 5 then 64 else 63 + k := rfl
theorem rKd_3 (k : Nat) : rKd 3 k = if k = 3 then 79 else if k = 4 then 78 else 75 + k := rfl
theorem rKd_5 (k : Nat) : rKd 5 k = if k = 6 then 93 else 86 + k := rfl
theorem rKd_v {j i k : Nat} (h : mR π j i k) : (j = 0 ∧ rKd j k = 61) ∨ (j = 1 ∧ rKd j k = 62) ∨ (j = 2 ∧ ((k = 4 ∧ rKd j k = 63) ∨ (k = 5 ∧ rKd j k = 64) ∨ (k = 6 ∧ rKd j k = 69) ∨ (k = 7 ∧ rKd j k = 70) ∨ (k = 8 ∧ rKd j k = 71))) ∨ (j = 3 ∧ ((k = 3 ∧ rKd j k = 79) ∨ (k = 4 ∧ rKd j k = 78) ∨ (k = 6 ∧ rKd j k = 81) ∨ (k = 7 ∧ rKd j k = 82))) ∨ (j = 4 ∧ rKd j k = 80) ∨ (j = 5 ∧ ((k = 6 ∧ rKd j k = 93) ∨ (k ≠ 6 ∧ 1 ≤ k ∧ k ≤ 5 ∧ rKd j k = 86 + k))) := by
  rcases mR_lt h with rfl | rfl | rfl | rfl | rfl | rfl
  · exact Or.inl ⟨rfl, rfl⟩
  · exact Or.inr (Or.inl ⟨rfl, rfl⟩)
  · have := h.2
    have hk : k = 4 ∨ k = 5 ∨ k = 6 ∨ k = 7 ∨ k = 8 := by omega
    rcases hk with rfl | rfl | rfl | rfl | rfl <;> simp [rKd_2]
  · have hk := h.2
    rcases hk with rfl | rfl | rfl | rfl <;> simp [rKd_3]
  · exact Or.inr (Or.inr (Or.inr (Or.inr (Or.inl ⟨rfl, rfl⟩))))
  · have := h.2
    by_cases k6 : k = 6
    · subst k6; simp [rKd_5]
    · refine Or.inr (Or.inr (Or.inr (Or.inr (Or.inr ⟨rfl, Or.inr ⟨k6, by omega, by omega, ?_⟩⟩))))
      rw [rKd_5, if_neg k6]
theorem rKd_r {j i k : Nat} (h : mR π j i k) : 61 ≤ rKd j k ∧ rKd j k ≤ 93 ∧ rKd j k ≠ 65 ∧ rKd j k ≠ 66 ∧ rKd j k ≠ 67 ∧ rKd j k ≠ 68 ∧ ¬ (72 ≤ rKd j k ∧ rKd j k ≤ 77) ∧ ¬ (83 ≤ rKd j k ∧ rKd j k ≤ 86) ∧ rKd j k ≠ 92 := by
  have := rKd_v h
  omega
theorem rF_2 (w i k : Nat) : (rF w 0 i k).2 = 8 * (6 * w + i) + k ∧ (rF w 1 i k).2 = 32 * (6 * w + i) + k ∧ (rF w 2 i k).2 = 6 * w + i ∧ (rF w 3 i k).2 = 12 * w + i ∧ (rF w 4 i k).2 = 4 * (12 * w + i) + k ∧ (rF w 5 i k).2 = w := ⟨rfl, rfl, rfl, rfl, rfl, rfl⟩
theorem rF_inj {j i k j' i' k' : Nat} (hz : ∀ c, c < π.2.1 → psz π c ≤ 4) (h : mR π j i k) (h' : mR π j' i' k') (e1 : (rF w j i k).1 = (rF w j' i' k').1) (e2 : (rF w j i k).2 = (rF w j' i' k').2) : j' = j ∧ i' = i ∧ k' = k := by
  rw [rF_1, rF_1] at e1
  have v := rKd_v h
  have v' := rKd_v h'
  have ejj : j' = j := by omega
  subst ejj
  refine ⟨rfl, ?_⟩
  rcases mR_lt h with rfl | rfl | rfl | rfl | rfl | rfl
  · rw [(rF_2 w i k).1, (rF_2 w i' k').1] at e2
    have := h.2; have := h'.2
    omega
  · rw [(rF_2 w i k).2.1, (rF_2 w i' k').2.1] at e2
    have := h.2; have := h'.2
    omega
  · rw [(rF_2 w i k).2.2.1, (rF_2 w i' k').2.2.1] at e2
    omega
  · rw [(rF_2 w i k).2.2.2.1, (rF_2 w i' k').2.2.2.1] at e2
    omega
  · rw [(rF_2 w i k).2.2.2.2.1, (rF_2 w i' k').2.2.2.2.1] at e2
    have a1 := h.2; have a2 := h'.2
    have := hz i h.1
    have := hz i' h'.1
    omega
  · have := h.1; have := h'.1
    omega
theorem rk_ne {a b : Nat} (h : a ≠ b) : rk a ≠ rk b := pk_ne (by omega)
theorem rF_sl (hπ : π.1 ≤ 6 ∧ π.2.1 ≤ 12) (hz : ∀ c, c < π.2.1 → psz π c ≤ 4) {j i k : Nat} (h : mR π j i k) : rSl w (rKd j k) (rF w j i k).2 := by
  have v := rKd_v h
  rcases mR_lt h with rfl | rfl | rfl | rfl | rfl | rfl
  · rw [(rF_2 w i k).1, show rKd 0 k = 61 by omega]
    have := h.1; have := h.2
    exact ⟨by omega, by omega⟩
  · rw [(rF_2 w i k).2.1, show rKd 1 k = 62 by omega]
    have := h.1; have := h.2
    exact ⟨by omega, by omega⟩
  · rw [(rF_2 w i k).2.2.1]
    have := h.1
    unfold rSl
    rw [if_neg (by omega), if_neg (by omega), if_neg (by omega), if_pos (by omega)]
    omega
  · rw [(rF_2 w i k).2.2.2.1]
    have := h.1
    unfold rSl
    rw [if_neg (by omega), if_neg (by omega), if_neg (by omega), if_neg (by omega), if_pos (by omega)]
    omega
  · rw [(rF_2 w i k).2.2.2.2.1, show rKd 4 k = 80 by omega]
    have := h.1; have := h.2; have := hz i h.1
    exact ⟨by omega, by omega⟩
  · rw [(rF_2 w i k).2.2.2.2.2]
    unfold rSl
    rw [if_neg (by omega), if_neg (by omega), if_neg (by omega), if_neg (by omega), if_neg (by omega), if_neg (by omega), if_neg (by omega), if_pos (by omega)]
theorem rfr.rf : rfr w s s := ⟨rfl, fun _ _ _ => rfl⟩
theorem rfr.tr {s1 s2 : gS} (a : rfr w s s1) (b : rfr w s1 s2) : rfr w s s2 := ⟨b.1.trans a.1, fun q x h => (b.2 q x h).trans (a.2 q x h)⟩
theorem rfr.up {k x : Nat} {v : Int32} (h : rSl w k x) : rfr w s (gw s (rk k) (upd (s.1 (rk k)) x v)) := by
  refine ⟨rfl, fun q y hq => ?_⟩
  by_cases e : q = rk k
  · rw [e, gw_s, upd_o]
    rintro rfl
    exact hq ⟨by rw [e]; rfl, by rw [e]; exact h⟩
  · rw [gw_o e]
theorem rfr.o (a : rfr w s s') {q : gK} (h : q.1 < 61 ∨ 93 < q.1) : s'.1 q = s.1 q := by
  funext x
  refine a.2 q x (fun z => ?_)
  have := z.2
  unfold rSl at this
  rw [if_neg (by omega), if_neg (by omega), if_neg (by omega), if_neg (by omega), if_neg (by omega), if_neg (by omega), if_neg (by omega), if_neg (by omega)] at this
  exact this
theorem pR.cg (h : pR π s) (e : ∀ k, k < 61 → s'.1 (rk k) = s.1 (rk k)) : pR π s' := by
  refine ⟨h.t1, ?_, ?_, fun a b ha hb hab => ?_, fun c k hc hk => ?_, fun d hd => ?_, fun d hd => ?_, fun a ha => ?_⟩
  · rw [e _ (by omega)]; exact h.nd
  · rw [e _ (by omega)]; exact h.nc
  · rw [e _ (by omega)]; exact h.fl a b ha hb hab
  · rw [e _ (by omega)]; exact h.lk c k hc hk
  · rw [e _ (by omega), e _ (by omega)]; exact h.pr d hd
  · rw [e _ (by omega)]; exact h.wy d hd
  · rw [e _ (by omega), e _ (by omega), e _ (by omega)]; exact h.sl a ha
theorem rIO.cg {B : Nat → Nat → List Int32} (h : rIO π w s B) (e : ∀ k, 65 ≤ k → k ≤ 68 → s'.1 (rk k) = s.1 (rk k)) : rIO π w s' B := by
  intro d hd
  rw [e 65 (by omega) (by omega), e 66 (by omega) (by omega), e 67 (by omega) (by omega), e 68 (by omega) (by omega)]
  exact h d hd
theorem rCh.cg (e : ∀ k, 83 ≤ k → k ≤ 85 → s'.1 (rk k) = s.1 (rk k)) : ∀ (is : List Nat) (ms : List (List Int32)), rCh s is ms → rCh s' is ms
  | [], [], _ => trivial
  | i :: is, m :: ms, h => by
    refine ⟨?_, ?_, rCh.cg e is ms h.2.2⟩
    · rw [e 84 (by omega) (by omega), e 85 (by omega) (by omega)]; exact h.1
    · rw [e 83 (by omega) (by omega)]; exact h.2.1
  | [], _ :: _, h => h.elim
  | _ :: _, [], h => h.elim
theorem rM.cg {C : Nat → Nat → List (List Int32)} (h : rM π n w s C) (e : ∀ k, (72 ≤ k ∧ k ≤ 77) ∨ (83 ≤ k ∧ k ≤ 86) → s'.1 (rk k) = s.1 (rk k)) : rM π n w s' C := by
  obtain ⟨ix, cnt, h1, h2, h3, h4, h5⟩ := h
  refine ⟨ix, cnt, ?_, h2, fun c j hc hj => ?_, fun c hc => ?_, h5⟩
  · rw [e 86 (by omega)]; exact h1
  · obtain ⟨a1, a2, a3, a4⟩ := h3 c j hc hj
    refine ⟨a1, rCh.cg (fun k k1 k2 => e k (by omega)) _ _ a2, ?_, ?_⟩
    · rw [e _ (by omega)]; exact a3
    · rw [e _ (by omega)]; exact a4
  · rw [e 76 (by omega)]; exact h4 c hc
theorem rT.wr (hQ : mQ π) (h : rT π n w bv s0 s W) {j i k : Nat} {v : Int32} (hr : mR π j i k) : rT π n w bv s0 (gw s (rk (rF w j i k).1) (upd (s.1 (rk (rF w j i k).1)) (rF w j i k).2 v)) (mA W j i k v) := by
  have hz : ∀ c, c < π.2.1 → psz π c ≤ 4 := fun c hc => (hQ.lk c hc).2.1
  have hv := rKd_r hr
  have ho : ∀ k', k' ≠ rKd j k → (gw s (rk (rF w j i k).1) (upd (s.1 (rk (rF w j i k).1)) (rF w j i k).2 v)).1 (rk k') = s.1 (rk k') := fun k' hk' => gw_o (by rw [rF_1]; exact rk_ne hk')
  refine ⟨fun j' i' k' hr' => ?_, fun c k' hc h1 h2 => ?_, ?_, h.ln, h.io.cg (fun k' _ _ => ho k' (by omega)), h.ms.cg (fun k' _ => ho k' (by omega)), h.pl.cg (fun k' _ => ho k' (by omega)), h.fm.tr (rfr.up (by rw [rF_1]; exact rF_sl ⟨h.pl.t1.1, h.pl.t1.2.2⟩ hz hr)), h.w3⟩
  · by_cases e1 : (rF w j' i' k').1 = (rF w j i k).1
    · by_cases e2 : (rF w j' i' k').2 = (rF w j i k).2
      · obtain ⟨rfl, rfl, rfl⟩ := rF_inj hz hr hr' e1.symm e2.symm
        rw [gw_s, upd_s, mA_s]
      · have hn : ¬ (j' = j ∧ i' = i ∧ k' = k) := fun q => e2 (by rw [q.1, q.2.1, q.2.2])
        rw [mA_n hn, e1, gw_s, upd_o e2, ← e1]
        exact h.sc j' i' k' hr'
    · have hn : ¬ (j' = j ∧ i' = i ∧ k' = k) := fun q => e1 (by rw [q.1, q.2.1, q.2.2])
      rw [mA_n hn, gw_o (rk_ne e1)]
      exact h.sc j' i' k' hr'
  · by_cases e : rKd j k = 80
    · have e4 := rKd_v hr
      have j4 : j = 4 := by omega
      subst j4
      show (gw s (rk 80) (upd (s.1 (rk 80)) (4 * (12 * w + i) + k) v)).1 (rk 80) (4 * (12 * w + c) + k') = 0
      have a1 : k < psz π i := hr.2
      have a2 := hz i hr.1
      rw [gw_s, upd_o]
      · exact h.sh c k' hc h1 h2
      · intro q
        have e5 : c = i := by omega
        subst e5
        omega
    · rw [ho 80 (by omega)]
      exact h.sh c k' hc h1 h2
  · rw [ho 92 (by omega)]; exact h.bg
end RT
