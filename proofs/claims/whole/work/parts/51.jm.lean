/-! CALLS THAT CHANGE THE PLAN -/
def PP (θ : gT) (g1 g2 : gM Int32) (c b1 b2 : Nat) (s : gS) : Prop := gh g1 s (fun r1 s1 => gh g2 s1 (fun r2 s2 => r2 = r1 ∧ ∃ π sl acts T n W, JI θ π sl acts T n W b1 b2 s2 ∧ T ≤ c))
section JM
variable {θ : gT} {π π' : mP} {n w : Nat} {bv : Int32} {s0 s s' : gS} {W : mW} {d : Nat} {sl : Bool} {acts : List mAct} {T b1 b2 c : Nat}
theorem pp_re {g1 g2 : gM Int32} (J : JI θ π sl acts T n W b1 b2 s) (hc : T ≤ c) (h : RE g1 g2 s) : PP θ g1 g2 c b1 b2 s := by
  obtain ⟨r, e1, e2⟩ := h
  exact ⟨r, s, e1, r, s, e2, rfl, π, sl, acts, T, n, W, J, hc⟩
/-- a world where its own keys and the plan's are the same -/
theorem cT.np (h : cT θ π n w s0 s W) (e : ∀ q : gK, q.2.1 = w → 15 ≤ q.1 → q.1 ≤ 31 → s'.1 q = s.1 q ∧ s'.2.1 q = s.2.1 q) (hp' : pC θ π' s') (h1 : π'.1 = π.1) (h2 : π'.2.1 = π.2.1) (h3 : ∀ c k, plk π' c k = plk π c k) : cT θ π' n w s' s' W := by
  have hz : ∀ c, psz π' c = psz π c := fun c => by unfold psz; rw [h3]
  have hR : ∀ j i k, mR π' j i k → mR π j i k := fun j i k hr => by
    unfold mR at hr ⊢
    rw [h1, h2] at hr
    split at hr <;> simp_all
  refine ⟨fun j i k hr => ?_, ⟨fun d hd => ?_, fun c hc => ?_⟩, fun d hd => ?_, fun c hc => ?_, hp', fr.rf⟩
  · have f := cF_1 w j i k
    have g := cKd_r j k
    rw [(e _ f.2 (by rw [f.1]; exact g.1.1) (by rw [f.1]; exact g.1.2)).1]
    exact h.sc j i k (hR j i k hr)
  · rw [h1] at hd
    rw [(e (pk 20 w d) rfl (by dsimp only [pk]; omega) (by dsimp only [pk]; omega)).2, (e (pk 21 w d) rfl (by dsimp only [pk]; omega) (by dsimp only [pk]; omega)).2]
    exact h.ln.1 d hd
  · rw [h2] at hc
    rw [(e (pk 31 w c) rfl (by dsimp only [pk]; omega) (by dsimp only [pk]; omega)).2, hz]
    exact h.ln.2 c hc
  · rw [h1] at hd
    have a : ∀ k, 22 ≤ k → k ≤ 25 → s'.1 (pk k w d) = s.1 (pk k w d) ∧ s'.2.1 (pk k w d) = s.2.1 (pk k w d) := fun k k1 k2 => e (pk k w d) rfl (by dsimp only [pk]; omega) (by dsimp only [pk]; omega)
    exact ⟨((h.rw d hd).1).cg (a 22 (by omega) (by omega)).1 (a 23 (by omega) (by omega)).1 (a 23 (by omega) (by omega)).2, ((h.rw d hd).2).cg (a 24 (by omega) (by omega)).1 (a 25 (by omega) (by omega)).1 (a 25 (by omega) (by omega)).2⟩
  · rw [h2] at hc
    have a : ∀ k, 27 ≤ k → k ≤ 30 → s'.1 (pk k w c) = s.1 (pk k w c) ∧ s'.2.1 (pk k w c) = s.2.1 (pk k w c) := fun k k1 k2 => e (pk k w c) rfl (by dsimp only [pk]; omega) (by dsimp only [pk]; omega)
    exact ⟨((h.ms c hc).1).cg (a 27 (by omega) (by omega)).1 (a 28 (by omega) (by omega)).1 (a 28 (by omega) (by omega)).2, ((h.ms c hc).2).cg (a 29 (by omega) (by omega)).1 (a 30 (by omega) (by omega)).1 (a 30 (by omega) (by omega)).2⟩
theorem cT.mv (h : cT θ π n w s0 s W) (e : ∀ q : gK, (q.1 < 15 ∨ (q.2.1 = w ∧ q.1 < 32)) → s'.1 q = s.1 q ∧ s'.2.1 q = s.2.1 q) : cT θ π n w s' s' W :=
  h.np (fun q q1 _ q3 => e q (Or.inr ⟨q1, by omega⟩)) (h.pl.cg (fun q hq => e q (Or.inl hq))) rfl rfl (fun _ _ => rfl)
theorem pR.mv (h : pR π s) (e : ∀ k x, ((k = 41 ∧ (x = 0 ∨ x = 2)) ∨ (43 ≤ k ∧ k ≤ 54)) → s'.1 (rk k) x = s.1 (rk k) x) : pR π s' := by
  refine ⟨h.t1, ?_, ?_, fun a b ha hb hab => ?_, fun c k hc hk => ?_, fun d hd => ⟨?_, fun p hp => ?_⟩, fun d hd => ?_, fun a ha => ⟨?_, fun b hb => ⟨?_, ?_⟩⟩⟩
  · rw [e 41 0 (by omega)]; exact h.nd
  · rw [e 41 2 (by omega)]; exact h.nc
  · rw [e 43 _ (by omega)]; exact h.fl a b ha hb hab
  · rw [e _ _ (by omega)]; exact h.lk c k hc hk
  · rw [e 50 _ (by omega)]; exact (h.pr d hd).1
  · rw [e 49 _ (by omega)]; exact (h.pr d hd).2 p hp
  · rw [e 51 _ (by omega)]; exact h.wy d hd
  · rw [e 54 _ (by omega)]; exact (h.sl a ha).1
  · rw [e 52 _ (by omega)]; exact ((h.sl a ha).2 b hb).1
  · rw [e 53 _ (by omega)]; exact ((h.sl a ha).2 b hb).2
theorem rT.mv (h : rT π n w bv s0 s W) (hn : n ≤ 3000) (hz : ∀ c, c < π.2.1 → psz π c ≤ 4) (hio : ∀ d, d < π.1 → (W.2.1 0 d).length ≤ 8 ∧ (W.2.1 1 d).length ≤ 200) (hms : ∀ c j m, c < π.2.1 → j < 2 → m ∈ W.2.2 j c → m.length ≤ 4) (ep : ∀ k x, ((k = 41 ∧ (x = 0 ∨ x = 2)) ∨ (43 ≤ k ∧ k ≤ 54)) → s'.1 (rk k) x = s.1 (rk k) x) (ew : ∀ k x, 61 ≤ k → k ≤ 93 → rSl w k x → s'.1 (rk k) x = s.1 (rk k) x) (e2 : ∀ k, 42 ≤ k → s'.2.1 (rk k) = s.2.1 (rk k)) : rT π n w bv s' s' W := by
  have hw := h.w3
  have ht := h.pl.t1
  refine ⟨fun j i k hr => ?_, fun c k hc h1 h2 => ?_, ?_, fun k hk => by rw [e2 k hk]; exact h.ln k hk, fun d hd => ?_, ?_, h.pl.mv ep, rfr.rf, hw⟩
  · have v := rKd_r hr
    have := rF_sl (w := w) ⟨ht.1, ht.2.2⟩ hz hr
    rw [rF_1, ew _ _ v.1 v.2.1 this, ← rF_1 w j i k]
    exact h.sc j i k hr
  · rw [ew 80 _ (by omega) (by omega) (sl48 (by omega) (by omega) (by omega))]; exact h.sh c k hc h1 h2
  · rw [ew 92 _ (by omega) (by omega) (sl1 (by omega))]; exact h.bg
  · have q := h.io d hd
    have qb := hio d hd
    refine ⟨⟨?_, fun x hx => ?_⟩, ?_, fun x hx => ?_⟩
    · rw [ew 66 _ (by omega) (by omega) (sl6 (by omega) (by omega) (by omega))]; exact q.1.1
    · rw [ew 65 _ (by omega) (by omega) (sl48 (by omega) (by omega) (by omega))]; exact q.1.2 x hx
    · rw [ew 68 _ (by omega) (by omega) (sl6 (by omega) (by omega) (by omega))]; exact q.2.1
    · rw [ew 67 _ (by omega) (by omega) (show 1200 * w ≤ _ ∧ _ < 1200 * w + 1200 by omega)]; exact q.2.2 x hx
  · obtain ⟨ix, cnt, a1, a2, a3, a4, a5⟩ := h.ms
    refine ⟨ix, cnt, ?_, a2, fun c j hc hj => ?_, fun c hc i hi => ?_, a5⟩
    · rw [ew 86 _ (by omega) (by omega) (sl1 (by omega))]; exact a1
    · obtain ⟨c1, c2, c3, c4⟩ := a3 c j hc hj
      refine ⟨c1, rCh_o (s := s) _ _ (fun i hi => ?_) (fun m hm => hms c j m hc hj hm) c2, ?_, fun i r hr => ?_⟩
      · have := c1 i hi
        exact ⟨ew 84 _ (by omega) (by omega) (show 3000 * w ≤ _ ∧ _ < 3000 * w + 3000 by omega), ew 83 _ (by omega) (by omega) (show 3000 * w ≤ _ ∧ _ < 3000 * w + 3000 by omega), fun y hy => ew 85 _ (by omega) (by omega) (show 12000 * w ≤ _ ∧ _ < 12000 * w + 12000 by omega)⟩
      · rw [ew _ _ (by omega) (by omega) (sl12 (by omega) (by omega) (by omega))]; exact c3
      · rw [ew _ _ (by omega) (by omega) (sl12 (by omega) (by omega) (by omega))]; exact c4 i r hr
    · rw [ew 76 _ (by omega) (by omega) (sl12 (by omega) (by omega) (by omega))]; exact a4 c hc i hi
/-- the reference's fresh world -/
theorem rZ_rT (hp' : pR π s) (hL : ∀ k, 42 ≤ k → s.2.1 (rk k) = rLen k) (hz : ∀ k x, 61 ≤ k → k ≤ 93 → s.1 (rk k) x = 0) : rT π 0 0 0 s s mz := by
  refine ⟨fun j i k hr => ?_, fun c k hc h1 h2 => hz 80 _ (by omega) (by omega), hz 92 _ (by omega) (by omega), hL, fun d hd => ⟨⟨hz 66 _ (by omega) (by omega), fun x hx => absurd hx (Nat.not_lt_zero _)⟩, hz 68 _ (by omega) (by omega), fun x hx => absurd hx (Nat.not_lt_zero _)⟩, ⟨fun _ _ => [], 0, hz 86 _ (by omega) (by omega), Nat.le_refl _, fun c j hc hj => ⟨fun i hi => (by cases hi), trivial, hz _ _ (by omega) (by omega), fun i r hr => (by cases hr)⟩, fun c hc i hi => (by cases hi), fun c hc => List.nodup_nil, fun c c' j j' _ _ _ _ _ i hi => (by cases hi)⟩, hp', rfr.rf, by omega⟩
  have v := rKd_r hr
  rw [rF_1]
  exact hz _ _ v.1 v.2.1
theorem jB.cg (h : jB b1 b2 s) (hf : gLB s → gLB s') (hg' : grm s s') : jB b1 b2 s' := by
  obtain ⟨g1, g2⟩ := hg'
  refine ⟨hf h.1, ?_, ?_⟩
  · have := h.2.1; omega
  · have := h.2.2; omega
/-- unsealed -/
theorem JI_un (hcw : cT θ π 0 0 s s mz) (hp' : pR π s) (hL : ∀ k, 42 ≤ k → s.2.1 (rk k) = rLen k) (hz : ∀ k x, 61 ≤ k → k ≤ 93 → s.1 (rk k) x = 0) (h8 : s.1 (pk 1 0 0) 8 = 0) (h13 : s.1 (rk 41) 13 = 0) (h14 : s.1 (rk 41) 14 = 0) (h54 : s.1 (rk 41) 54 = -1) (hA : cA s []) (hq : mQ0 π) (h1 : θ.2.2.1 = false) (h2 : θ.2.2.2 = false) (hb : jB b1 b2 s) (hzc : ∀ k i, 26 ≤ k → k ≤ 31 → π.2.1 ≤ i → s.2.1 (pk k 0 i) = 0) (hzw : (∀ k i, 15 ≤ k → k < 37 → s.2.1 (pk k 1 i) = 0) ∧ ∀ k i, 15 ≤ k → k < 37 → s.2.1 (pk k 2 i) = 0) : JI θ π false [] 0 0 mz b1 b2 s :=
  ⟨hcw, rZ_rT hp' hL hz, h8, h13, hA, ⟨h14, fun i hi => absurd hi (Nat.not_lt_zero _)⟩, ⟨by show 0 ≤ 3000; omega, Nat.le_refl _, fun a ha => (by cases ha)⟩, fun d _ => ⟨by show 0 ≤ 8; omega, by show 0 ≤ 200; omega⟩, hq, fun q => (by cases q), fun _ => ⟨rfl, rfl, rfl, h1, h2, rfl, hz, hzc⟩, ⟨fun _ => h54, fun q => (by rw [h1] at q; cases q), fun q => (by rw [h2] at q; cases q), fun q => (by rw [h1] at q; cases q), fun q => (by rw [h2] at q; cases q), fun _ => hzw.1, fun _ => hzw.2⟩, hb⟩
/-- a call that changes the plan of an unsealed kernel: the kernel changes plan keys, then the reference its own -/
theorem JI_pl (J : JI θ π false acts T n W b1 b2 s) {s1 s2 : gS} (f1 : fr (fun q => q.1 < 15) s s1) (h18 : s1.1 (pk 1 0 0) 8 = s.1 (pk 1 0 0) 8) (f2 : s2.2 = s1.2) (f3 : ∀ q : gK, q.1 < 43 ∨ 54 < q.1 → s2.1 q = s1.1 q) (hp1 : pC θ π' s1) (hp2 : pR π' s2) (e1 : π'.1 = π.1) (e2 : π'.2.1 = π.2.1) (e3 : ∀ c k, plk π' c k = plk π c k) (hq : mQ0 π') : ∃ π sl acts T n W, JI θ π sl acts T n W b1 b2 s2 ∧ T ≤ c := by
  obtain ⟨u1, u2, u3, u4, u5, u6, u7, u8⟩ := J.us rfl
  subst u1 u2 u3
  have k2 : ∀ q : gK, q.1 < 43 → s2.1 q = s1.1 q ∧ s2.2.1 q = s1.2.1 q := fun q hq => ⟨f3 q (Or.inl hq), by rw [f2]⟩
  have kk : ∀ q : gK, 15 ≤ q.1 → q.1 < 43 ∨ 54 < q.1 → s2.1 q = s.1 q ∧ s2.2.1 q = s.2.1 q := fun q q1 q2 => by
    have a := f1.1 q (by omega)
    rw [f3 q q2, f2]
    exact a
  refine ⟨π', false, [], 0, 0, mz, JI_un ?_ hp2 (fun k hk => ?_) (fun k x k1 k2 => ?_) ?_ ?_ ?_ ?_ ?_ hq u4 u5 ?_ (fun k i k1 k2 k3 => ?_) ⟨fun k i k15 hk => ?_, fun k i k15 hk => ?_⟩, Nat.zero_le _⟩
  · exact J.cw.np (fun q _ q2 q3 => kk q q2 (by omega)) (hp1.cg (fun q hq => k2 q (by omega))) e1 e2 e3
  · rw [f2, (f1.1 (rk k) (by show ¬ k < 15; omega)).2]; exact J.rr.ln k hk
  · rw [(kk (rk k) (by show 15 ≤ k; omega) (by show k < 43 ∨ 54 < k; omega)).1]; exact u7 k x k1 k2
  · rw [(k2 _ (by decide)).1, h18]; exact J.cs
  · rw [(kk (rk 41) (by decide) (by decide)).1]; exact J.rs
  · rw [(kk (rk 41) (by decide) (by decide)).1]; exact J.ra.1
  · rw [(kk (rk 41) (by decide) (by decide)).1]; exact J.jp.p0 u4
  · exact J.ca.cg (fun q hq => kk q (by omega) (by omega))
  · refine (J.jb.cg f1.2.1 f1.2.2).cg (fun hL q => by rw [f2]; exact hL q) ?_
    unfold grm gpot
    rw [f2]
    exact ⟨Nat.le_refl _, Nat.le_refl _⟩
  · rw [(kk (pk k 0 i) (by dsimp only [pk]; omega) (by dsimp only [pk]; omega)).2]; exact u8 k i k1 k2 (by rw [← e2]; exact k3)
  · rw [(kk (pk k 1 i) k15 (by dsimp only [pk]; omega)).2]; exact J.jp.zr.1 u4 k i k15 hk
  · rw [(kk (pk k 2 i) k15 (by dsimp only [pk]; omega)).2]; exact J.jp.zr.2 u5 k i k15 hk
theorem JI.zero (J : JI θ π sl acts T n W b1 b2 s) : s.1 (pk 1 0 0) 8 = (if sl = true then 1 else 0) ∧ s.1 (rk 41) 13 = (if sl = true then 1 else 0) := ⟨J.cs, J.rs⟩
/-- kernel refuses, reference refuses -/
theorem pp_no {g1 g2 : gM Int32} (J : JI θ π sl acts T n W b1 b2 s) (hc : T ≤ c) (v : Int32) (h1 : gh g1 s (fun r s' => r = v ∧ s' = s)) (h2 : gh g2 s (fun r s' => r = v ∧ s' = s)) : PP θ g1 g2 c b1 b2 s := pp_re J hc (re_of h1 h2)
end JM
