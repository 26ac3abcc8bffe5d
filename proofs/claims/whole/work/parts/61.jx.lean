/-! UNDISTURBED -/
section UD
variable {θ θ' : gT} {π : mP} {n n' w : Nat} {bv bv' : Int32} {s s0 s0' s' : gS} {W X : mW} {d T b1 b2 c : Nat} {acts : List mAct} {sl : Bool}
theorem ru_all (h : rT π n 0 bv s0 s W) (h' : rT π n' 2 bv' s0' s X) (hQ : mQ π) (hn : n ≤ 3000) (hn' : n' ≤ 3000) (hio : ∀ d, d < π.1 → (W.2.1 0 d).length ≤ 8 ∧ (W.2.1 1 d).length ≤ 200) (hio' : ∀ d, d < π.1 → (X.2.1 0 d).length ≤ 8 ∧ (X.2.1 1 d).length ≤ 200) (m4 : ∀ c j, c < π.2.1 → j < 2 → ∀ m, m ∈ W.2.2 j c → m.length ≤ 4) (m4' : ∀ c j, c < π.2.1 → j < 2 → ∀ m, m ∈ X.2.2 j c → m.length ≤ 4) (hd : d < π.1) (b : Bool) (hb' : b = true ↔ (W.1 2 d 4 = X.1 2 d 4 ∧ W.1 2 d 5 = X.1 2 d 5 ∧ (W.2.1 0 d).length = (X.2.1 0 d).length ∧ (W.2.1 1 d).length = (X.2.1 1 d).length ∧ W.1 2 d 6 = X.1 2 d 6)) : gh (G_X11_undisturbed_129 θ (nI d) (nI d) (nI (12 + d)) (if b = true then 1 else 0)) s (fun r s' => s' = s ∧ ((r = 1 ∧ uSm π W X d) ∨ (r = 0 ∧ ¬ uSm π W X d))) := by
  have hz : ∀ c, c < π.2.1 → psz π c ≤ 4 := fun c hc => (hQ.lk c hc).2.1
  have l8 := hio d hd
  unfold G_X11_undisturbed_129
  refine ru_134 h h' hz hd l8.1 mo_fu 0 b (by unfold mo_fu; omega) (Nat.zero_le _) (fun q => (hb'.mp q).2.2.1) (fun b1 e1 => ?_)
  unfold G_X11_undisturbed_226
  refine ru_229 h h' hz hd mo_fu 0 b1 (by unfold mo_fu; omega) (Nat.zero_le _) (fun b2 e2 => ?_)
  unfold G_X11_undisturbed_282
  refine ru_285 h h' hd l8.2 mo_fu 0 b2 (by unfold mo_fu; omega) (Nat.zero_le _) (fun q => (hb'.mp (e1.mp (e2.mp q).1).1).2.2.2.1) (fun b3 e3 => ?_)
  unfold G_X11_undisturbed_344
  have hD : b3 = true ↔ dSm W X d := by
    constructor
    · intro q
      have q3 := e3.mp q
      have q2 := e2.mp q3.1
      have q1 := e1.mp q2.1
      have q0 := hb'.mp q1.1
      refine ⟨q0.1, q0.2.1, q0.2.2.2.2, fun k hk => (q1.2 k (Nat.zero_le _) hk).1, fun k hk => q2.2 k (Nat.zero_le _) hk, (ext_getD (z := 0) q0.2.2.1).mpr (fun y hy => (q1.2 y (Nat.zero_le _) (by omega)).2 hy), (ext_getD (z := 0) q0.2.2.2.1).mpr (fun y hy => q3.2 y (Nat.zero_le _) hy)⟩
    · rintro ⟨d1, d2, d3, d4, d5, d6, d7⟩
      exact e3.mpr ⟨e2.mpr ⟨e1.mpr ⟨hb'.mpr ⟨d1, d2, by rw [d6], by rw [d7], d3⟩, fun k _ hk => ⟨d4 k hk, fun _ => by rw [d6]⟩⟩, fun k _ hk => d5 k hk⟩, fun k _ _ => by rw [d7]⟩
  refine hm2 (ru_347 h h' hQ hn hn' m4 m4' mo_fu 0 b3 (by unfold mo_fu; have := h.pl.t1; omega) (Nat.zero_le _)) (fun r s' q => ⟨q.1, q.2.elim (fun q => Or.inl ⟨q.1, hD.mp q.2.1, fun c h1 h2 => q.2.2 c (Nat.zero_le _) h1 h2⟩) (fun q => Or.inr ⟨q.1, fun z => q.2 ⟨hD.mpr z.1, fun c _ h1 h2 => z.2 c h1 h2⟩⟩)⟩)
theorem rSl_2 {k y : Nat} (h : rSl 1 k y) : ¬ rSl 2 k y := by
  intro h0
  unfold rSl at h h0
  repeat' split at h
  all_goals simp_all
  all_goals omega
theorem P_us {t : gS} {b1' b2' : Nat} (J : JI θ π true acts T n W b1 b2 t) (he : oth 2 t s) (hb' : jB b1' b2' s) (hc' : T ≤ c) (hT' : T < 900000) (hd : d < π.1) {n1 : Nat} {X1 : mW} (hm : cT θ' π n1 2 s s X1) (hl : 4 ≤ s.2.1 (pk 36 2 0) ∧ s.2.1 (pk 36 2 0) ≤ 6000) (h1 : θ'.1 = θ.1) (h2 : θ'.2.1 = θ.2.1) (h3 : θ'.2.2.1 = θ.2.2.1) (h4 : θ'.2.2.2 = true) (ca : ¬ nI d < 0 ∧ (nI d).toNatClampNeg < π.1) : PP θ' (G_us θ' (nI d)) (G_X11_undisturbed θ' (nI d)) c b1' b2' s := by
  have w2 : (2 : Nat) ≠ 0 := by decide
  have q := J.qs rfl
  have hQ := J.q0.up q.1
  have V := J.mv
  have hN := J.na
  have ht := J.cw.pl.t1
  unfold PP G_us
  refine c_core hQ V ((J.cwS w2 he).th h1 h2) (J.caS w2 he) hT' hd (Or.inr rfl) hm hl (fun s2 a1 a2 a3 a4 a5 => ?_)
  have o2 : ∀ k, 41 ≤ k → s2.1 (rk k) = s.1 (rk k) ∧ s2.2.1 (rk k) = s.2.1 (rk k) := fun k hk => (fw41 a2).1 (rk k) (by show ¬ k < 41; omega)
  have cw2 : cT θ' π n 0 s2 s2 W := ((J.cwS w2 he).mv (fun q hq => a2.1 q (kPg_n (Or.inr rfl) (by omega)))).th h1 h2
  have nbW : mNB π W := by rw [← q.2.2.2.2]; exact mNB.rep _ _ _ _ mNB.res
  have nbX : mNB π (mrep π (mkp π (mS d) acts).1 0 (mres π) T) := mNB.rep _ _ _ _ mNB.res
  generalize hX : mrep π (mkp π (mS d) acts).1 0 (mres π) T = X at a4 a5 nbX
  refine hc (cq_all cw2 a4 hQ (by omega) (Nat.le_refl _) q.2.1 a5 nbW nbX hd) (fun r s2' z => ?_)
  obtain ⟨rfl, z⟩ := z
  have rr2 := (J.rrS w2 he).cl (fw41 a2)
  have ra2 := (J.raS w2 he).cl (fw41 a2)
  have ref : gh (G_X11_undisturbed θ' (nI d)) s2' (fun r s4 => ((r = 1 ∧ uSm π W X d) ∨ (r = 0 ∧ ¬ uSm π W X d)) ∧ rT π 3000 2 (if mbgn π X then 1 else 0) s4 s4 X ∧ nw 2 95 s2' s4) := by
    unfold G_X11_undisturbed
    refine hg (v := 1) (by show Prod.fst s2' (rk 41) 13 = 1; rw [(o2 41 (by omega)).1]; exact J.rsS w2 he) (hF (by decide) (hb ((dm_y ca).2 rr2.pl) (hF (by decide) ?_)))
    refine r_core (w := 2) (K := 95) hQ V rr2 ra2 hT' hd (Or.inr rfl) rfl (fun s4 e1 e2 e3 => ?_)
    rw [hX] at e1
    have rr4 : rT π n 0 (if mbgn π W then 1 else 0) s4 s4 W := rr2.mv (by omega) J.hz q.2.1.io (fun c j m hc hj hm => ((q.2.1.ms c j hc hj).1 m hm).2) (fun k x hk => e3.2.2 k x (by omega) (by omega) (nSl (by omega))) (fun k x k1 k2 k3 => e3.2.2 k x (by omega) (by omega) (rSl_w (Or.inr rfl) k3)) (fun k hk => by rw [e3.1])
    have e12 : (12 : Int32) + nI d = nI (12 + d) := nI_add 12 d
    rw [e12]
    have fin : ∀ b : Bool, (b = true ↔ (W.1 2 d 4 = X.1 2 d 4 ∧ W.1 2 d 5 = X.1 2 d 5 ∧ (W.2.1 0 d).length = (X.2.1 0 d).length ∧ (W.2.1 1 d).length = (X.2.1 1 d).length ∧ W.1 2 d 6 = X.1 2 d 6)) → gh (G_X11_undisturbed_129 θ' (nI d) (nI d) (nI (12 + d)) (if b = true then 1 else 0)) s4 (fun r s4 => ((r = 1 ∧ uSm π W X d) ∨ (r = 0 ∧ ¬ uSm π W X d)) ∧ rT π 3000 2 (if mbgn π X then 1 else 0) s4 s4 X ∧ nw 2 95 s2' s4) := fun b hb' => by
      refine hm2 (ru_all rr4 e1 hQ (by omega) (Nat.le_refl _) q.2.1.io a5.io (fun c j hc hj m hm => ((q.2.1.ms c j hc hj).1 m hm).2) (fun c j hc hj m hm => ((a5.ms c j hc hj).1 m hm).2) hd b hb') (fun r s5 y => ?_)
      obtain ⟨rfl, y⟩ := y
      exact ⟨y, e1, e3⟩
    have no : ¬ (W.1 2 d 4 = X.1 2 d 4 ∧ W.1 2 d 5 = X.1 2 d 5 ∧ (W.2.1 0 d).length = (X.2.1 0 d).length ∧ (W.2.1 1 d).length = (X.2.1 1 d).length ∧ W.1 2 d 6 = X.1 2 d 6) → gh (G_X11_undisturbed_128 θ' (nI d) (nI d) (nI (12 + d))) s4 (fun r s4 => ((r = 1 ∧ uSm π W X d) ∨ (r = 0 ∧ ¬ uSm π W X d)) ∧ rT π 3000 2 (if mbgn π X then 1 else 0) s4 s4 X ∧ nw 2 95 s2' s4) := fun z => by
      unfold G_X11_undisturbed_128
      exact fin false ⟨fun q => absurd q (by decide), fun q => absurd q z⟩
    have l0 := q.2.1.io d hd
    have lX := a5.io d hd
    refine rt_g0 rr4 J.hz (j := 2) (i := d) (k := 4) ⟨hd, by omega, by omega⟩ rfl (nI00 d) ?_
    refine rt_g0 e1 J.hz (j := 2) (i := d) (k := 4) ⟨hd, by omega, by omega⟩ rfl rfl ?_
    refine hif (fun p4 => ?_) (fun p4 => no (fun z => p4 z.1))
    refine rt_g0 rr4 J.hz (j := 2) (i := d) (k := 5) ⟨hd, by omega, by omega⟩ rfl (nI00 d) ?_
    refine rt_g0 e1 J.hz (j := 2) (i := d) (k := 5) ⟨hd, by omega, by omega⟩ rfl rfl ?_
    refine hif (fun p5 => ?_) (fun p5 => no (fun z => p5 z.2.1))
    refine hlr (i := 6 * 0 + d) (nI00 d) (rr4.ln 66 (by omega)) (by show _ < 18; omega) (rr4.io d hd).1.1 ?_
    refine hlr (i := 6 * 2 + d) rfl (rr4.ln 66 (by omega)) (by show _ < 18; omega) (e1.io d hd).1.1 ?_
    refine hif (fun p6 => ?_) (fun p6 => no (fun z => p6 (by rw [z.2.2.1])))
    refine hlr (i := 6 * 0 + d) (nI00 d) (rr4.ln 68 (by omega)) (by show _ < 18; omega) (rr4.io d hd).2.1 ?_
    refine hlr (i := 6 * 2 + d) rfl (rr4.ln 68 (by omega)) (by show _ < 18; omega) (e1.io d hd).2.1 ?_
    refine hif (fun p7 => ?_) (fun p7 => no (fun z => p7 (by rw [z.2.2.2.1])))
    refine rt_g0 rr4 J.hz (j := 2) (i := d) (k := 6) ⟨hd, by omega, by omega⟩ rfl (nI00 d) ?_
    refine rt_g0 e1 J.hz (j := 2) (i := d) (k := 6) ⟨hd, by omega, by omega⟩ rfl rfl ?_
    refine hif (fun p8 => ?_) (fun p8 => no (fun z => p8 z.2.2.2.2))
    exact fin true ⟨fun _ => ⟨p4, p5, (nI_eq (by omega) (by omega)).mp p6, (nI_eq (by omega) (by omega)).mp p7, p8⟩, fun _ => rfl⟩
  have fin : ∀ v : Int32, ((v = 1 ∧ uSm π W X d) ∨ (v = 0 ∧ ¬ uSm π W X d)) → gh (gret v) s2' (fun r1 s1 => gh (G_X11_undisturbed θ' (nI d)) s1 (fun r2 s2 => r2 = r1 ∧ ∃ π sl acts T n W, JI θ' π sl acts T n W b1' b2' s2 ∧ T ≤ c)) := fun v hv => by
    refine hr (hm2 ref (fun r s4 y => ?_))
    obtain ⟨y1, y2, y3⟩ := y
    refine ⟨?_, π, true, acts, T, n, W, ?_, hc'⟩
    · rcases y1 with y1 | y1 <;> rcases hv with hv | hv
      · rw [y1.1, hv.1]
      · exact absurd y1.2 hv.2
      · exact absurd hv.2 y1.2
      · rw [y1.1, hv.1]
    · have c5 : ∀ q : gK, q.1 < 41 → s4.1 q = s2'.1 q ∧ s4.2.1 q = s2'.2.1 q := fun q hq => ⟨y3.2.1 q hq, by rw [y3.1]⟩
      have c52 : ∀ q : gK, q.1 < 41 → (q.1 < 15 ∨ q.2.1 ≠ 2) → s4.1 q = t.1 q ∧ s4.2.1 q = t.2.1 q := fun q hq h => by
        have := a2.1 q (kPg_n (Or.inr rfl) h)
        have h0 := he q (by omega)
        rw [(c5 q hq).1, (c5 q hq).2, ← h0.1, ← h0.2]; exact this
      have hp5 : ∀ k x, k ≠ 97 → k ≠ 95 → 41 ≤ k → ¬ rSl 2 k x → s4.1 (rk k) x = t.1 (rk k) x := fun k x k1 k2 k3 k4 => by rw [y3.2.2 k x k1 k2 k4, (o2 k k3).1, (he.k w2 k).1]
      refine JI_al J h1 h2 (fun q hq => c52 q (by omega) (by omega)) (fun k x hk => hp5 k x (by omega) (by omega) (by omega) (nSl (by omega))) (fun k x k1 k2 k3 => hp5 k x (by omega) (by omega) (by omega) (rSl_w (Or.inr rfl) k3)) (fun k hk => by rw [y3.1, (o2 k (by omega)).2, (he.k w2 k).2]) ⟨fun z => ?_, fun z => ?_, fun _ => ⟨3000, X, a4.mv (fun q hq => c5 q (by omega))⟩, fun z => ?_, fun _ => ?_, fun z k i k1 k2 => (by rw [h3] at z; rw [(c52 (pk k 1 i) (by dsimp only [pk]; omega) (by dsimp only [pk]; omega)).2]; exact J.jp.zr.1 z k i k1 k2), fun z => (by rw [h4] at z; cases z)⟩ ((hb'.cg a2.2.1 a2.2.2).o2 y3.1)
      · rw [h3] at z
        rw [hp5 41 54 (by omega) (by omega) (by omega) (nSl (by omega))]; exact J.jp.p0 z
      · rw [h3] at z
        obtain ⟨n1, X1, pa, bv1, g1, g2, g3, ⟨t1, g4⟩, g5, g6, g7, g8, g9⟩ := J.jp.p1 z
        refine ⟨n1, X1, pa, bv1, g1, (g2.mv (fun q hq => c52 q (by omega) (by omega))).th h1 h2, g3.mv g1 J.hz g4.io (fun c j m hc hj hm => ((g4.ms c j hc hj).1 m hm).2) (fun k x hk => hp5 k x (by omega) (by omega) (by omega) (nSl (by omega))) (fun k x k1 k2 k3 => hp5 k x (by omega) (by omega) (by omega) (rSl_2 k3)) (fun k hk => by rw [y3.1, (o2 k (by omega)).2, (he.k w2 k).2]), ⟨t1, g4⟩, g5, ?_, ?_, ?_, fun j hj => ?_⟩
        · rw [(c52 (pk 35 1 0) (by decide) (by decide)).1]; exact g6
        · rw [hp5 41 54 (by omega) (by omega) (by omega) (nSl (by omega))]; exact g7
        · rw [(c52 (pk 36 1 0) (by decide) (by decide)).2]; exact g8
        · rw [(c52 (pk 36 1 0) (by decide) (by decide)).1, hp5 94 j (by omega) (by omega) (by omega) (nSl (by omega))]; exact g9 j hj
      · rw [h3] at z
        rw [(c52 (pk 36 1 0) (by decide) (by decide)).2]; exact J.jp.l1 z
      · rw [(c5 (pk 36 2 0) (by decide)).2]; exact a3
  rcases z with ⟨rfl, z⟩ | ⟨rfl, z⟩
  · exact hF (by decide) (fin 1 (Or.inl ⟨rfl, z⟩))
  · exact hT rfl (fin 0 (Or.inr ⟨rfl, z⟩))
/-- a machine that stands -/
theorem P_purge (J : JI θ π sl acts T n W b1 b2 s) (hc' : T ≤ c) (hT' : T < 900000) (x1 : Int32) (h : θ.2.2.1 = true ∨ ¬ (sl = true ∧ ¬ x1 < 0 ∧ x1.toNatClampNeg < π.1)) : PP θ (G_pgR θ x1) (G_X11_purge θ x1) c b1 b2 s := by
  by_cases ca : sl = true ∧ ¬ x1 < 0 ∧ x1.toNatClampNeg < π.1
  · have hθ := h.resolve_right (fun q => q ca)
    obtain ⟨rfl, ca⟩ := ca
    rcases dom_cs π x1 with ⟨d, hd, rfl, cb⟩ | cb
    · obtain ⟨n1, X1, pa, bv1, g1, g2, -⟩ := J.jp.p1 hθ
      have := P_pg J oth.rf J.jb hc' hT' hd g2 (J.jp.l1 hθ) rfl rfl hθ rfl cb
      unfold PP G_pgR
      rw [hθ]
      exact hg J.cs (hF (by decide) (hb ((dm_y cb).1 J.cw.pl) (hF (by decide) this)))
    · exact absurd ca cb
  · have := pg_no J x1 ca
    exact pp_no J hc' (-1) this.2.2.1 this.1
theorem P_undist (J : JI θ π sl acts T n W b1 b2 s) (hc' : T ≤ c) (hT' : T < 900000) (x1 : Int32) (h : θ.2.2.2 = true ∨ ¬ (sl = true ∧ ¬ x1 < 0 ∧ x1.toNatClampNeg < π.1)) : PP θ (G_usR θ x1) (G_X11_undisturbed θ x1) c b1 b2 s := by
  by_cases ca : sl = true ∧ ¬ x1 < 0 ∧ x1.toNatClampNeg < π.1
  · have hθ := h.resolve_right (fun q => q ca)
    obtain ⟨rfl, ca⟩ := ca
    rcases dom_cs π x1 with ⟨d, hd, rfl, cb⟩ | cb
    · obtain ⟨n1, X1, g2⟩ := J.jp.p2 hθ
      have := P_us J oth.rf J.jb hc' hT' hd g2 (J.jp.l2 hθ) rfl rfl rfl hθ cb
      unfold PP G_usR
      rw [hθ]
      exact hg J.cs (hF (by decide) (hb ((dm_y cb).1 J.cw.pl) (hF (by decide) this)))
    · exact absurd ca cb
  · have := pg_no J x1 ca
    exact pp_no J hc' (-1) this.2.2.2 this.2.1
end UD
