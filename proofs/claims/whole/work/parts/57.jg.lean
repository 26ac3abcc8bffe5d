/-! PURGE -/
def G_pg (θ : gT) (x1 : Int32) : gM Int32 := gb (G_X8_choose θ 1 x1) fun _ => gb (gg (pk 18 0 0) 1) fun v9 => gb (G_X8_redo θ 1 v9) fun _ => gb (gg (pk 35 1 0) 4) fun v14 => gret v14
def G_pgR (θ : gT) (x1 : Int32) : gM Int32 := gb (gg (pk 1 0 0) 8) fun v16 => gif (v16 = 0) (gret (-1)) (gb (G_X7_hasDomain θ x1) fun v19 => gif (v19 = 0) (gret (-1)) (match θ.2.2.1 with | true => G_pg θ x1 | false => gno))
def G_us (θ : gT) (x1 : Int32) : gM Int32 := gb (G_X8_choose θ 2 x1) fun _ => gb (gg (pk 18 0 0) 1) fun v9 => gb (G_X8_redo θ 2 v9) fun _ => gb (G_X5_looksSameTo θ 0 x1 2) fun v16 => gif (v16 = 0) (gret 0) (gret 1)
def G_usR (θ : gT) (x1 : Int32) : gM Int32 := gb (gg (pk 1 0 0) 8) fun v16 => gif (v16 = 0) (gret (-1)) (gb (G_X7_hasDomain θ x1) fun v19 => gif (v19 = 0) (gret (-1)) (match θ.2.2.2 with | true => G_us θ x1 | false => gno))
/-- what a purge of the reference leaves -/
def nw (w K : Nat) (s s' : gS) : Prop := s'.2 = s.2 ∧ (∀ q : gK, q.1 < 41 → s'.1 q = s.1 q) ∧ ∀ k x, k ≠ 97 → k ≠ K → ¬ rSl w k x → s'.1 (rk k) x = s.1 (rk k) x
section JG
variable {θ θ' : gT} {π π' : mP} {n w K : Nat} {bv : Int32} {s0 s s' : gS} {W : mW} {d a b : Nat} {sl : Bool} {acts : List mAct} {T b1 b2 c : Nat} {x : Int32}
theorem cT.th (h : cT θ π n w s0 s W) (h1 : θ'.1 = θ.1) (h2 : θ'.2.1 = θ.2.1) : cT θ' π n w s0 s W := ⟨h.sc, h.ln, h.rw, h.ms, ⟨⟨h1.trans h.pl.t1.1, h2.trans h.pl.t1.2.1, h.pl.t1.2.2⟩, h.pl.nd, h.pl.nc, h.pl.fl, h.pl.lk, h.pl.pr, h.pl.wy, h.pl.sl⟩, h.fm⟩
/-- the kernel's choice and its replay -/
theorem c_core (hQ : mQ π) (V : MV π acts T n W) (hcw : cT θ π n 0 s s W) (hA : cA s acts) (hT : T < 900000) (hd : d < π.1) (hw : w = 1 ∨ w = 2) {n1 : Nat} {X1 : mW} (hm : cT θ π n1 w s s X1) (hl : 4 ≤ s.2.1 (pk 36 w 0) ∧ s.2.1 (pk 36 w 0) ≤ 6000) {Q : Int32 → gS → Prop} {Kc : Unit → gM Int32} (kk : ∀ s2, cCh s2 w acts (mkp π (mS d) acts).1 → fr (fun q => kPg w q ∨ cK w q) s s2 → (4 ≤ s2.2.1 (pk 36 w 0) ∧ s2.2.1 (pk 36 w 0) ≤ 6000) → cT θ π 3000 w s2 s2 (mrep π (mkp π (mS d) acts).1 0 (mres π) T) → mI π 3000 T (mrep π (mkp π (mS d) acts).1 0 (mres π) T) → gh (Kc ()) s2 Q) : gh (gb (G_X8_choose θ w (nI d)) fun _ => gb (gg (pk 18 0 0) 1) fun v9 => gb (G_X8_redo θ w v9) Kc) s Q := by
  have hok : mokf π (mkp π (mS d) acts).1 0 (mres π) := mok_pg hQ.pok (mS d) ⟨d, hd, if_pos rfl⟩ V.2.2.1
  have hen : mend (mkp π (mS d) acts).1 0 ≤ T := Nat.le_trans (mend_kp acts 0 0 (mres π) V.2.2.1 (Nat.le_refl _)) V.2.2.2.1
  refine hc (c_choose hcw.pl hA V.1.1 V.1.2.2 hd hw hl.1 hl.2) (fun _ s1 z => ?_)
  obtain ⟨z1, z2, z3⟩ := z
  have o1 : ∀ q : gK, q.1 < 35 → s1.1 q = s.1 q ∧ s1.2.1 q = s.2.1 q := fun q hq => z2.1 q (fun y => by
    rcases y with rfl | rfl
    · dsimp only [pk] at hq; omega
    · dsimp only [pk] at hq; omega)
  refine hg (v := nI T) (by rw [(o1 (pk 18 0 0) (by decide)).1]; exact e_time hcw V.2.1.ck) ?_
  have hm1 : cT θ π n1 w s1 s1 X1 := hm.mv (fun q hq => o1 q (by omega))
  have hA1 : cA s1 acts := hA.cg (fun q hq => o1 q (by omega))
  refine hc (c_redo hQ (by omega) hm1 hA1 (mkp_fst acts) z1 V.1.1 hT hok hen) (fun _ s2 y => ?_)
  obtain ⟨n', y1, y2, y3⟩ := y
  have o2 : ∀ q : gK, 31 < q.1 → s2.1 q = s1.1 q ∧ s2.2.1 q = s1.2.1 q := fun q hq => y2.fm.1 q (fun y => by have := y.2.2; omega)
  refine kk s2 ?_ ((z2.mono (fun _ => Or.inl)).tr (y2.fm.mono (fun _ => Or.inr))) ?_ ((y2.rf).mono y1) (y3.mono y1)
  · unfold cCh
    rw [(o2 (pk 35 w 0) (by dsimp only [pk]; omega)).1, (o2 (pk 36 w 0) (by dsimp only [pk]; omega)).1, (o2 (pk 36 w 0) (by dsimp only [pk]; omega)).2]
    exact z1
  · rw [(o2 (pk 36 w 0) (by dsimp only [pk]; omega)).2]; exact z3
theorem kC.nw (h : kC K s s') (hK : 41 ≤ K) : nw w K s s' := ⟨h.1, fun q hq => h.2 q (fun e => by rw [e] at hq; exact absurd hq (by decide)) (fun e => by rw [e] at hq; have : K < 41 := hq; omega), fun k x h1 h2 _ => by rw [h.2 (rk k) (rk_ne h1) (rk_ne h2)]⟩
theorem rfr.nw (h : rfr w s s') : nw w K s s' := ⟨h.1, fun q hq => h.o (by omega), fun k x _ _ h3 => h.2 (rk k) x (fun z => h3 z.2)⟩
theorem nw.tr {s1 s2 : gS} (a : nw w K s s1) (b : nw w K s1 s2) : nw w K s s2 := ⟨b.1.trans a.1, fun q h => (b.2.1 q h).trans (a.2.1 q h), fun k x h1 h2 h3 => (b.2.2 k x h1 h2 h3).trans (a.2.2 k x h1 h2 h3)⟩
theorem rSl_w {k y : Nat} (hw : w = 1 ∨ w = 2) (h : rSl 0 k y) : ¬ rSl w k y := by
  intro h0
  unfold rSl at h h0
  repeat' split at h
  all_goals simp_all
  all_goals omega
theorem r_core (hQ : mQ π) (V : MV π acts T n W) (hrr : rT π n 0 bv s s W) (hA : rA s acts) (hT : T < 900000) (hd : d < π.1) (hw : w = 1 ∨ w = 2) (hK : K = 93 + w) {Q : Int32 → gS → Prop} {Kc : Int32 → gM Int32} (kk : ∀ s4, rT π 3000 w (if mbgn π (mrep π (mkp π (mS d) acts).1 0 (mres π) T) then 1 else 0) s4 s4 (mrep π (mkp π (mS d) acts).1 0 (mres π) T) → (∀ j, j < acts.length → s4.1 (rk K) j = if ((mkp π (mS d) acts).1.getD j (mdf, false)).2 = true then 1 else 0) → nw w K s s4 → gh (Kc (nI (mcnt (mkp π (mS d) acts).1))) s4 Q) : gh (gb (G_X11_choose θ (nI d) K 0 0) fun v3 => gb (G_X11_again θ (nI w) K 0 0) fun _ => Kc v3) s Q := by
  have hok : mokf π (mkp π (mS d) acts).1 0 (mres π) := mok_pg hQ.pok (mS d) ⟨d, hd, if_pos rfl⟩ V.2.2.1
  have hK' : K = 94 ∨ K = 95 := by omega
  have hl := V.1.1
  refine hc (r_choose hrr.pl hrr.ln hQ.pok hA V.1.1 V.1.2.2 hd hK') (fun v s1 z => ?_)
  obtain ⟨rfl, z2, z3⟩ := z
  have o1 : ∀ k, k ≠ 97 → k ≠ K → s1.1 (rk k) = s.1 (rk k) := fun k h1 h2 => z2.2 _ (rk_ne h1) (rk_ne h2)
  have hp1 : pR π s1 := hrr.pl.mv (fun k x hk => by rw [o1 k (by omega) (by omega)])
  have hL1 : ∀ k, 42 ≤ k → s1.2.1 (rk k) = rLen k := fun k hk => by rw [z2.1]; exact hrr.ln k hk
  have hA1 : rA s1 acts := by
    unfold rA
    rw [o1 41 (by omega) (by omega), o1 57 (by omega) (by omega), o1 58 (by omega) (by omega), o1 59 (by omega) (by omega), o1 60 (by omega) (by omega)]
    exact hA
  have hT1 : s1.1 (rk 87) 0 = nI T := by rw [o1 87 (by omega) (by omega)]; exact r_time hrr V.2.1.ck
  refine hc (Q1 := fun _ s4 => rEnd π w T s1 (mrep π (mkp π (mS d) acts).1 0 (mres π) T) s4) ?_ (fun _ s4 y => ?_)
  · unfold G_X11_again
    refine hc (r_reset (w := w) (s0 := s1) (by omega) hL1 hp1 hQ rfr.rf) (fun _ s2 y => ?_)
    have hb1 : mbgn π (mres π) := by
      unfold mbgn msl mres
      rfl
    have y' : rT π 0 w (if mbgn π (mres π) then 1 else 0) s1 s2 (mres π) := by rw [if_pos hb1]; exact y
    exact r_again hQ (mkp_fst acts) hA1 V.1.1 z3 hK' hw hT hT1 mo_fu 0 0 0 s2 (mres π) y' (mres_I hQ) hok (mok_srt acts 0 (mres π) V.2.2.1) (fun a ha => Nat.le_trans (mend_mall acts 0 (mok_srt acts 0 (mres π) V.2.2.1) a ha) V.2.2.2.1) rfl (Nat.zero_le _) (Nat.zero_le _) (by unfold mo_fu; omega) (by omega)
  · obtain ⟨n', y1, y2, y3⟩ := y
    refine kk s4 (y2.rf.mono y1) (fun j hj => ?_) ((z2.nw (by omega)).tr y2.fm.nw)
    rw [y2.fm.o (q := rk K) (by show K < 61 ∨ 93 < K; omega)]
    exact z3 j hj
theorem cA.cg0 (h : cA s acts) (e : ∀ q : gK, q.2.1 = 0 → q.1 = 33 ∨ q.1 = 34 → s'.1 q = s.1 q ∧ s'.2.1 q = s.2.1 q) : cA s' acts := by
  have o : ∀ i, s'.1 (pk 33 0 i) = s.1 (pk 33 0 i) ∧ s'.1 (pk 34 0 i) = s.1 (pk 34 0 i) ∧ s'.2.1 (pk 34 0 i) = s.2.1 (pk 34 0 i) := fun i => ⟨(e (pk 33 0 i) rfl (Or.inl rfl)).1, (e (pk 34 0 i) rfl (Or.inr rfl)).1, (e (pk 34 0 i) rfl (Or.inr rfl)).2⟩
  exact ⟨h.1.cg (o 0).1 (o 0).2.1 (o 0).2.2, h.2.1.cg (o 1).1 (o 1).2.1 (o 1).2.2, h.2.2.1.cg (o 2).1 (o 2).2.1 (o 2).2.2, h.2.2.2.cg (o 3).1 (o 3).2.1 (o 3).2.2⟩
/-- all but the purge stays -/
theorem JI_al {b1' b2' : Nat} (J : JI θ π true acts T n W b1 b2 s) (h1 : θ'.1 = θ.1) (h2 : θ'.2.1 = θ.2.1) (hq : ∀ q : gK, q.1 < 15 ∨ (q.2.1 = 0 ∧ q.1 < 35) → s'.1 q = s.1 q ∧ s'.2.1 q = s.2.1 q) (hp' : ∀ k x, (k = 41 ∧ x ≠ 54) ∨ (43 ≤ k ∧ k ≤ 60) → s'.1 (rk k) x = s.1 (rk k) x) (hw : ∀ k x, 61 ≤ k → k ≤ 93 → rSl 0 k x → s'.1 (rk k) x = s.1 (rk k) x) (hl : ∀ k, 42 ≤ k → s'.2.1 (rk k) = s.2.1 (rk k)) (hj : jP θ' π s') (hb' : jB b1' b2' s') : JI θ' π true acts T n W b1' b2' s' := by
  have q := J.qs rfl
  have rr : rT π n 0 (if mbgn π W then 1 else 0) s s W := by have := J.rr; rw [if_pos rfl] at this; exact this
  have hN := J.na
  refine JI_se ((J.cw.mv (fun q hq' => hq q (by omega))).th h1 h2) (rr.mv (by omega) J.hz q.2.1.io (fun c j m hc hj hm => ((q.2.1.ms c j hc hj).1 m hm).2) (fun k x hk => hp' k x (by omega)) hw hl) ?_ ?_ (J.ca.cg0 (fun q q1 q2 => hq q (Or.inr ⟨q1, by omega⟩))) ?_ hN J.q0 q.1 q.2.1 q.2.2.1 q.2.2.2.1 q.2.2.2.2 hj hb'
  · rw [(hq _ (by decide)).1]; exact J.cs
  · rw [hp' 41 13 (by omega)]; exact J.rs
  · refine ⟨by rw [hp' 41 14 (by omega)]; exact J.ra.1, fun i hi => ?_⟩
    rw [hp' 57 i (by omega), hp' 58 i (by omega), hp' 59 i (by omega), hp' 60 i (by omega)]
    exact J.ra.2 i hi
theorem JI.mv (J : JI θ π true acts T n W b1 b2 s) : MV π acts T n W := ⟨J.na, (J.qs rfl).2⟩
theorem JI.rrt (J : JI θ π true acts T n W b1 b2 s) : rT π n 0 (if mbgn π W then 1 else 0) s s W := by have := J.rr; rw [if_pos rfl] at this; exact this
theorem fw41 (f1 : fr (fun q => kPg w q ∨ cK w q) s s') : fr (fun q => q.1 < 41) s s' := f1.mono (fun q hq => by
  rcases hq with (rfl | rfl) | z
  · dsimp only [pk]; omega
  · dsimp only [pk]; omega
  · have := z.2.2; omega)
theorem kPg_n {q : gK} (hw : w = 1 ∨ w = 2) (h : q.1 < 15 ∨ q.2.1 ≠ w) : ¬ (kPg w q ∨ cK w q) := by
  rintro ((rfl | rfl) | z)
  · dsimp only [pk] at h; omega
  · dsimp only [pk] at h; omega
  · have := z.1; have := z.2.1; omega
/-- the state before, but for the cells of a machine w -/
def oth (w : Nat) (t s : gS) : Prop := ∀ q : gK, ¬ (q.2.1 = w ∧ 15 ≤ q.1) → s.1 q = t.1 q ∧ s.2.1 q = t.2.1 q
theorem oth.rf : oth w s s := fun _ _ => ⟨rfl, rfl⟩
theorem JI.cwS {t : gS} (J : JI θ π true acts T n W b1 b2 t) (hw : w ≠ 0) (he : oth w t s) : cT θ π n 0 s s W := J.cw.mv (fun q hq => he q (by omega))
theorem JI.caS {t : gS} (J : JI θ π true acts T n W b1 b2 t) (hw : w ≠ 0) (he : oth w t s) : cA s acts := J.ca.cg0 (fun q q1 q2 => he q (by omega))
theorem oth.k {t : gS} (hw : w ≠ 0) (he : oth w t s) (k : Nat) : s.1 (rk k) = t.1 (rk k) ∧ s.2.1 (rk k) = t.2.1 (rk k) := he (pk k 0 0) (fun z => hw z.1.symm)
theorem JI.rrS {t : gS} (J : JI θ π true acts T n W b1 b2 t) (hw : w ≠ 0) (he : oth w t s) : rT π n 0 (if mbgn π W then 1 else 0) s s W := by
  have q := J.qs rfl
  have hN := J.na
  exact J.rrt.mv (by omega) J.hz q.2.1.io (fun c j m hc hj hm => ((q.2.1.ms c j hc hj).1 m hm).2) (fun k x _ => by rw [(he.k hw k).1]) (fun k x _ _ _ => by rw [(he.k hw k).1]) (fun k _ => (he.k hw k).2)
theorem JI.raS {t : gS} (J : JI θ π true acts T n W b1 b2 t) (hw : w ≠ 0) (he : oth w t s) : rA s acts := by
  unfold rA
  rw [(he.k hw 41).1, (he.k hw 57).1, (he.k hw 58).1, (he.k hw 59).1, (he.k hw 60).1]
  exact J.ra
theorem JI.rsS {t : gS} (J : JI θ π true acts T n W b1 b2 t) (hw : w ≠ 0) (he : oth w t s) : s.1 (rk 41) 13 = 1 := by
  rw [(he.k hw 41).1]; exact J.rs
theorem P_pg {t : gS} {b1' b2' : Nat} (J : JI θ π true acts T n W b1 b2 t) (he : oth 1 t s) (hb' : jB b1' b2' s) (hc' : T ≤ c) (hT : T < 900000) (hd : d < π.1) {n1 : Nat} {X1 : mW} (hm : cT θ' π n1 1 s s X1) (hl : 4 ≤ s.2.1 (pk 36 1 0) ∧ s.2.1 (pk 36 1 0) ≤ 6000) (h1 : θ'.1 = θ.1) (h2 : θ'.2.1 = θ.2.1) (h3 : θ'.2.2.1 = true) (h4 : θ'.2.2.2 = θ.2.2.2) (ca : ¬ nI d < 0 ∧ (nI d).toNatClampNeg < π.1) : PP θ' (G_pg θ' (nI d)) (G_X11_purge θ' (nI d)) c b1' b2' s := by
  have w1 : (1 : Nat) ≠ 0 := by decide
  have q := J.qs rfl
  have hQ := J.q0.up q.1
  have V := J.mv
  have hN := J.na.1
  unfold PP G_pg
  refine c_core hQ V ((J.cwS w1 he).th h1 h2) (J.caS w1 he) hT hd (Or.inl rfl) hm hl (fun s2 a1 a2 a3 a4 a5 => ?_)
  refine hg a1.2.1 (hr ?_)
  have o2 : ∀ k, 41 ≤ k → s2.1 (rk k) = s.1 (rk k) ∧ s2.2.1 (rk k) = s.2.1 (rk k) := fun k hk => (fw41 a2).1 (rk k) (by show ¬ k < 41; omega)
  have rr2 := (J.rrS w1 he).cl (fw41 a2)
  have ra2 := (J.raS w1 he).cl (fw41 a2)
  unfold G_X11_purge
  refine hg (v := 1) (by show Prod.fst s2 (rk 41) 13 = 1; rw [(o2 41 (by omega)).1]; exact J.rsS w1 he) (hF (by decide) (hb ((dm_y ca).2 rr2.pl) (hF (by decide) ?_)))
  refine r_core (w := 1) (K := 94) hQ V rr2 ra2 hT hd (Or.inl rfl) rfl (fun s4 e1 e2 e3 => ?_)
  have k41 : s4.1 (rk 41) = s2.1 (rk 41) := funext fun y => e3.2.2 41 y (by omega) (by omega) (nSl (by omega))
  refine hg (v := nI acts.length) (by show Prod.fst s4 (rk 41) 14 = _; rw [k41]; exact ra2.1) (hp (hr ⟨rfl, ?_⟩))
  have r8 : (gw s4 (pk 41 0 0) (upd (s4.1 (pk 41 0 0)) 54 (nI acts.length))).1 (rk 41) = upd (s4.1 (rk 41)) 54 (nI acts.length) := gw_s
  have ro : ∀ q, q ≠ rk 41 → (gw s4 (pk 41 0 0) (upd (s4.1 (pk 41 0 0)) 54 (nI acts.length))).1 q = s4.1 q := fun q hq => gw_o hq
  have r2 : (gw s4 (pk 41 0 0) (upd (s4.1 (pk 41 0 0)) 54 (nI acts.length))).2 = s4.2 := rfl
  revert r8 ro r2
  generalize gw s4 (pk 41 0 0) (upd (s4.1 (pk 41 0 0)) 54 (nI acts.length)) = s5
  intro r8 ro r2
  have l5 : s5.2 = s2.2 := r2.trans e3.1
  have c5 : ∀ q : gK, q.1 < 41 → s5.1 q = s2.1 q ∧ s5.2.1 q = s2.2.1 q := fun q hq => ⟨(ro q (fun e => by rw [e] at hq; exact absurd hq (by decide))).trans (e3.2.1 q hq), by rw [l5]⟩
  have c52 : ∀ q : gK, q.1 < 41 → (q.1 < 15 ∨ q.2.1 ≠ 1) → s5.1 q = t.1 q ∧ s5.2.1 q = t.2.1 q := fun q hq h => by
    have := a2.1 q (kPg_n (Or.inl rfl) h)
    have h0 := he q (by omega)
    rw [(c5 q hq).1, (c5 q hq).2, ← h0.1, ← h0.2]; exact this
  have hp5 : ∀ k x, (k = 41 ∧ x ≠ 54) ∨ (43 ≤ k ∧ k ≤ 60) → s5.1 (rk k) x = s2.1 (rk k) x := fun k x hk => by
    rcases hk with ⟨rfl, hx'⟩ | hk
    · rw [r8, upd_o hx', k41]
    · rw [ro _ (rk_ne (by omega)), e3.2.2 k x (by omega) (by omega) (nSl (by omega))]
  refine ⟨π, true, acts, T, n, W, JI_al J h1 h2 (fun q hq => c52 q (by omega) (by omega)) (fun k x hk => by rw [hp5 k x hk, (o2 k (by omega)).1, (he.k w1 k).1]) (fun k x k1 k2 k3 => ?_) (fun k hk => by rw [l5, (o2 k (by omega)).2, (he.k w1 k).2]) ⟨fun z => (by rw [h3] at z; cases z), fun _ => ⟨3000, _, acts.length, _, Nat.le_refl _, a4.mv (fun q hq => c5 q (by omega)), e1.mv (Nat.le_refl _) J.hz a5.io (fun c j m hc hj hm => ((a5.ms c j hc hj).1 m hm).2) (fun k x hk => ?_) (fun k x k1 k2 _ => by rw [ro _ (rk_ne (by omega))]) (fun k hk => by rw [r2]), ⟨T, a5⟩, hN, ?_, ?_, ?_, fun j hj => ?_⟩, fun z => ?_, fun _ => ?_, fun z => ?_, fun z => (by rw [h3] at z; cases z), fun z k i k1 k2 => (by rw [h4] at z; rw [(c52 (pk k 2 i) (by dsimp only [pk]; omega) (by dsimp only [pk]; omega)).2]; exact J.jp.zr.2 z k i k1 k2)⟩ ((hb'.cg a2.2.1 a2.2.2).o2 l5), hc'⟩
  · rw [ro _ (rk_ne (by omega)), e3.2.2 k x (by omega) (by omega) (rSl_w (Or.inl rfl) k3), (o2 k (by omega)).1, (he.k w1 k).1]
  · rcases hk with ⟨rfl, hx'⟩ | hk
    · rw [r8, upd_o (by omega)]
    · rw [ro _ (rk_ne (by omega))]
  · rw [(c5 (pk 35 1 0) (by decide)).1]; exact a1.1
  · rw [r8, upd_s]
  · rw [(c5 (pk 36 1 0) (by decide)).2]; exact a1.2.2.1
  · rw [(c5 (pk 36 1 0) (by decide)).1, ro _ (rk_ne (by omega)), e2 j hj]; exact a1.2.2.2 j hj
  · rw [h4] at z
    obtain ⟨n2, X2, g⟩ := J.jp.p2 z
    exact ⟨n2, X2, (g.mv (fun q hq => c52 q (by omega) (by omega))).th h1 h2⟩
  · rw [(c5 (pk 36 1 0) (by decide)).2]; exact a3
  · rw [h4] at z
    rw [(c52 (pk 36 2 0) (by decide) (by decide)).2]; exact J.jp.l2 z
theorem pg_no (J : JI θ π sl acts T n W b1 b2 s) (x1 : Int32) (h : ¬ (sl = true ∧ ¬ x1 < 0 ∧ x1.toNatClampNeg < π.1)) : gh (G_X11_purge θ x1) s (fun r s' => r = -1 ∧ s' = s) ∧ gh (G_X11_undisturbed θ x1) s (fun r s' => r = -1 ∧ s' = s) ∧ gh (G_pgR θ x1) s (fun r s' => r = -1 ∧ s' = s) ∧ gh (G_usR θ x1) s (fun r s' => r = -1 ∧ s' = s) := by
  unfold G_X11_purge G_X11_undisturbed G_pgR G_usR
  cases sl with
  | false => exact ⟨hg J.rs (hT rfl (hr ⟨rfl, rfl⟩)), hg J.rs (hT rfl (hr ⟨rfl, rfl⟩)), hg J.cs (hT rfl (hr ⟨rfl, rfl⟩)), hg J.cs (hT rfl (hr ⟨rfl, rfl⟩))⟩
  | true =>
    have ca : ¬ (¬ x1 < 0 ∧ x1.toNatClampNeg < π.1) := fun q => h ⟨rfl, q⟩
    exact ⟨hg J.rs (hF (by decide) (hb ((dm_n ca).2 J.rr.pl) (hT rfl (hr ⟨rfl, rfl⟩)))), hg J.rs (hF (by decide) (hb ((dm_n ca).2 J.rr.pl) (hT rfl (hr ⟨rfl, rfl⟩)))), hg J.cs (hF (by decide) (hb ((dm_n ca).1 J.cw.pl) (hT rfl (hr ⟨rfl, rfl⟩)))), hg J.cs (hF (by decide) (hb ((dm_n ca).1 J.cw.pl) (hT rfl (hr ⟨rfl, rfl⟩))))⟩
end JG
