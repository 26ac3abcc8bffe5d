/-! SEAL, INPUT -/
section JS
variable {θ : gT} {π π' : mP} {n w : Nat} {bv : Int32} {s0 s s' : gS} {W : mW} {d a b : Nat} {sl : Bool} {acts : List mAct} {T b1 b2 c : Nat} {x : Int32}
theorem rT.rf (h : rT π n w bv s0 s W) : rT π n w bv s s W := ⟨h.sc, h.sh, h.bg, h.ln, h.io, h.ms, h.pl, rfr.rf, h.w3⟩
theorem cT.rf (h : cT θ π n w s0 s W) : cT θ π n w s s W := ⟨h.sc, h.ln, h.rw, h.ms, h.pl, fr.rf⟩
/-- sealed -/
theorem JI_se (hcw : cT θ π n 0 s s W) (hrr : rT π n 0 (if mbgn π W then 1 else 0) s s W) (h8 : s.1 (pk 1 0 0) 8 = 1) (h13 : s.1 (rk 41) 13 = 1) (hA : cA s acts) (hB : rA s acts) (hn : acts.length ≤ 3000 ∧ n ≤ acts.length ∧ ∀ a, a ∈ acts → a.1 < π.1) (hq : mQ0 π) (h0 : 0 < (psl π 0).length) (hI : mI π n T W) (hok : mokf π (mall acts) 0 (mres π)) (he' : mend (mall acts) 0 ≤ T) (hrep : mrep π (mall acts) 0 (mres π) T = W) (hj : jP θ π s) (hb' : jB b1 b2 s) : JI θ π true acts T n W b1 b2 s :=
  ⟨hcw, by rw [if_pos rfl]; exact hrr, h8, h13, hA, hB, hn, hI.io, hq, fun _ => ⟨h0, hI, hok, he', hrep⟩, fun q => (by cases q), hj, hb'⟩
theorem jP.mv (h : jP θ π s) (hq : mQ0 π) (e : ∀ q : gK, (q.1 < 15 ∨ (q.2.1 ≠ 0 ∧ q.1 < 37)) → s'.1 q = s.1 q ∧ s'.2.1 q = s.2.1 q) (ep : ∀ k x, ((k = 41 ∧ (x = 0 ∨ x = 2)) ∨ (43 ≤ k ∧ k ≤ 54)) → s'.1 (rk k) x = s.1 (rk k) x) (ew : ∀ k x, 61 ≤ k → k ≤ 93 → rSl 1 k x → s'.1 (rk k) x = s.1 (rk k) x) (e94 : s'.1 (rk 94) = s.1 (rk 94)) (e54 : s'.1 (rk 41) 54 = s.1 (rk 41) 54) (e2 : ∀ k, 42 ≤ k → s'.2.1 (rk k) = s.2.1 (rk k)) : jP θ π s' := by
  have k35 : ∀ w, w ≠ 0 → s'.1 (pk 35 w 0) = s.1 (pk 35 w 0) ∧ s'.1 (pk 36 w 0) = s.1 (pk 36 w 0) ∧ s'.2.1 (pk 36 w 0) = s.2.1 (pk 36 w 0) := fun w hw => ⟨(e (pk 35 w 0) (Or.inr ⟨hw, by dsimp only [pk]; omega⟩)).1, (e (pk 36 w 0) (Or.inr ⟨hw, by dsimp only [pk]; omega⟩)).1, (e (pk 36 w 0) (Or.inr ⟨hw, by dsimp only [pk]; omega⟩)).2⟩
  have cm : ∀ {n w W}, w ≠ 0 → cT θ π n w s s W → cT θ π n w s' s' W := fun hw z => z.mv (fun q hq => e q (hq.elim Or.inl (fun hq => Or.inr ⟨by rw [hq.1]; exact hw, by omega⟩)))
  refine ⟨fun q => by rw [e54]; exact h.p0 q, fun q => ?_, fun q => ?_, fun q => by rw [(k35 1 (by omega)).2.2]; exact h.l1 q, fun q => by rw [(k35 2 (by omega)).2.2]; exact h.l2 q, fun q k i k1 k2 => by rw [(e (pk k 1 i) (Or.inr ⟨(by decide : (1 : Nat) ≠ 0), k2⟩)).2]; exact h.zr.1 q k i k1 k2, fun q k i k1 k2 => by rw [(e (pk k 2 i) (Or.inr ⟨(by decide : (2 : Nat) ≠ 0), k2⟩)).2]; exact h.zr.2 q k i k1 k2⟩
  · obtain ⟨n1, X1, pa, bv1, g1, g2, g3, ⟨t1, g4⟩, g5, g6, g7, g8, g9⟩ := h.p1 q
    refine ⟨n1, X1, pa, bv1, g1, cm (by omega) g2, g3.mv g1 (fun c hc => (hq.lk c hc).2.1) g4.io (fun c j m hc hj hm => ((g4.ms c j hc hj).1 m hm).2) ep ew e2, ⟨t1, g4⟩, g5, ?_, ?_, ?_, ?_⟩
    · rw [(k35 1 (by omega)).1]; exact g6
    · rw [e54]; exact g7
    · rw [(k35 1 (by omega)).2.2]; exact g8
    · rw [(k35 1 (by omega)).2.1, e94]; exact g9
  · obtain ⟨n2, X2, g⟩ := h.p2 q
    exact ⟨n2, X2, cm (by omega) g⟩
theorem jB.o2 (h : jB b1 b2 s) (e : s'.2 = s.2) : jB b1 b2 s' := by
  refine h.cg (fun hL q => by rw [e]; exact hL q) ?_
  unfold grm gpot
  rw [e]
  exact ⟨Nat.le_refl _, Nat.le_refl _⟩
theorem rfr.k41 (h : rfr w s s') {k : Nat} (hk : k < 61 ∨ 93 < k) : s'.1 (rk k) = s.1 (rk k) := h.o hk
theorem mres_st {j i k : Nat} (hr' : mR π j i k) : (mres π).1 j i k = (mA (mA (mA (mA (mA mz 5 0 1 0) 5 0 2 0) 5 0 3 0) 5 0 4 (nI ((psl π 0).getD 0 (0, 0)).2)) 5 0 5 0).1 j i k := by
  show (if j = 5 ∧ i = 0 ∧ k = 4 then _ else _) = (if j = 5 ∧ i = 0 ∧ k = 5 then 0 else if j = 5 ∧ i = 0 ∧ k = 4 then _ else if j = 5 ∧ i = 0 ∧ k = 3 then 0 else if j = 5 ∧ i = 0 ∧ k = 2 then 0 else if j = 5 ∧ i = 0 ∧ k = 1 then 0 else 0)
  by_cases h4 : j = 5 ∧ i = 0 ∧ k = 4
  · rw [if_pos h4, if_neg (by omega), if_pos h4]
  · rw [if_neg h4, if_neg h4]
    repeat' split
    all_goals rfl
theorem P_seal (J : JI θ π sl acts T n W b1 b2 s) (hc' : T ≤ c) : PP θ (G_X10_seal θ) (G_X11_seal θ) c b1 b2 s := by
  have ht := J.cw.pl.t1
  have hp1 := J.cw.pl
  have hp2 := J.rr.pl
  cases sl with
  | true =>
    refine pp_no J hc' (-1) ?_ ?_
    · unfold G_X10_seal; exact hg J.cs (hF (by decide) (hr ⟨rfl, rfl⟩))
    · unfold G_X11_seal; exact hg J.rs (hF (by decide) (hr ⟨rfl, rfl⟩))
  | false =>
    have e13 : s.1 (pk 13 0 0) 1 = nI (psl π 0).length := by have := (hp1.sl 0 (by omega)).2.1; rw [List.length_map] at this; exact this
    have hl12 := (J.q0.sl 0 (by omega)).1
    by_cases h0 : (psl π 0).length = 0
    · refine pp_no J hc' (-1) ?_ ?_
      · unfold G_X10_seal
        exact hg J.cs (hT rfl (hx (j := 0) rfl (by omega) (by omega) (hg e13 (hT (by rw [h0]; rfl) (hr ⟨rfl, rfl⟩)))))
      · unfold G_X11_seal
        exact hg J.rs (hT rfl (hlr (i := 0) rfl (J.rr.ln 54 (by omega)) (by show _ < 3; omega) (hp2.sl 0 (by omega)).1 (hT (by rw [h0]; rfl) (hr ⟨rfl, rfl⟩))))
    · have hQ : mQ π := J.q0.up (by omega)
      have ne : ¬ nI (psl π 0).length = (0 : Int32) := fun e => h0 ((nI_eq (b := 0) (by omega) (by omega)).mp e)
      obtain ⟨u1, u2, u3, u4, u5, u6, u7, u8⟩ := J.us rfl
      subst u1 u2 u3 u6
      unfold PP G_X10_seal
      refine hg J.cs (hT rfl (hx (j := 0) rfl (by omega) (by omega) (hg e13 (hF ne (hpz (Or.inr rfl) ?_)))))
      have q8 : (gw s (pk 1 0 0) (upd (s.1 (pk 1 0 0)) 8 1)).1 (pk 1 0 0) = upd (s.1 (pk 1 0 0)) 8 1 := gw_s
      have qo : ∀ q, q ≠ pk 1 0 0 → (gw s (pk 1 0 0) (upd (s.1 (pk 1 0 0)) 8 1)).1 q = s.1 q := fun q hq => gw_o hq
      have q2 : (gw s (pk 1 0 0) (upd (s.1 (pk 1 0 0)) 8 1)).2 = s.2 := rfl
      revert q8 qo q2
      generalize gw s (pk 1 0 0) (upd (s.1 (pk 1 0 0)) 8 1) = s1
      intro q8 qo q2
      have o : ∀ k i, k ≠ 1 → s1.1 (pk k 0 i) = s.1 (pk k 0 i) := fun k i hk => qo _ (pk_ne (by omega))
      have hp1' : pC θ π s1 := by
        refine ⟨hp1.t1, ?_, ?_, ?_, fun c k hc hk => ?_, fun d hd => (hp1.pr d hd).cg (o 6 d (by omega)) (o 7 d (by omega)) (by rw [q2]), ?_, fun x hx' => ⟨((hp1.sl x hx').1).cg (o 10 x (by omega)) (o 11 x (by omega)) (by rw [q2]), ((hp1.sl x hx').2).cg (o 13 x (by omega)) (o 14 x (by omega)) (by rw [q2])⟩⟩
        · rw [q8, upd_o (by omega)]; exact hp1.nd
        · rw [q8, upd_o (by omega)]; exact hp1.nc
        · rw [o 2 0 (by omega), q2]; exact hp1.fl
        · rw [o 4 c (by omega)]; exact hp1.lk c k hc hk
        · rw [o 8 0 (by omega), q2]; exact hp1.wy
      have hcw1 : cT θ π 0 0 s1 s1 mz := J.cw.np (fun q _ q3 _ => ⟨qo q (fun e => by rw [e] at q3; exact absurd q3 (by decide)), by rw [q2]⟩) hp1' rfl rfl (fun _ _ => rfl)
      refine hc (c_start hcw1 hQ) (fun _ s2 z => ?_)
      obtain ⟨z1, z2, z3⟩ := z
      have hcw2 : cT θ π 0 0 s1 s2 (mres π) := z1.eqW (fun j i k hr' => mres_st hr') (fun _ _ _ _ => rfl) (fun _ _ _ _ => rfl)
      refine hr ?_
      have k2 : ∀ k, 15 ≤ k → k ≠ 18 → s2.1 (rk k) = s.1 (rk k) := fun k h1 h2 => by rw [z2 (rk k) (show pk k 0 0 ≠ pk 18 0 0 from pk_ne (by omega)), qo (rk k) (show pk k 0 0 ≠ pk 1 0 0 from pk_ne (by omega))]
      have l2 : s2.2 = s.2 := z3.trans q2
      have hp4 : pR π s2 := hp2.mv (fun k x hk => by rw [k2 k (by omega) (by omega)])
      unfold G_X11_seal
      refine hg (v := 0) (by show Prod.fst s2 (rk 41) 13 = 0; rw [k2 41 (by omega) (by omega)]; exact J.rs) (hT rfl ?_)
      refine hlr (i := 0) (v := nI (psl π 0).length) rfl (by rw [l2]; exact J.rr.ln 54 (by omega)) (by show _ < 3; omega) (hp4.sl 0 (by omega)).1 (hF ne (hpz (Or.inr rfl) ?_))
      have r8 : (gw s2 (pk 41 0 0) (upd (s2.1 (pk 41 0 0)) 13 1)).1 (rk 41) = upd (s2.1 (rk 41)) 13 1 := gw_s
      have ro : ∀ q, q ≠ rk 41 → (gw s2 (pk 41 0 0) (upd (s2.1 (pk 41 0 0)) 13 1)).1 q = s2.1 q := fun q hq => gw_o hq
      have r2 : (gw s2 (pk 41 0 0) (upd (s2.1 (pk 41 0 0)) 13 1)).2 = s2.2 := rfl
      revert r8 ro r2
      generalize gw s2 (pk 41 0 0) (upd (s2.1 (pk 41 0 0)) 13 1) = s3
      intro r8 ro r2
      have hp5 : pR π s3 := hp4.mv (fun k x hk => by
        rcases hk with ⟨rfl, hx'⟩ | hk
        · rw [r8, upd_o (by omega)]
        · rw [ro _ (rk_ne (by omega))])
      have hR : G_X11_reset θ (0 : Int32) = G_X11_reset θ (nI 0) := rfl
      rw [hR]
      refine hc (r_reset (w := 0) (s0 := s3) (by omega) (fun k hk => by rw [r2, l2]; exact J.rr.ln k hk) hp5 hQ rfr.rf) (fun _ s4 y => hr ⟨rfl, π, true, [], 0, 0, mres π, ?_, Nat.zero_le _⟩)
      have f4 := y.fm
      have k4 : ∀ q : gK, q.1 < 61 ∨ 93 < q.1 → s4.1 q = s3.1 q := fun q hq => f4.o hq
      have l4 : s4.2 = s.2 := f4.1.trans (r2.trans l2)
      have c4 : ∀ q : gK, q.1 < 41 → s4.1 q = s2.1 q ∧ s4.2.1 q = s2.2.1 q := fun q hq => ⟨(k4 q (by omega)).trans (ro q (fun e => by rw [e] at hq; exact absurd hq (by decide))), by rw [l4, l2]⟩
      refine JI_se (hcw2.mv (fun q hq => c4 q (by omega))) ?_ ?_ ?_ ?_ ?_ ⟨by show 0 ≤ 3000; omega, Nat.le_refl _, fun a ha => (by cases ha)⟩ J.q0 (by omega) (mres_I hQ) trivial (Nat.le_refl _) rfl ?_ (J.jb.o2 l4)
      · have hb1 : mbgn π (mres π) := by
          unfold mbgn msl mres
          rfl
        rw [if_pos hb1]
        exact y.rf
      · rw [(c4 _ (by decide)).1, z2 _ (by decide), q8, upd_s]
      · rw [k4 _ (by decide), r8, upd_s]
      · refine J.ca.cg (fun q hq => ?_)
        have h1 := c4 q (by omega)
        rw [h1.1, h1.2, z2 q (fun e => by rw [e] at hq; exact absurd hq (by decide)), qo q (fun e => by rw [e] at hq; exact absurd hq (by decide)), l2]
        exact ⟨rfl, rfl⟩
      · refine ⟨?_, fun i hi => absurd hi (Nat.not_lt_zero _)⟩
        rw [k4 _ (by decide), r8, upd_o (by omega), k2 41 (by omega) (by omega)]
        exact J.ra.1
      · refine ⟨fun _ => ?_, fun q => (by rw [u4] at q; cases q), fun q => (by rw [u5] at q; cases q), fun q => (by rw [u4] at q; cases q), fun q => (by rw [u5] at q; cases q), fun q k i k1 k2 => by rw [l4]; exact J.jp.zr.1 q k i k1 k2, fun q k i k1 k2 => by rw [l4]; exact J.jp.zr.2 q k i k1 k2⟩
        rw [k4 _ (by decide), r8, upd_o (by omega), k2 41 (by omega) (by omega)]
        exact J.jp.p0 u4
end JS
