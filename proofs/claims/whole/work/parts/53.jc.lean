/-! CODE, ONFAIL, SLOT, SEAL -/
section JC
variable {θ : gT} {π π' : mP} {n w : Nat} {bv : Int32} {s0 s s' : gS} {W : mW} {d a b : Nat} {sl : Bool} {acts : List mAct} {T b1 b2 c : Nat} {x : Int32}
theorem pC.prg (h : pC θ π s) (hr' : cRow s' 6 0 a (ppr π a ++ [x])) (hf : fr (kRow 6 0 a) s s') : pC θ (pPr π a x) s' := by
  have o : ∀ k i, ¬ ((k = 6 ∨ k = 7) ∧ i = a) → s'.1 (pk k 0 i) = s.1 (pk k 0 i) ∧ s'.2.1 (pk k 0 i) = s.2.1 (pk k 0 i) := fun k i hk => hf.1 _ (fun z => z.elim (fun z => absurd z (pk_ne (by omega))) (fun z => absurd z (pk_ne (by omega))))
  refine ⟨h.t1, ?_, ?_, ?_, fun c k hc hk => ?_, fun d hd => ?_, ?_, fun y hy => ⟨((h.sl y hy).1).cg (o 10 y (by omega)).1 (o 11 y (by omega)).1 (o 11 y (by omega)).2, ((h.sl y hy).2).cg (o 13 y (by omega)).1 (o 14 y (by omega)).1 (o 14 y (by omega)).2⟩⟩
  · rw [(o 1 0 (by omega)).1]; exact h.nd
  · rw [(o 1 0 (by omega)).1]; exact h.nc
  · rw [(o 2 0 (by omega)).1, (o 2 0 (by omega)).2]; exact h.fl
  · rw [(o 4 c (by omega)).1]; exact h.lk c k hc hk
  · show cRow s' 6 0 d (if d = a then ppr π a ++ [x] else ppr π d)
    by_cases e : d = a
    · subst e; rw [if_pos rfl]; exact hr'
    · rw [if_neg e]
      exact (h.pr d hd).cg (o 6 d (by omega)).1 (o 7 d (by omega)).1 (o 7 d (by omega)).2
  · rw [(o 8 0 (by omega)).1, (o 8 0 (by omega)).2]; exact h.wy
theorem pR.prg (h : pR π s) {s1 s2 : gS} (hla : (ppr π a).length < 64) (ha : a < π.1) (hp' : ∀ d, d < π.1 → (ppr π d).length ≤ 64) (e1 : s1.1 (rk 49) = upd (s.1 (rk 49)) (64 * a + (ppr π a).length) x) (o1 : ∀ q, q ≠ rk 49 → s1.1 q = s.1 q) (e2 : s2.1 (rk 50) = upd (s1.1 (rk 50)) a (nI ((ppr π a).length + 1))) (o2 : ∀ q, q ≠ rk 50 → s2.1 q = s1.1 q) : pR (pPr π a x) s2 := by
  have o : ∀ k, k ≠ 49 → k ≠ 50 → s2.1 (rk k) = s.1 (rk k) := fun k h1 h2 => by rw [o2 _ (rk_ne h2), o1 _ (rk_ne h1)]
  refine ⟨h.t1, ?_, ?_, fun x y hx' hy hxy => ?_, fun c k hc hk => ?_, fun d hd => ?_, fun d hd => ?_, fun x hx' => ⟨?_, fun z hz => ⟨?_, ?_⟩⟩⟩
  · rw [o 41 (by omega) (by omega)]; exact h.nd
  · rw [o 41 (by omega) (by omega)]; exact h.nc
  · rw [o 43 (by omega) (by omega)]; exact h.fl x y hx' hy hxy
  · rw [o _ (by omega) (by omega)]; exact h.lk c k hc hk
  · rw [e2, o1 _ (rk_ne (by omega)), o2 _ (rk_ne (by omega)), e1]
    show _ = nI (if d = a then ppr π a ++ [x] else ppr π d).length ∧ ∀ p, p < (if d = a then ppr π a ++ [x] else ppr π d).length → _ = (if d = a then ppr π a ++ [x] else ppr π d).getD p 0
    have hdl := hp' d hd
    by_cases e : d = a
    · subst e
      rw [if_pos rfl, upd_s]
      refine ⟨by rw [List.length_append, List.length_singleton], fun p hp => ?_⟩
      rw [List.length_append, List.length_singleton] at hp
      rw [getD_app]
      by_cases e : p = (ppr π d).length
      · rw [if_neg (by omega), if_pos e, e, upd_s]
      · rw [if_pos (by omega), upd_o (by omega)]; exact (h.pr d hd).2 p (by omega)
    · rw [if_neg e, upd_o e]
      refine ⟨(h.pr d hd).1, fun p hp => ?_⟩
      rw [upd_o (by omega)]; exact (h.pr d hd).2 p hp
  · rw [o 51 (by omega) (by omega)]; exact h.wy d hd
  · rw [o 54 (by omega) (by omega)]; exact (h.sl x hx').1
  · rw [o 52 (by omega) (by omega)]; exact ((h.sl x hx').2 z hz).1
  · rw [o 53 (by omega) (by omega)]; exact ((h.sl x hx').2 z hz).2
theorem gGLk {k i : Nat} (hk : k ∈ [7, 11, 14, 23, 25, 28, 30]) (hi : i < 12) : pk k 0 i ∈ gGL := gGL_mem hk (by omega) hi
theorem P_code (J : JI θ π sl acts T n W b1 b2 s) (hc' : T ≤ c) (x1 x2 : Int32) : PP θ (G_X10_code θ x1 x2) (G_X11_code θ x1 x2) c b1 b2 s := by
  have ht := J.cw.pl.t1
  have hp1 := J.cw.pl
  have hp2 := J.rr.pl
  have hpl := J.q0.pr
  have g50 : ∀ {a : Nat} {s1 : gS} {Q : Int32 → gS → Prop} {Kc : Int32 → gM Int32}, a < π.1 → pR π s1 → (∀ k, 42 ≤ k → s1.2.1 (rk k) = rLen k) → gh (Kc (nI (ppr π a).length)) s1 Q → gh (gb (gl (pk 50 0 0) (nI a)) Kc) s1 Q := fun ha hp hL k => hlr rfl (hL 50 (by omega)) (by show _ < 6; omega) (hp.pr _ ha).1 k
  rcases dom_cs π x1 with ⟨a, ha, rfl, ca⟩ | ca
  · have hla := hpl a ha
    cases sl with
    | true =>
      refine pp_no J hc' (-1) ?_ ?_
      · unfold G_X10_code; exact hg J.cs (hF (by decide) (hr ⟨rfl, rfl⟩))
      · unfold G_X11_code
        exact hb ((dm_y ca).2 hp2) (hF (by decide) (g50 ha hp2 J.rr.ln (hif (fun _ => hr ⟨rfl, rfl⟩) (fun _ => hg J.rs (hF (by decide) (hr ⟨rfl, rfl⟩))))))
    | false =>
      by_cases h64 : (ppr π a).length = 64
      · refine pp_no J hc' (-1) ?_ ?_
        · unfold G_X10_code
          exact hg J.cs (hT rfl (hb ((dm_y ca).1 hp1) (hF (by decide) (hx rfl (by rw [ht.1]; exact ha) (by omega) (hg (hp1.pr a ha).1 (hT (by rw [h64]; rfl) (hr ⟨rfl, rfl⟩)))))))
        · unfold G_X11_code
          exact hb ((dm_y ca).2 hp2) (hF (by decide) (g50 ha hp2 J.rr.ln (hT (by rw [h64]; rfl) (hr ⟨rfl, rfl⟩))))
      · have ne : ¬ nI (ppr π a).length = (64 : Int32) := fun e => h64 ((nI_eq (b := 64) (by omega) (by omega)).mp e)
        unfold PP G_X10_code
        refine hg J.cs (hT rfl (hb ((dm_y ca).1 hp1) (hF (by decide) (hx rfl (by rw [ht.1]; exact ha) (by omega) (hg (hp1.pr a ha).1 (hF ne (hx rfl (by rw [ht.1]; exact ha) (by omega) ?_)))))))
        refine hc (c_add (hp1.pr a ha) x2 (gGLk (by decide) (by omega)) (by show _ ≤ 128; omega)) (fun _ s1 q => ?_)
        obtain ⟨q1, q2⟩ := q
        have q3 : fr (fun q => q.1 < 15) s s1 := q2.mono (fun q hq => by rcases hq with rfl | rfl <;> (dsimp only [pk]; omega))
        refine hx rfl (by rw [ht.1]; exact ha) (by omega) (hg q1.1 (hr ?_))
        have hp3 := hp2.o15 q3
        have hL1 : ∀ k, 42 ≤ k → s1.2.1 (rk k) = rLen k := fun k hk => by rw [(q3.1 (rk k) (by show ¬ k < 15; omega)).2]; exact J.rr.ln k hk
        unfold G_X11_code
        refine hb ((dm_y ca).2 hp3) (hF (by decide) (g50 ha hp3 hL1 (hF ne (hg (v := 0) (by show Prod.fst s1 (rk 41) 13 = 0; rw [(q3.1 (rk 41) (by decide)).1]; exact J.rs) (hT rfl (g50 ha hp3 hL1 ?_))))))
        refine hsr (i := 64 * a + (ppr π a).length) (by rw [m_64, nI_add]) (hL1 49 (by omega)) (by show _ < 384; omega) (fun s2 e0 e1 e2 => ?_)
        refine hlr (i := a) rfl (by rw [e0]; exact hL1 50 (by omega)) (by show _ < 6; omega) (v := nI (ppr π a).length) (by rw [e2 _ (rk_ne (by omega))]; exact (hp3.pr a ha).1) ?_
        rw [nI_1]
        refine hsr (i := a) rfl (by rw [e0]; exact hL1 50 (by omega)) (by show _ < 6; omega) (fun s3 d0 d1 d2 => ?_)
        refine hlr (i := a) rfl (by rw [d0, e0]; exact hL1 50 (by omega)) (by show _ < 6; omega) (by rw [d1, upd_s]) (hr ⟨by rw [List.length_append, List.length_singleton], ?_⟩)
        refine JI_pl J q3 (by rw [(q2.1 _ (fun z => z.elim (fun z => absurd z (pk_ne (by omega))) (fun z => absurd z (pk_ne (by omega))))).1]) (by rw [d0, e0]) (fun q hq => ?_) (hp1.prg q1 q2) (hp3.prg (a := a) (x := x2) (by omega) ha hpl e1 e2 d1 d2) rfl rfl (fun _ _ => rfl) ⟨J.q0.pok, J.q0.sl, fun d hd => ?_, J.q0.lk, J.q0.wy⟩
        · rw [d2 q (fun e => by rw [e] at hq; exact absurd hq (by decide)), e2 q (fun e => by rw [e] at hq; exact absurd hq (by decide))]
        · show (if d = a then ppr π a ++ [x2] else ppr π d).length ≤ 64
          by_cases e : d = a
          · rw [if_pos e, List.length_append, List.length_singleton]; omega
          · rw [if_neg e]; exact hpl d hd
  · refine pp_no J hc' (-1) ?_ ?_
    · unfold G_X10_code
      exact hg J.cs (hif (fun _ => hb ((dm_n ca).1 hp1) (hT rfl (hr ⟨rfl, rfl⟩))) (fun _ => hr ⟨rfl, rfl⟩))
    · unfold G_X11_code
      exact hb ((dm_n ca).2 hp2) (hT rfl (hr ⟨rfl, rfl⟩))
theorem pC.wyu (h : pC θ π s) (ha : a < π.1) : pC θ (pWy π a x) (gw s (pk 8 0 0) (upd (s.1 (pk 8 0 0)) a x)) := by
  have o : ∀ k i, k ≠ 8 → (gw s (pk 8 0 0) (upd (s.1 (pk 8 0 0)) a x)).1 (pk k 0 i) = s.1 (pk k 0 i) := fun k i hk => gw_o (pk_ne (by omega))
  refine ⟨h.t1, ?_, ?_, ⟨h.fl.1, fun y hy => ?_⟩, fun c k hc hk => ?_, fun d hd => (h.pr d hd).cg (o 6 d (by omega)) (o 7 d (by omega)) rfl, ⟨h.wy.1, fun d hd => ?_⟩, fun y hy => ⟨((h.sl y hy).1).cg (o 10 y (by omega)) (o 11 y (by omega)) rfl, ((h.sl y hy).2).cg (o 13 y (by omega)) (o 14 y (by omega)) rfl⟩⟩
  · rw [o 1 0 (by omega)]; exact h.nd
  · rw [o 1 0 (by omega)]; exact h.nc
  · rw [o 2 0 (by omega)]; exact h.fl.2 y hy
  · rw [o 4 c (by omega)]; exact h.lk c k hc hk
  · rw [gw_s]
    show _ = if d = a then x else pwy π d
    by_cases e : d = a
    · rw [if_pos e, e, upd_s]
    · rw [if_neg e, upd_o e]; exact h.wy.2 d hd
theorem pR.wyu (h : pR π s) (e1 : s'.1 (rk 51) = upd (s.1 (rk 51)) a x) (o1 : ∀ q, q ≠ rk 51 → s'.1 q = s.1 q) : pR (pWy π a x) s' := by
  have o : ∀ k, k ≠ 51 → s'.1 (rk k) = s.1 (rk k) := fun k hk => o1 _ (rk_ne hk)
  refine ⟨h.t1, ?_, ?_, fun x y hx' hy hxy => ?_, fun c k hc hk => ?_, fun d hd => ⟨?_, fun p hp => ?_⟩, fun d hd => ?_, fun x hx' => ⟨?_, fun z hz => ⟨?_, ?_⟩⟩⟩
  · rw [o 41 (by omega)]; exact h.nd
  · rw [o 41 (by omega)]; exact h.nc
  · rw [o 43 (by omega)]; exact h.fl x y hx' hy hxy
  · rw [o _ (by omega)]; exact h.lk c k hc hk
  · rw [o 50 (by omega)]; exact (h.pr d hd).1
  · rw [o 49 (by omega)]; exact (h.pr d hd).2 p hp
  · rw [e1]
    show _ = if d = a then x else pwy π d
    by_cases e : d = a
    · rw [if_pos e, e, upd_s]
    · rw [if_neg e, upd_o e]; exact h.wy d hd
  · rw [o 54 (by omega)]; exact (h.sl x hx').1
  · rw [o 52 (by omega)]; exact ((h.sl x hx').2 z hz).1
  · rw [o 53 (by omega)]; exact ((h.sl x hx').2 z hz).2
theorem P_onFail (J : JI θ π sl acts T n W b1 b2 s) (hc' : T ≤ c) (x1 x2 : Int32) : PP θ (G_X10_onFail θ x1 x2) (G_X11_onFail θ x1 x2) c b1 b2 s := by
  have ht := J.cw.pl.t1
  have hp1 := J.cw.pl
  have hp2 := J.rr.pl
  rcases dom_cs π x1 with ⟨a, ha, rfl, ca⟩ | ca
  · by_cases c0 : x2 < 0
    · refine pp_no J hc' 0 ?_ ?_
      · unfold G_X10_onFail
        exact hg J.cs (hif (fun _ => hb ((dm_y ca).1 hp1) (hF (by decide) (hT c0 (hr0 ⟨rfl, rfl⟩)))) (fun _ => hr0 ⟨rfl, rfl⟩))
      · unfold G_X11_onFail
        exact hb ((dm_y ca).2 hp2) (hF (by decide) (hT c0 (hr0 ⟨rfl, rfl⟩)))
    · obtain ⟨v, hv, rfl⟩ := nI_of c0
      by_cases c2 : v ≤ 2
      · have n2 : ¬ (2 : Int32) < nI v := fun q => absurd ((nI_ltI (a := 2) (by omega) hv).mp q) (by omega)
        cases sl with
        | true =>
          refine pp_no J hc' 0 ?_ ?_
          · unfold G_X10_onFail; exact hg J.cs (hF (by decide) (hr0 ⟨rfl, rfl⟩))
          · unfold G_X11_onFail
            exact hb ((dm_y ca).2 hp2) (hF (by decide) (hF c0 (hF n2 (hg J.rs (hF (by decide) (hr0 ⟨rfl, rfl⟩))))))
        | false =>
          unfold PP G_X10_onFail
          refine hg J.cs (hT rfl (hb ((dm_y ca).1 hp1) (hF (by decide) (hF c0 (hT ((nI_leI (b := 2) hv (by omega)).mpr c2) ?_)))))
          refine hs (i := a) rfl (by rw [hp1.wy.1]; exact ha) (by omega) (hr1 ?_)
          have q2 : fr (fun q => q.1 < 15) s (gw s (pk 8 0 0) (upd (s.1 (pk 8 0 0)) a (nI v))) := fr.gw (by show 8 < 15; omega)
          have hp3 := hp2.o15 q2
          have q1 := hp1.wyu (x := nI v) ha
          have q3 : (gw s (pk 8 0 0) (upd (s.1 (pk 8 0 0)) a (nI v))).1 (pk 1 0 0) 8 = s.1 (pk 1 0 0) 8 := by rw [gw_o (pk_ne (by omega))]
          revert q1 q2 q3 hp3
          generalize gw s (pk 8 0 0) (upd (s.1 (pk 8 0 0)) a (nI v)) = s1
          intro q2 hp3 q1 q3
          have hL1 : ∀ k, 42 ≤ k → s1.2.1 (rk k) = rLen k := fun k hk => by rw [(q2.1 (rk k) (by show ¬ k < 15; omega)).2]; exact J.rr.ln k hk
          unfold G_X11_onFail
          refine hb ((dm_y ca).2 hp3) (hF (by decide) (hF c0 (hF n2 (hg (v := 0) (by show Prod.fst s1 (rk 41) 13 = 0; rw [(q2.1 (rk 41) (by decide)).1]; exact J.rs) (hT rfl ?_)))))
          refine hsr (i := a) rfl (hL1 51 (by omega)) (by show _ < 6; omega) (fun s2 e0 e1 e2 => hr1 ⟨rfl, ?_⟩)
          refine JI_pl J q2 q3 e0 (fun q hq => e2 q (fun e => by rw [e] at hq; exact absurd hq (by decide))) q1 (hp3.wyu (a := a) (x := nI v) e1 e2) rfl rfl (fun _ _ => rfl) ⟨J.q0.pok, J.q0.sl, J.q0.pr, J.q0.lk, fun d hd => ?_⟩
          show (if d = a then nI v else pwy π d) = 0 ∨ (if d = a then nI v else pwy π d) = 1 ∨ (if d = a then nI v else pwy π d) = 2
          by_cases e : d = a
          · rw [if_pos e]
            have : v = 0 ∨ v = 1 ∨ v = 2 := by omega
            rcases this with rfl | rfl | rfl
            · exact Or.inl rfl
            · exact Or.inr (Or.inl rfl)
            · exact Or.inr (Or.inr rfl)
          · rw [if_neg e]; exact J.q0.wy d hd
      · refine pp_no J hc' 0 ?_ ?_
        · unfold G_X10_onFail
          exact hg J.cs (hif (fun _ => hb ((dm_y ca).1 hp1) (hF (by decide) (hF c0 (hF (fun q => c2 ((nI_leI (b := 2) hv (by omega)).mp q)) (hr0 ⟨rfl, rfl⟩))))) (fun _ => hr0 ⟨rfl, rfl⟩))
        · unfold G_X11_onFail
          exact hb ((dm_y ca).2 hp2) (hF (by decide) (hF c0 (hT ((nI_ltI (a := 2) (by omega) hv).mpr (by omega)) (hr0 ⟨rfl, rfl⟩))))
  · refine pp_no J hc' 0 ?_ ?_
    · unfold G_X10_onFail
      exact hg J.cs (hif (fun _ => hb ((dm_n ca).1 hp1) (hT rfl (hr0 ⟨rfl, rfl⟩))) (fun _ => hr0 ⟨rfl, rfl⟩))
    · unfold G_X11_onFail
      exact hb ((dm_n ca).2 hp2) (hT rfl (hr0 ⟨rfl, rfl⟩))
theorem e_isS' (x : Int32) : G_X10_isSchedule θ x s = some (if ¬ x < 0 ∧ x.toNatClampNeg < 3 then 1 else 0, s) := gh_eq (by
  unfold G_X10_isSchedule
  refine hif (fun c => ?_) (fun c => ?_)
  · rw [if_neg (fun q => q.1 c)]; exact hr0 ⟨rfl, rfl⟩
  · obtain ⟨k, hk, rfl⟩ := nI_of c
    rw [nI_clamp hk]
    refine hif (fun c2 => ?_) (fun c2 => ?_)
    · have c2' : 3 ≤ k := (nI_leI (a := 3) (by omega) hk).mp c2
      rw [if_neg (fun q => by have := q.2; omega)]; exact hr0 ⟨rfl, rfl⟩
    · have c2' : ¬ 3 ≤ k := fun q => c2 ((nI_leI (a := 3) (by omega) hk).mpr q)
      rw [if_pos ⟨c, by omega⟩]; exact hr1 ⟨rfl, rfl⟩)
theorem pC.slo (h : pC θ π s) {s1 s2 : gS} {t : Nat} (r1 : cRow s1 10 0 a (((psl π a).map fun x => nI x.1) ++ [nI d])) (f1 : fr (kRow 10 0 a) s s1) (r2 : cRow s2 13 0 a (((psl π a).map fun x => nI x.2) ++ [nI t])) (f2 : fr (kRow 13 0 a) s1 s2) : pC θ (pSl π a (d, t)) s2 := by
  have o1 : ∀ k i, ¬ ((k = 10 ∨ k = 11) ∧ i = a) → s1.1 (pk k 0 i) = s.1 (pk k 0 i) ∧ s1.2.1 (pk k 0 i) = s.2.1 (pk k 0 i) := fun k i hk => f1.1 _ (fun z => z.elim (fun z => absurd z (pk_ne (by omega))) (fun z => absurd z (pk_ne (by omega))))
  have o2 : ∀ k i, ¬ ((k = 13 ∨ k = 14) ∧ i = a) → s2.1 (pk k 0 i) = s1.1 (pk k 0 i) ∧ s2.2.1 (pk k 0 i) = s1.2.1 (pk k 0 i) := fun k i hk => f2.1 _ (fun z => z.elim (fun z => absurd z (pk_ne (by omega))) (fun z => absurd z (pk_ne (by omega))))
  have o : ∀ k i, ¬ ((k = 10 ∨ k = 11 ∨ k = 13 ∨ k = 14) ∧ i = a) → s2.1 (pk k 0 i) = s.1 (pk k 0 i) ∧ s2.2.1 (pk k 0 i) = s.2.1 (pk k 0 i) := fun k i hk => ⟨(o2 k i (by omega)).1.trans (o1 k i (by omega)).1, (o2 k i (by omega)).2.trans (o1 k i (by omega)).2⟩
  refine ⟨h.t1, ?_, ?_, ?_, fun c k hc hk => ?_, fun d hd => ?_, ?_, fun y hy => ?_⟩
  · rw [(o 1 0 (by omega)).1]; exact h.nd
  · rw [(o 1 0 (by omega)).1]; exact h.nc
  · rw [(o 2 0 (by omega)).1, (o 2 0 (by omega)).2]; exact h.fl
  · rw [(o 4 c (by omega)).1]; exact h.lk c k hc hk
  · exact (h.pr d hd).cg (o 6 d (by omega)).1 (o 7 d (by omega)).1 (o 7 d (by omega)).2
  · rw [(o 8 0 (by omega)).1, (o 8 0 (by omega)).2]; exact h.wy
  · show cRow s2 10 0 y ((if y = a then psl π a ++ [(d, t)] else psl π y).map fun x => nI x.1) ∧ cRow s2 13 0 y ((if y = a then psl π a ++ [(d, t)] else psl π y).map fun x => nI x.2)
    by_cases e : y = a
    · subst e
      rw [if_pos rfl, List.map_append, List.map_append]
      exact ⟨r1.cg (o2 10 y (by omega)).1 (o2 11 y (by omega)).1 (o2 11 y (by omega)).2, r2⟩
    · rw [if_neg e]
      exact ⟨((h.sl y hy).1).cg (o 10 y (by omega)).1 (o 11 y (by omega)).1 (o 11 y (by omega)).2, ((h.sl y hy).2).cg (o 13 y (by omega)).1 (o 14 y (by omega)).1 (o 14 y (by omega)).2⟩
theorem pR.slo (h : pR π s) {s1 s2 s3 : gS} {t : Nat} (hla : (psl π a).length < 12) (ha : a < 3) (hq : ∀ y, y < 3 → (psl π y).length ≤ 12) (e1 : s1.1 (rk 52) = upd (s.1 (rk 52)) (12 * a + (psl π a).length) (nI d)) (o1 : ∀ q, q ≠ rk 52 → s1.1 q = s.1 q) (e2 : s2.1 (rk 53) = upd (s1.1 (rk 53)) (12 * a + (psl π a).length) (nI t)) (o2 : ∀ q, q ≠ rk 53 → s2.1 q = s1.1 q) (e3 : s3.1 (rk 54) = upd (s2.1 (rk 54)) a (nI ((psl π a).length + 1))) (o3 : ∀ q, q ≠ rk 54 → s3.1 q = s2.1 q) : pR (pSl π a (d, t)) s3 := by
  have o : ∀ k, k ≠ 52 → k ≠ 53 → k ≠ 54 → s3.1 (rk k) = s.1 (rk k) := fun k h1 h2 h3 => by rw [o3 _ (rk_ne h3), o2 _ (rk_ne h2), o1 _ (rk_ne h1)]
  refine ⟨h.t1, ?_, ?_, fun x y hx' hy hxy => ?_, fun c k hc hk => ?_, fun d hd => ⟨?_, fun p hp => ?_⟩, fun d hd => ?_, fun y hy => ?_⟩
  · rw [o 41 (by omega) (by omega) (by omega)]; exact h.nd
  · rw [o 41 (by omega) (by omega) (by omega)]; exact h.nc
  · rw [o 43 (by omega) (by omega) (by omega)]; exact h.fl x y hx' hy hxy
  · rw [o _ (by omega) (by omega) (by omega)]; exact h.lk c k hc hk
  · rw [o 50 (by omega) (by omega) (by omega)]; exact (h.pr d hd).1
  · rw [o 49 (by omega) (by omega) (by omega)]; exact (h.pr d hd).2 p hp
  · rw [o 51 (by omega) (by omega) (by omega)]; exact h.wy d hd
  · rw [e3, o2 (rk 54) (rk_ne (by omega)), o1 (rk 54) (rk_ne (by omega)), o3 (rk 52) (rk_ne (by omega)), o2 (rk 52) (rk_ne (by omega)), e1, o3 (rk 53) (rk_ne (by omega)), e2, o1 (rk 53) (rk_ne (by omega))]
    show _ = nI (if y = a then psl π a ++ [(d, t)] else psl π y).length ∧ ∀ b, b < (if y = a then psl π a ++ [(d, t)] else psl π y).length → _ = nI ((if y = a then psl π a ++ [(d, t)] else psl π y).getD b (0, 0)).1 ∧ _ = nI ((if y = a then psl π a ++ [(d, t)] else psl π y).getD b (0, 0)).2
    have hyl := hq y hy
    by_cases e : y = a
    · subst e
      rw [if_pos rfl, upd_s]
      refine ⟨by rw [List.length_append, List.length_singleton], fun p hp => ?_⟩
      rw [List.length_append, List.length_singleton] at hp
      rw [getD_app]
      by_cases e : p = (psl π y).length
      · rw [if_neg (by omega), if_pos e, e, upd_s, upd_s]; exact ⟨rfl, rfl⟩
      · rw [if_pos (by omega), upd_o (by omega), upd_o (by omega)]; exact (h.sl y hy).2 p (by omega)
    · rw [if_neg e, upd_o e]
      refine ⟨(h.sl y hy).1, fun p hp => ?_⟩
      rw [upd_o (by omega), upd_o (by omega)]; exact (h.sl y hy).2 p hp
theorem P_slot (J : JI θ π sl acts T n W b1 b2 s) (hc' : T ≤ c) (x1 x2 x3 : Int32) : PP θ (G_X10_slot θ x1 x2 x3) (G_X11_slot θ x1 x2 x3) c b1 b2 s := by
  have ht := J.cw.pl.t1
  have hp1 := J.cw.pl
  have hp2 := J.rr.pl
  have hsl := J.q0.sl
  have g54 : ∀ {a : Nat} {s1 : gS} {Q : Int32 → gS → Prop} {Kc : Int32 → gM Int32}, a < 3 → pR π s1 → (∀ k, 42 ≤ k → s1.2.1 (rk k) = rLen k) → gh (Kc (nI (psl π a).length)) s1 Q → gh (gb (gl (pk 54 0 0) (nI a)) Kc) s1 Q := fun ha hp hL k => hlr rfl (hL 54 (by omega)) (by show _ < 3; omega) (hp.sl _ ha).1 k
  by_cases ca : ¬ x1 < 0 ∧ x1.toNatClampNeg < 3
  · obtain ⟨a, hai, rfl⟩ := nI_of ca.1
    have ha : a < 3 := by have := ca.2; rw [nI_clamp hai] at this; exact this
    have na : ¬ (2 : Int32) < nI a := fun q => absurd ((nI_ltI (a := 2) (by omega) hai).mp q) (by omega)
    have hS : ∀ s : gS, G_X10_isSchedule θ (nI a) s = some (1, s) := fun s => by rw [e_isS', if_pos ca]
    rcases dom_cs π x2 with ⟨d, hd, rfl, cd⟩ | cd
    · by_cases t1 : x3 < 1
      · refine pp_no J hc' (-1) ?_ ?_
        · unfold G_X10_slot
          exact hg J.cs (hif (fun _ => hb (hS s) (hF (by decide) (hb ((dm_y cd).1 hp1) (hF (by decide) (hT t1 (hr ⟨rfl, rfl⟩)))))) (fun _ => hr ⟨rfl, rfl⟩))
        · unfold G_X11_slot
          exact hF ca.1 (hF na (hb ((dm_y cd).2 hp2) (hF (by decide) (hT t1 (hr ⟨rfl, rfl⟩)))))
      · by_cases t2 : (20 : Int32) < x3
        · refine pp_no J hc' (-1) ?_ ?_
          · unfold G_X10_slot
            exact hg J.cs (hif (fun _ => hb (hS s) (hF (by decide) (hb ((dm_y cd).1 hp1) (hF (by decide) (hF t1 (hT t2 (hr ⟨rfl, rfl⟩))))))) (fun _ => hr ⟨rfl, rfl⟩))
          · unfold G_X11_slot
            exact hF ca.1 (hF na (hb ((dm_y cd).2 hp2) (hF (by decide) (hF t1 (hT t2 (hr ⟨rfl, rfl⟩))))))
        · obtain ⟨t, hti, rfl⟩ := nI_of (x := x3) (fun q => t1 (Int32.lt_trans q (by decide)))
          have t1' : 1 ≤ t := by
            have : ¬ t < 1 := fun q => t1 ((nI_ltI (b := 1) hti (by omega)).mpr q)
            omega
          have t2' : t ≤ 20 := by
            have : ¬ 20 < t := fun q => t2 ((nI_ltI (a := 20) (by omega) hti).mpr q)
            omega
          cases sl with
          | true =>
            refine pp_no J hc' (-1) ?_ ?_
            · unfold G_X10_slot; exact hg J.cs (hF (by decide) (hr ⟨rfl, rfl⟩))
            · unfold G_X11_slot
              exact hF ca.1 (hF na (hb ((dm_y cd).2 hp2) (hF (by decide) (hF t1 (hF t2 (g54 ha hp2 J.rr.ln (hif (fun _ => hr ⟨rfl, rfl⟩) (fun _ => hg J.rs (hF (by decide) (hr ⟨rfl, rfl⟩))))))))))
          | false =>
            have hla := (hsl a ha).1
            have r13 := (hp1.sl a ha).2
            have r10 := (hp1.sl a ha).1
            have e13 : s.1 (pk 13 0 a) 1 = nI (psl π a).length := by have := r13.1; rw [List.length_map] at this; exact this
            by_cases h12 : (psl π a).length = 12
            · refine pp_no J hc' (-1) ?_ ?_
              · unfold G_X10_slot
                exact hg J.cs (hT rfl (hb (hS s) (hF (by decide) (hb ((dm_y cd).1 hp1) (hF (by decide) (hF t1 (hF t2 (hx rfl ha (by omega) (hg e13 (hT (by rw [h12]; rfl) (hr ⟨rfl, rfl⟩))))))))))) 
              · unfold G_X11_slot
                exact hF ca.1 (hF na (hb ((dm_y cd).2 hp2) (hF (by decide) (hF t1 (hF t2 (g54 ha hp2 J.rr.ln (hT (by rw [h12]; rfl) (hr ⟨rfl, rfl⟩))))))))
            · have ne : ¬ nI (psl π a).length = (12 : Int32) := fun e => h12 ((nI_eq (b := 12) (by omega) (by omega)).mp e)
              unfold PP G_X10_slot
              refine hg J.cs (hT rfl (hb (hS s) (hF (by decide) (hb ((dm_y cd).1 hp1) (hF (by decide) (hF t1 (hF t2 (hx rfl ha (by omega) (hg e13 (hF ne (hx rfl ha (by omega) ?_))))))))))) 
              refine hc (c_add r10 (nI d) (gGLk (by decide) (by omega)) (by rw [List.length_map]; show _ ≤ 24; omega)) (fun _ s1 q => ?_)
              obtain ⟨q1, q2⟩ := q
              have o1 : ∀ k i, ¬ ((k = 10 ∨ k = 11) ∧ i = a) → s1.1 (pk k 0 i) = s.1 (pk k 0 i) ∧ s1.2.1 (pk k 0 i) = s.2.1 (pk k 0 i) := fun k i hk => q2.1 _ (fun z => z.elim (fun z => absurd z (pk_ne (by omega))) (fun z => absurd z (pk_ne (by omega))))
              have r13' : cRow s1 13 0 a ((psl π a).map fun x => nI x.2) := r13.cg (o1 13 a (by omega)).1 (o1 14 a (by omega)).1 (o1 14 a (by omega)).2
              refine hx rfl ha (by omega) (hc (c_add r13' (nI t) (gGLk (by decide) (by omega)) (by rw [List.length_map]; show _ ≤ 24; omega)) (fun _ s2 z => ?_))
              obtain ⟨z1, z2⟩ := z
              have o2 : ∀ k i, ¬ ((k = 13 ∨ k = 14) ∧ i = a) → s2.1 (pk k 0 i) = s1.1 (pk k 0 i) ∧ s2.2.1 (pk k 0 i) = s1.2.1 (pk k 0 i) := fun k i hk => z2.1 _ (fun z => z.elim (fun z => absurd z (pk_ne (by omega))) (fun z => absurd z (pk_ne (by omega))))
              have q3 : fr (fun q => q.1 < 15) s s2 := (q2.mono (fun q hq => by rcases hq with rfl | rfl <;> (dsimp only [pk]; omega))).tr (z2.mono (fun q hq => by rcases hq with rfl | rfl <;> (dsimp only [pk]; omega)))
              refine hx rfl ha (by omega) (hg z1.1 (hr ?_))
              have hp3 := hp2.o15 q3
              have hL1 : ∀ k, 42 ≤ k → s2.2.1 (rk k) = rLen k := fun k hk => by rw [(q3.1 (rk k) (by show ¬ k < 15; omega)).2]; exact J.rr.ln k hk
              unfold G_X11_slot
              refine hF ca.1 (hF na (hb ((dm_y cd).2 hp3) (hF (by decide) (hF t1 (hF t2 (g54 ha hp3 hL1 (hF ne (hg (v := 0) (by show Prod.fst s2 (rk 41) 13 = 0; rw [(q3.1 (rk 41) (by decide)).1]; exact J.rs) (hT rfl (g54 ha hp3 hL1 ?_))))))))))
              refine hsr (i := 12 * a + (psl π a).length) (by rw [m_12, nI_add]) (hL1 52 (by omega)) (by show _ < 36; omega) (fun s3 d0 d1 d2 => ?_)
              refine hlr (i := a) rfl (by rw [d0]; exact hL1 54 (by omega)) (by show _ < 3; omega) (v := nI (psl π a).length) (by rw [d2 _ (rk_ne (by omega))]; exact (hp3.sl a ha).1) ?_
              refine hsr (i := 12 * a + (psl π a).length) (by rw [m_12, nI_add]) (by rw [d0]; exact hL1 53 (by omega)) (by show _ < 36; omega) (fun s4 e0 e1 e2 => ?_)
              refine hlr (i := a) rfl (by rw [e0, d0]; exact hL1 54 (by omega)) (by show _ < 3; omega) (v := nI (psl π a).length) (by rw [e2 _ (rk_ne (by omega)), d2 _ (rk_ne (by omega))]; exact (hp3.sl a ha).1) ?_
              rw [nI_1]
              refine hsr (i := a) rfl (by rw [e0, d0]; exact hL1 54 (by omega)) (by show _ < 3; omega) (fun s5 g0 g1 g2 => ?_)
              refine hlr (i := a) rfl (by rw [g0, e0, d0]; exact hL1 54 (by omega)) (by show _ < 3; omega) (by rw [g1, upd_s]) (hr ⟨by rw [List.length_append, List.length_singleton, List.length_map], ?_⟩)
              refine JI_pl J q3 (by rw [(o2 1 0 (by omega)).1, (o1 1 0 (by omega)).1]) (by rw [g0, e0, d0]) (fun q hq => ?_) (hp1.slo (d := d) (t := t) q1 q2 z1 z2) (hp3.slo (a := a) (d := d) (t := t) (by omega) ha (fun y hy => (hsl y hy).1) d1 d2 e1 e2 g1 g2) rfl rfl (fun _ _ => rfl) ⟨J.q0.pok, fun y hy => ?_, J.q0.pr, J.q0.lk, J.q0.wy⟩
              · rw [g2 q (fun e => by rw [e] at hq; exact absurd hq (by decide)), e2 q (fun e => by rw [e] at hq; exact absurd hq (by decide)), d2 q (fun e => by rw [e] at hq; exact absurd hq (by decide))]
              · show (if y = a then psl π a ++ [(d, t)] else psl π y).length ≤ 12 ∧ ∀ b, b < (if y = a then psl π a ++ [(d, t)] else psl π y).length → ((if y = a then psl π a ++ [(d, t)] else psl π y).getD b (0, 0)).1 < π.1 ∧ 1 ≤ ((if y = a then psl π a ++ [(d, t)] else psl π y).getD b (0, 0)).2 ∧ ((if y = a then psl π a ++ [(d, t)] else psl π y).getD b (0, 0)).2 ≤ 20
                by_cases e : y = a
                · rw [if_pos e, List.length_append, List.length_singleton]
                  refine ⟨by omega, fun b hb' => ?_⟩
                  rw [getD_app]
                  by_cases e2 : b < (psl π a).length
                  · rw [if_pos e2]; exact (hsl a ha).2 b e2
                  · rw [if_neg e2, if_pos (by omega)]; exact ⟨hd, t1', t2'⟩
                · rw [if_neg e]; exact hsl y hy
    · refine pp_no J hc' (-1) ?_ ?_
      · unfold G_X10_slot
        exact hg J.cs (hif (fun _ => hb (hS s) (hF (by decide) (hb ((dm_n cd).1 hp1) (hT rfl (hr ⟨rfl, rfl⟩))))) (fun _ => hr ⟨rfl, rfl⟩))
      · unfold G_X11_slot
        exact hF ca.1 (hF na (hb ((dm_n cd).2 hp2) (hT rfl (hr ⟨rfl, rfl⟩))))
  · refine pp_no J hc' (-1) ?_ ?_
    · unfold G_X10_slot
      exact hg J.cs (hif (fun _ => hb (a := 0) (s1 := s) (by rw [e_isS', if_neg ca]) (hT rfl (hr ⟨rfl, rfl⟩))) (fun _ => hr ⟨rfl, rfl⟩))
    · unfold G_X11_slot
      refine hif (fun _ => hr ⟨rfl, rfl⟩) (fun c0 => ?_)
      obtain ⟨a, hai, rfl⟩ := nI_of c0
      have : ¬ a < 3 := fun q => ca ⟨c0, by rw [nI_clamp hai]; exact q⟩
      exact hT ((nI_ltI (a := 2) (by omega) hai).mpr (by omega)) (hr ⟨rfl, rfl⟩)
end JC
