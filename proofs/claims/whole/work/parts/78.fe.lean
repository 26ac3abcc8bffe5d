/-! CHANNEL, on the heap -/
def G_chR (θ : gT) (x1 x2 x3 x4 : Int32) : gM Int32 := gb (gg (pk 1 0 0) 8) fun v2 => gif (v2 = 0) (gb (G_X7_hasDomain θ x1) fun v5 => gif (v5 = 0) (gret (-1)) (gb (G_X7_hasDomain θ x2) fun v8 => gif (v8 = 0) (gret (-1)) (gif (x1 = x2) (gret (-1)) (gb (G_X7_mayFlow θ x1 x2) fun v12 => gif (v12 = 0) (gret (-1)) (gif (x4 < (1 : Int32)) (gret (-1)) (gif ((4 : Int32) < x4) (gret (-1)) (gb (gg (pk 1 0 0) 3) fun v17 => gif (v17 = (12 : Int32)) (gret (-1)) gno))))))) (gret (-1))
theorem q_chR (θ : gT) (Gs U : gK → Nat) (x1 x2 x3 x4 : Int32) (hvx0 : gV θ 0 0 0) : gSim true θ Gs U (F_X10_channel (Gs (pk 0 0 0)) x1 x2 x3 x4) (G_chR θ x1 x2 x3 x4) := by
  unfold F_X10_channel G_chR
  refine gq_ck (k := 0) (w := 0) (i := 0) hvx0 rfl (fun _ _ => ⟨_, rfl⟩) ?_
  refine gq_R (k := 0) (w := 0) (i := 0) hvx0 rfl (fun _ _ => ⟨_, rfl, rfl⟩) ?_
  refine gq_I (k := 1) (w := 0) (i := 0) (gv_plan hvx0) rfl (fun _ _ => ⟨_, rfl, rfl⟩) (fun v1 => ?_)
  refine gq_if (fun _ => ?_) (fun _ => gq_ret)
  refine gq_R (k := 0) (w := 0) (i := 0) hvx0 rfl (fun _ _ => ⟨_, rfl, rfl⟩) ?_
  refine gq_call (q_X7_hasDomain θ Gs U x1 (gv_plan hvx0)) (fun v2 => ?_)
  refine gq_if (fun _ => gq_ret) (fun _ => ?_)
  refine gq_R (k := 0) (w := 0) (i := 0) hvx0 rfl (fun _ _ => ⟨_, rfl, rfl⟩) ?_
  refine gq_call (q_X7_hasDomain θ Gs U x2 (gv_plan hvx0)) (fun v2 => ?_)
  refine gq_if (fun _ => gq_ret) (fun _ => ?_)
  refine gq_if (fun _ => gq_ret) (fun _ => ?_)
  refine gq_R (k := 0) (w := 0) (i := 0) hvx0 rfl (fun _ _ => ⟨_, rfl, rfl⟩) ?_
  refine gq_call (q_X7_mayFlow θ Gs U x1 x2 (gv_plan hvx0)) (fun v2 => ?_)
  refine gq_if (fun _ => gq_ret) (fun _ => ?_)
  refine gq_if (fun _ => gq_ret) (fun _ => ?_)
  refine gq_if (fun _ => gq_ret) (fun _ => ?_)
  refine gq_R (k := 0) (w := 0) (i := 0) hvx0 rfl (fun _ _ => ⟨_, rfl, rfl⟩) ?_
  refine gq_I (k := 1) (w := 0) (i := 0) (gv_plan hvx0) rfl (fun _ _ => ⟨_, rfl, rfl⟩) (fun v1 => ?_)
  exact gq_if (fun _ => gq_ret) (fun _ => gq_no)
/-- what a channel needs -/
def okC (π : mP) (sl : Bool) (x1 x2 x4 : Int32) : Prop := sl = false ∧ ∃ a b z, a < π.1 ∧ b < π.1 ∧ a ≠ b ∧ pfl π a b = true ∧ 1 ≤ z ∧ z ≤ 4 ∧ π.2.1 < 12 ∧ x1 = nI a ∧ x2 = nI b ∧ x4 = nI z ∧ (¬ nI a < 0 ∧ (nI a).toNatClampNeg < π.1) ∧ (¬ nI b < 0 ∧ (nI b).toNatClampNeg < π.1)
section FE
variable {θ : gT} {Gs U : gK → Nat} {h h' : mo_H} {s : gS} {π : mP} {acts : List mAct} {T n b1 b2 c y1 y2 sz : Nat} {W : mW} {sl : Bool}
theorem ch_no (J : JI θ π sl acts T n W b1 b2 s) (x1 x2 x3 x4 : Int32) (hno : ¬ okC π sl x1 x2 x4) : gh (G_chR θ x1 x2 x3 x4) s (fun r s' => r = -1 ∧ s' = s) ∧ gh (G_X11_channel θ x1 x2 x3 x4) s (fun r s' => r = -1 ∧ s' = s) := by
  have hp1 := J.cw.pl
  have hp2 := J.rr.pl
  have ht := hp1.t1
  unfold G_chR G_X11_channel
  rcases dom_cs π x1 with ⟨a, ha, rfl, ca⟩ | ca
  · rcases dom_cs π x2 with ⟨b, hb', rfl, cb'⟩ | cb'
    · by_cases hab : nI a = nI b
      · exact ⟨hg J.cs (hif (fun _ => hb ((dm_y ca).1 hp1) (hF (by decide) (hb ((dm_y cb').1 hp1) (hF (by decide) (hT hab (hr ⟨rfl, rfl⟩)))))) (fun _ => hr ⟨rfl, rfl⟩)), hb ((dm_y ca).2 hp2) (hF (by decide) (hb ((dm_y cb').2 hp2) (hF (by decide) (hT hab (hr ⟨rfl, rfl⟩)))))⟩
      · have hab' : a ≠ b := fun e => hab (by rw [e])
        have fl := hp2.fl a b ha hb' hab'
        have mf := e_mayF (θ := θ) hp1 ha hb'
        have cl : ∀ {K : gM Int32}, gh K s (fun r s' => r = -1 ∧ s' = s) → gh (gb (gg (pk 1 0 0) 8) fun v2 => gif (v2 = 0) (gb (G_X7_hasDomain θ (nI a)) fun v5 => gif (v5 = 0) (gret (-1)) (gb (G_X7_hasDomain θ (nI b)) fun v8 => gif (v8 = 0) (gret (-1)) (gif (nI a = nI b) (gret (-1)) K))) (gret (-1))) s (fun r s' => r = -1 ∧ s' = s) := fun k => hg J.cs (hif (fun _ => hb ((dm_y ca).1 hp1) (hF (by decide) (hb ((dm_y cb').1 hp1) (hF (by decide) (hF hab k))))) (fun _ => hr ⟨rfl, rfl⟩))
        have rl : ∀ {K : Int32 → gM Int32}, gh (K (if pfl π a b = true then 1 else 0)) s (fun r s' => r = -1 ∧ s' = s) → gh (gb (G_X11_isDomain θ (nI a)) fun v1 => (gif (v1 = 0) (gret (-1 : Int32)) (gb (G_X11_isDomain θ (nI b)) fun v2 => (gif (v2 = 0) (gret (-1 : Int32)) (gif (nI a = nI b) (gret (-1 : Int32)) (gb (gl (pk 43 0 0) (((6 : Int32) * nI a) + nI b)) K)))))) s (fun r s' => r = -1 ∧ s' = s) := fun k => hb ((dm_y ca).2 hp2) (hF (by decide) (hb ((dm_y cb').2 hp2) (hF (by decide) (hF hab (hlr (i := 6 * a + b) (by rw [m_6, nI_add]) (J.rr.ln 43 (by omega)) (by show _ < 36; omega) fl k)))))
        by_cases hf : pfl π a b = true
        · rw [if_pos hf] at mf
          by_cases t1 : x4 < 1
          · refine ⟨cl (hb mf (hF (by decide) (hT t1 (hr ⟨rfl, rfl⟩)))), rl ?_⟩
            rw [if_pos hf]
            exact hF (by decide) (hT t1 (hr ⟨rfl, rfl⟩))
          · by_cases t2 : (4 : Int32) < x4
            · refine ⟨cl (hb mf (hF (by decide) (hF t1 (hT t2 (hr ⟨rfl, rfl⟩))))), rl ?_⟩
              rw [if_pos hf]
              exact hF (by decide) (hF t1 (hT t2 (hr ⟨rfl, rfl⟩)))
            · obtain ⟨z, hzi, rfl⟩ := nI_of (x := x4) (fun q => t1 (Int32.lt_trans q (by decide)))
              have z1 : 1 ≤ z := by
                have : ¬ z < 1 := fun q => t1 ((nI_ltI (b := 1) hzi (by omega)).mpr q)
                omega
              have z4 : z ≤ 4 := by
                have : ¬ 4 < z := fun q => t2 ((nI_ltI (a := 4) (by omega) hzi).mpr q)
                omega
              by_cases h12 : π.2.1 = 12
              · refine ⟨cl (hb mf (hF (by decide) (hF t1 (hF t2 (hg hp1.nc (hT (by rw [h12]; rfl) (hr ⟨rfl, rfl⟩))))))), rl ?_⟩
                rw [if_pos hf]
                exact hF (by decide) (hF t1 (hF t2 (hg hp2.nc (hT (by rw [h12]; rfl) (hr ⟨rfl, rfl⟩)))))
              · cases sl with
                | false => exact absurd ⟨rfl, a, b, z, ha, hb', hab', hf, z1, z4, by omega, rfl, rfl, rfl, ca, cb'⟩ hno
                | true =>
                  refine ⟨hg J.cs (hF (by decide) (hr ⟨rfl, rfl⟩)), rl ?_⟩
                  rw [if_pos hf]
                  exact hF (by decide) (hF t1 (hF t2 (hg hp2.nc (hif (fun _ => hr ⟨rfl, rfl⟩) (fun _ => hg J.rs (hF (by decide) (hr ⟨rfl, rfl⟩)))))))
        · rw [if_neg hf] at mf
          refine ⟨cl (hb mf (hT rfl (hr ⟨rfl, rfl⟩))), rl ?_⟩
          rw [if_neg hf]
          exact hT rfl (hr ⟨rfl, rfl⟩)
    · exact ⟨hg J.cs (hif (fun _ => hb ((dm_y ca).1 hp1) (hF (by decide) (hb ((dm_n cb').1 hp1) (hT rfl (hr ⟨rfl, rfl⟩))))) (fun _ => hr ⟨rfl, rfl⟩)), hb ((dm_y ca).2 hp2) (hF (by decide) (hb ((dm_n cb').2 hp2) (hT rfl (hr ⟨rfl, rfl⟩))))⟩
  · exact ⟨hg J.cs (hif (fun _ => hb ((dm_n ca).1 hp1) (hT rfl (hr ⟨rfl, rfl⟩))) (fun _ => hr ⟨rfl, rfl⟩)), hb ((dm_n ca).2 hp2) (hT rfl (hr ⟨rfl, rfl⟩))⟩
theorem st_chan (L : LJ y1 y2 sz c h) (x1 x2 x3 x4 : Int32) (hx3 : x3 = 0 ∨ x3 = 1) : ST (F_X10_channel y1 x1 x2 x3 x4) (F_X11_channel y2 x1 x2 x3 x4) y1 y2 sz c h := by
  obtain ⟨θ, Gs, U, s, π, sl, acts, T, n, W, H, e1, e2, J, hT', h6⟩ := L
  subst e1 e2
  by_cases ok : okC π sl x1 x2 x4
  · obtain ⟨rfl, a, b, z, ha, hbb, hab, hf, z1, z4, hl, rfl, rfl, rfl, ca, cb'⟩ := ok
    have ht := J.cw.pl.t1
    have p := J.cw.pl
    obtain ⟨u1, u2, u3, u4, u5, u6, u7, u8⟩ := J.us rfl
    have hm : θ.2.2 = (false, false) := Prod.ext u4 u5
    have v0 : gV θ 0 0 0 := ⟨⟨rfl, rfl⟩, h6⟩
    have v1 : gV θ 1 0 0 := ⟨⟨rfl, rfl⟩, h6⟩
    have v3 : gV θ 3 0 0 := ⟨⟨rfl, rfl⟩, h6⟩
    have v15 : gV θ 15 0 0 := ⟨⟨Or.inl rfl, rfl⟩, h6⟩
    have v17 : gV θ 17 0 0 := ⟨⟨Or.inl rfl, rfl⟩, h6⟩
    have hab' : ¬ nI a = nI b := fun e => hab ((nI_eq (by omega) (by omega)).mp e)
    have mf := e_mayF (θ := θ) p ha hbb
    rw [if_pos hf] at mf
    have run : fh (F_X10_channel (Gs (pk 0 0 0)) (nI a) (nI b) x3 (nI z)) h (fun r h1 => ∃ h2, (F_X11_channel (Gs (pk 41 0 0)) (nI a) (nI b) x3 (nI z)).1 h1 = some (r, h2) ∧ LJ (Gs (pk 0 0 0)) (Gs (pk 41 0 0)) sz c h2) := by
      have c0 := (H.1 0 0 0 v0).1
      have c1 := (H.1 1 0 0 v1).1
      unfold F_X10_channel
      refine f_ck c0 (f_gR c0 rfl (f_gI (x := 0) c1 ?_ (f_T rfl (f_gR c0 rfl ?_))))
      · show some (Value.int (s.1 (pk 1 0 0) 8)) = _
        have e8 : s.1 (pk 1 0 0) 8 = 0 := J.cs
        rw [e8]
      obtain ⟨h1, U1, b1, H1, eU⟩ := q_X7_hasDomain θ Gs U (nI a) v1 h s H 1 s ((dm_y ca).1 p)
      have eU := eU rfl
      subst eU
      refine f_b b1 (f_F (by decide) (f_gR (H1.1 0 0 0 v0).1 rfl ?_))
      obtain ⟨h2, U2, b2, H2, eU⟩ := q_X7_hasDomain θ Gs U1 (nI b) v1 h1 s H1 1 s ((dm_y cb').1 p)
      have eU := eU rfl
      subst eU
      refine f_b b2 (f_F (by decide) (f_F hab' (f_gR (H2.1 0 0 0 v0).1 rfl ?_)))
      obtain ⟨h3, U3, b3, H3, eU⟩ := q_X7_mayFlow θ Gs U2 (nI a) (nI b) v1 h2 s H2 1 s mf
      have eU := eU rfl
      subst eU
      have d0 := H3.1 0 0 0 v0
      have d1 := H3.1 1 0 0 v1
      have d3 := H3.1 3 0 0 v3
      have d15 := H3.1 15 0 0 v15
      have d17 := H3.1 17 0 0 v17
      have hne : ∀ {k k'}, gV θ k 0 0 → gV θ k' 0 0 → k ≠ k' → gA Gs U3 k 0 0 ≠ gA Gs U3 k' 0 0 := fun {k k'} q1 q2 hk e => by
        obtain ⟨own, g2⟩ := H3.2.1
        have a1 := g2 _ _ _ q1
        have a2 := g2 _ _ _ q2
        rw [e, a2] at a1
        exact hk (congrArg Prod.fst a1).symm
      have g0 : h3.1 (Gs (pk 0 0 0)) = some (gC θ Gs U3 0 0 0 (s.1 (pk 0 0 0)) (s.2.1 (pk 0 0 0))) := d0.1
      have g1 : h3.1 (Gs (pk 1 0 0)) = some (gC θ Gs U3 1 0 0 (s.1 (pk 1 0 0)) (s.2.1 (pk 1 0 0))) := d1.1
      have g3 : h3.1 (Gs (pk 3 0 0)) = some (.inl (3, 12, gRef (fun j => if j < θ.2.1 then some (Gs (pk 4 0 j)) else none))) := d3.1
      have g15 : h3.1 (Gs (pk 15 0 0)) = some (gC θ Gs U3 15 0 0 (s.1 (pk 15 0 0)) (s.2.1 (pk 15 0 0))) := d15.1
      have g17 : h3.1 (Gs (pk 17 0 0)) = some (.inl (5, 12, gRef (fun j => if j < θ.2.1 then some (Gs (pk 26 0 j)) else none))) := d17.1
      have l0 : Gs (pk 0 0 0) < h3.2.1 := d0.2
      have l1 : Gs (pk 1 0 0) < h3.2.1 := d1.2
      have l3 : Gs (pk 3 0 0) < h3.2.1 := d3.2
      have l15 : Gs (pk 15 0 0) < h3.2.1 := d15.2
      have l17 : Gs (pk 17 0 0) < h3.2.1 := d17.2
      have n01 : Gs (pk 0 0 0) ≠ Gs (pk 1 0 0) := hne v0 v1 (by decide)
      have n03 : Gs (pk 0 0 0) ≠ Gs (pk 3 0 0) := hne v0 v3 (by decide)
      have n017 : Gs (pk 0 0 0) ≠ Gs (pk 17 0 0) := hne v0 v17 (by decide)
      have n13 : Gs (pk 1 0 0) ≠ Gs (pk 3 0 0) := hne v1 v3 (by decide)
      have n117 : Gs (pk 1 0 0) ≠ Gs (pk 17 0 0) := hne v1 v17 (by decide)
      have n153 : Gs (pk 15 0 0) ≠ Gs (pk 3 0 0) := hne v15 v3 (by decide)
      have n173 : Gs (pk 17 0 0) ≠ Gs (pk 3 0 0) := hne v17 v3 (by decide)
      have i3 : ∀ fs : List Value, gC θ Gs U3 1 0 0 (s.1 (pk 1 0 0)) (s.2.1 (pk 1 0 0)) = .inr (7, fs) → fs[3]? = some (.int (nI θ.2.1)) := fun fs e => by
        cases e
        show some (Value.int (s.1 (pk 1 0 0) 3)) = _
        rw [p.nc, ht.2.1]
      refine f_b b3 (f_F (by decide) (f_F (fun q => absurd ((nI_ltI (b := 1) (by omega) (by omega)).mp q) (by omega)) (f_F (fun q => absurd ((nI_ltI (a := 4) (by omega) (by omega)).mp q) (by omega)) (f_gR g0 rfl (f_gI g1 (i3 _ rfl) (f_F (fun e => absurd ((nI_eq (b := 12) (by omega) (by omega)).mp e) (by omega)) ?_))))))
      generalize hB : h3.2.1 = B at l0 l1 l3 l15 l17
      refine f_nc (fun h4 k1 k2 k3 => ?_)
      rw [hB] at k2 k3 ⊢
      have m4 : h4.2.1 = B + 1 := by rw [k1, hB]
      have m4s : h4.2.2 = h3.2.2 + 4 := by rw [k1]; rfl
      refine f_c (Q1 := fun _ h5 => h5.2 = h4.2 ∧ h5.1 B = some (.inr (4, [.int (nI a), .int (nI b), .int x3, .int (nI z)])) ∧ ∀ q, q ≠ B → h5.1 q = h4.1 q) ?_ (fun _ h5 w => ?_)
      · unfold F_X4_init
        refine f_pV k2 (by show 0 < 4; omega) (fun t1 r1 r2 r3 => f_pV r2 (by show 1 < 4; omega) (fun t2 s1 s2 s3 => f_pZ hx3 s2 (by show 2 < 4; omega) (fun t3 p1 p2 p3 => f_pV p2 (by show 3 < 4; omega) (fun t4 q1 q2 q3 => f_r ⟨?_, ?_, fun q hq => ?_⟩))))
        · rw [q1, p1, s1, r1]
        · rw [q2]; rfl
        · rw [q3 q hq, p3 q hq, s3 q hq, r3 q hq]
      · obtain ⟨w1, w2, w3⟩ := w
        have old5 : ∀ q, q < B → h5.1 q = h3.1 q := fun q hq => by rw [w3 q (by omega), k3 q hq]
        refine f_gR (by rw [old5 _ l0]; exact g0) rfl (f_gR (by rw [old5 _ l1]; exact g1) rfl (f_gR (by rw [old5 _ l0]; exact g0) rfl (f_gI (by rw [old5 _ l1]; exact g1) (i3 _ rfl) ?_)))
        refine f_sq w2 (by rw [old5 _ l3]; exact g3) rfl (by omega) (by omega) (fun t6 r1 r2 r3 => ?_)
        have old6 : ∀ q, q < B → q ≠ Gs (pk 3 0 0) → t6.1 q = h3.1 q := fun q hq hn => by rw [r3 q hn, old5 q hq]
        refine f_gR (by rw [old6 _ l0 n03]; exact g0) rfl (f_gR (by rw [old6 _ l15 n153]; exact g15) rfl (f_gR (by rw [old6 _ l0 n03]; exact g0) rfl (f_gI (by rw [old6 _ l1 n13]; exact g1) (i3 _ rfl) ?_)))
        have m6 : t6.2.1 = B + 1 := by rw [r1, w1, m4]
        have m6s : t6.2.2 = h3.2.2 + 4 := by rw [r1, w1, m4s]
        refine f_nc (fun t7 v1' v2' v3' => ?_)
        refine f_c (f_ci (h := t6) z1 z4 (lk := B) (by omega) (by rw [r3 _ (by omega)]; exact w2) (by rw [v1']; rfl) v2' v3') (fun _ t8 q => ?_)
        obtain ⟨⟨q1, q2⟩, q3⟩ := q
        rw [m6] at q2 q3 ⊢
        have s4 := ch_s4 (bd := x3) z1 z4
        have old8 : ∀ q, q < B → q ≠ Gs (pk 3 0 0) → t8.1 q = h3.1 q := fun q hq hn => by rw [q2 q (by omega), old6 q hq hn]
        refine f_sq q3.1 (by rw [old8 _ l17 n173]; exact g17) rfl (by omega) (by omega) (fun t9 f1 f2 f3 => ?_)
        have old9 : ∀ q, q < B → q ≠ Gs (pk 3 0 0) → q ≠ Gs (pk 17 0 0) → t9.1 q = h3.1 q := fun q hq hn hn2 => by rw [f3 q hn2, old8 q hq hn]
        refine f_gR (by rw [old9 _ l0 n03 n017]; exact g0) rfl (f_gI (by rw [old9 _ l1 n13 n117]; exact g1) (i3 _ rfl) ?_)
        rw [nI_1]
        refine f_pV (by rw [old9 _ l1 n13 n117]; exact g1) (by show 3 < 9; omega) (fun t10 j1 j2 j3 => ?_)
        have fin : t10.1 (Gs (pk 1 0 0)) = some (gC θ Gs U3 1 0 0 (upd (s.1 (pk 1 0 0)) 3 (nI (θ.2.1 + 1))) 0) := by rw [j2]; rfl
        refine f_gR (by rw [j3 _ n01, old9 _ l0 n03 n017]; exact g0) rfl (f_gI (x := nI (θ.2.1 + 1)) fin rfl (f_r ?_))
        rw [nI_pred]
        have hs3 : h3.2 = s.2.2 := H3.2.2
        have c1' : t10.2.1 = B + 7 := by rw [j1, f1, q1]; show t6.2.1 + 6 = _; rw [m6]
        have c2' : t10.2.2 = h3.2.2 + 4 + (14 + 10 * ch_s x3 z + z) := by rw [j1, f1, q1]; show t6.2.2 + _ = _; rw [m6s]
        have G := gI_chan (θ := θ) (θ' := thC θ) (sc := ch_s x3 z) (z := z) (g := lkF (nI a) (nI b) x3 (nI z)) rfl rfl rfl hm (by omega) H3 hB (h' := t10) (by rw [j3 _ (by omega), f3 _ (by omega), q2 _ (by omega), r3 _ (by omega)]; exact w2) (q3.cg (fun q h1 h2 => by rw [j3 q (by omega), f3 q (by omega)])) (by rw [j3 _ n13.symm, f3 _ n173.symm, q2 _ (by omega)]; exact r2) (by rw [j3 _ n117.symm]; exact f2) fin (fun q h1 h2 h3' h4 => by rw [j3 q h2, old9 q h1 h3' h4]) c1'
        rw [ht.2.1] at G
        have P := r_chn (sc := ch_s x3 z) (c := t10.2) (cc := c) J ha hbb hab hf z1 z4 hl hx3 s4 ca cb' (by rw [c1', ← hs3, hB]; exact Nat.le_refl _) (by rw [c2', ← hs3]; omega)
        obtain ⟨r, s6, a1, rfl, a2⟩ := P
        obtain ⟨h11, U11, b11, H11, -⟩ := q_X11_channel (thC θ) (cG B π.2.1 Gs) (cG B π.2.1 U3) (nI a) (nI b) x3 (nI z) ⟨⟨rfl, rfl⟩, by show θ.1 ≤ 6 ∧ θ.2.1 + 1 ≤ 12; omega⟩ t10 _ G _ _ a1
        obtain ⟨π', sl', acts', T', n', W', J', hT2⟩ := a2
        have o0 : cG B π.2.1 Gs (pk 0 0 0) = Gs (pk 0 0 0) := cG_o (fun q => absurd q.2.2 (show ¬ ((0 : Nat) = 4 ∨ (26 ≤ 0 ∧ 0 ≤ 31)) by decide))
        have o41 : cG B π.2.1 Gs (pk 41 0 0) = Gs (pk 41 0 0) := cG_o (fun q => absurd q.2.2 (show ¬ ((41 : Nat) = 4 ∨ (26 ≤ 41 ∧ 41 ≤ 31)) by decide))
        rw [o41] at b11
        refine ⟨h11, ?_, thC θ, cG B π.2.1 Gs, U11, s6, π', sl', acts', T', n', W', H11, o0, o41, J', hT2, h6.1, by show θ.2.1 + 1 ≤ 12; omega⟩
        rw [ht.2.1]
        exact b11
    obtain ⟨r, h1, k1, h2, k2, k3⟩ := run
    exact ⟨r, h1, h2, k1, k2, k3⟩
  · have no := ch_no J x1 x2 x3 x4 ok
    exact st_pp H rfl rfl h6 (q_chR θ Gs U x1 x2 x3 x4 ⟨⟨rfl, rfl⟩, h6⟩) (fun U' => q_X11_channel θ Gs U' x1 x2 x3 x4 ⟨⟨rfl, rfl⟩, h6⟩) (pp_no J hT' (-1) no.1 no.2)
end FE
