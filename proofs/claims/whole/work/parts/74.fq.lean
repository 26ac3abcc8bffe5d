/-! PURGE AND UNDISTURBED: from the function heap to the store -/
theorem q_pg45 (θ : gT) (Gs U : gK → Nat) (x1 : Int32) (hvx0 : gV θ 0 0 0) (hm1 : θ.2.2.1 = true) : gSim false θ Gs U (F_X10_purge_45 (Gs (pk 0 0 0)) x1) (G_pg θ x1) := by
  unfold F_X10_purge_45 G_pg
  refine gq_O (b := some (Gs (pk 35 1 0))) (k := 0) (w := 0) (i := 0) hvx0 rfl (fun _ _ => ⟨_, rfl, by simp [hm1]⟩) ?_
  refine gq_R (k := 0) (w := 0) (i := 0) hvx0 rfl (fun _ _ => ⟨_, rfl, rfl⟩) ?_
  refine gq_cal (q_X8_choose θ Gs U 1 x1 (gv_p1 hvx0 hm1) (gv_k0 32 rfl hvx0)) (fun _ U1 => ?_)
  refine gq_O (b := some (Gs (pk 35 1 0))) (k := 0) (w := 0) (i := 0) hvx0 rfl (fun _ _ => ⟨_, rfl, by simp [hm1]⟩) ?_
  refine gq_R (k := 0) (w := 0) (i := 0) hvx0 rfl (fun _ _ => ⟨_, rfl, rfl⟩) ?_
  refine gq_R (k := 0) (w := 0) (i := 0) hvx0 rfl (fun _ _ => ⟨_, rfl, rfl⟩) ?_
  refine gq_R (k := 15) (w := 0) (i := 0) (gv_m0 hvx0) rfl (fun _ _ => ⟨_, rfl, rfl⟩) ?_
  refine gq_I (k := 18) (w := 0) (i := 0) (gv_m0 hvx0) rfl (fun _ _ => ⟨_, rfl, rfl⟩) (fun v9 => ?_)
  refine gq_cal (q_X8_redo θ Gs U1 1 v9 (gv_p1 hvx0 hm1) (gv_k0 32 rfl hvx0)) (fun _ U2 => ?_)
  refine gq_O (b := some (Gs (pk 35 1 0))) (k := 0) (w := 0) (i := 0) hvx0 rfl (fun _ _ => ⟨_, rfl, by simp [hm1]⟩) ?_
  refine gq_I (k := 35) (w := 1) (i := 0) (gv_p1 hvx0 hm1) rfl (fun _ _ => ⟨_, rfl, rfl⟩) (fun v14 => ?_)
  exact gq_ret
theorem q_us45 (θ : gT) (Gs U : gK → Nat) (x1 : Int32) (hvx0 : gV θ 0 0 0) (hm1 : θ.2.2.2 = true) : gSim false θ Gs U (F_X10_undisturbed_45 (Gs (pk 0 0 0)) x1) (G_us θ x1) := by
  unfold F_X10_undisturbed_45 G_us
  refine gq_O (b := some (Gs (pk 35 2 0))) (k := 0) (w := 0) (i := 0) hvx0 rfl (fun _ _ => ⟨_, rfl, by simp [hm1]⟩) ?_
  refine gq_R (k := 0) (w := 0) (i := 0) hvx0 rfl (fun _ _ => ⟨_, rfl, rfl⟩) ?_
  refine gq_cal (q_X8_choose θ Gs U 2 x1 (gv_p2 hvx0 hm1) (gv_k0 32 rfl hvx0)) (fun _ U1 => ?_)
  refine gq_O (b := some (Gs (pk 35 2 0))) (k := 0) (w := 0) (i := 0) hvx0 rfl (fun _ _ => ⟨_, rfl, by simp [hm1]⟩) ?_
  refine gq_R (k := 0) (w := 0) (i := 0) hvx0 rfl (fun _ _ => ⟨_, rfl, rfl⟩) ?_
  refine gq_R (k := 0) (w := 0) (i := 0) hvx0 rfl (fun _ _ => ⟨_, rfl, rfl⟩) ?_
  refine gq_R (k := 15) (w := 0) (i := 0) (gv_m0 hvx0) rfl (fun _ _ => ⟨_, rfl, rfl⟩) ?_
  refine gq_I (k := 18) (w := 0) (i := 0) (gv_m0 hvx0) rfl (fun _ _ => ⟨_, rfl, rfl⟩) (fun v9 => ?_)
  refine gq_cal (q_X8_redo θ Gs U1 2 v9 (gv_p2 hvx0 hm1) (gv_k0 32 rfl hvx0)) (fun _ U2 => ?_)
  refine gq_R (k := 0) (w := 0) (i := 0) hvx0 rfl (fun _ _ => ⟨_, rfl, rfl⟩) ?_
  refine gq_O (b := some (Gs (pk 35 2 0))) (k := 0) (w := 0) (i := 0) hvx0 rfl (fun _ _ => ⟨_, rfl, by simp [hm1]⟩) ?_
  refine gq_R (k := 35) (w := 2) (i := 0) (gv_p2 hvx0 hm1) rfl (fun _ _ => ⟨_, rfl, rfl⟩) ?_
  refine gq_call (q_X5_looksSameTo θ Gs U2 0 x1 2 (gv_m0 hvx0) (gv_pm (gv_p2 hvx0 hm1))) (fun v16 => ?_)
  exact gq_if (fun _ => gq_ret) (fun _ => gq_ret)
theorem q_pgR (θ : gT) (Gs U : gK → Nat) (x1 : Int32) (hvx0 : gV θ 0 0 0) : gSim false θ Gs U (F_X10_purge (Gs (pk 0 0 0)) x1) (G_pgR θ x1) := by
  unfold F_X10_purge G_pgR
  refine gq_ck (k := 0) (w := 0) (i := 0) hvx0 rfl (fun _ _ => ⟨_, rfl⟩) ?_
  refine gq_R (k := 0) (w := 0) (i := 0) hvx0 rfl (fun _ _ => ⟨_, rfl, rfl⟩) ?_
  refine gq_I (k := 1) (w := 0) (i := 0) (gv_plan hvx0) rfl (fun _ _ => ⟨_, rfl, rfl⟩) (fun v1 => ?_)
  refine gq_if (fun _ => gq_ret) (fun _ => ?_)
  refine gq_R (k := 0) (w := 0) (i := 0) hvx0 rfl (fun _ _ => ⟨_, rfl, rfl⟩) ?_
  refine gq_call (q_X7_hasDomain θ Gs U x1 (gv_plan hvx0)) (fun v2 => ?_)
  refine gq_if (fun _ => gq_ret) (fun _ => ?_)
  cases hm1 : θ.2.2.1 with
  | false => exact gq_no
  | true =>
    refine gq_O (b := some (Gs (pk 35 1 0))) (k := 0) (w := 0) (i := 0) hvx0 rfl (fun _ _ => ⟨_, rfl, by simp [hm1]⟩) ?_
    exact q_pg45 θ Gs U x1 hvx0 hm1
theorem q_usR (θ : gT) (Gs U : gK → Nat) (x1 : Int32) (hvx0 : gV θ 0 0 0) : gSim false θ Gs U (F_X10_undisturbed (Gs (pk 0 0 0)) x1) (G_usR θ x1) := by
  unfold F_X10_undisturbed G_usR
  refine gq_ck (k := 0) (w := 0) (i := 0) hvx0 rfl (fun _ _ => ⟨_, rfl⟩) ?_
  refine gq_R (k := 0) (w := 0) (i := 0) hvx0 rfl (fun _ _ => ⟨_, rfl, rfl⟩) ?_
  refine gq_I (k := 1) (w := 0) (i := 0) (gv_plan hvx0) rfl (fun _ _ => ⟨_, rfl, rfl⟩) (fun v1 => ?_)
  refine gq_if (fun _ => gq_ret) (fun _ => ?_)
  refine gq_R (k := 0) (w := 0) (i := 0) hvx0 rfl (fun _ _ => ⟨_, rfl, rfl⟩) ?_
  refine gq_call (q_X7_hasDomain θ Gs U x1 (gv_plan hvx0)) (fun v2 => ?_)
  refine gq_if (fun _ => gq_ret) (fun _ => ?_)
  cases hm1 : θ.2.2.2 with
  | false => exact gq_no
  | true =>
    refine gq_O (b := some (Gs (pk 35 2 0))) (k := 0) (w := 0) (i := 0) hvx0 rfl (fun _ _ => ⟨_, rfl, by simp [hm1]⟩) ?_
    exact q_us45 θ Gs U x1 hvx0 hm1
def cb (θ : gT) : Nat := 1000 + 10 * θ.2.1 + (if θ.2.2.1 = true then 200 else 0) + (if θ.2.2.2 = true then 200 else 0)
def sb (θ : gT) : Nat := 100000 + 100 * θ.2.1 + (if θ.2.2.1 = true then 2000 else 0) + (if θ.2.2.2 = true then 2000 else 0)
def LJ (x1 x2 sz c : Nat) (h : mo_H) : Prop := ∃ θ Gs U s π sl acts T n W, gI θ Gs U h s ∧ Gs (pk 0 0 0) = x1 ∧ Gs (pk 41 0 0) = x2 ∧ JI θ π sl acts T n W (4 * (sz + cb θ)) (sb θ) s ∧ T ≤ c ∧ θ.1 ≤ 6 ∧ θ.2.1 ≤ 12
/-- both sides answer alike -/
def ST (f1 f2 : mo_M Int32) (x1 x2 sz c : Nat) (h : mo_H) : Prop := ∃ r h1 h2, f1.1 h = some (r, h1) ∧ f2.1 h1 = some (r, h2) ∧ LJ x1 x2 sz c h2
section SQ
variable {θ : gT} {Gs U : gK → Nat} {h : mo_H} {s : gS} {x1 x2 sz c : Nat}
theorem st_pp {fx1 fx2 : Bool} {f1 f2 : mo_M Int32} {g1 g2 : gM Int32} (H : gI θ Gs U h s) (e1 : Gs (pk 0 0 0) = x1) (e2 : Gs (pk 41 0 0) = x2) (h6 : θ.1 ≤ 6 ∧ θ.2.1 ≤ 12) (q1 : gSim fx1 θ Gs U f1 g1) (q2 : ∀ U', gSim fx2 θ Gs U' f2 g2) (P : PP θ g1 g2 c (4 * (sz + cb θ)) (sb θ) s) : ST f1 f2 x1 x2 sz c h := by
  obtain ⟨r1, s1, a1, r2, s2, a2, rfl, π, sl, acts, T, n, W, J, hT⟩ := P
  obtain ⟨h1, U1, b1, H1, -⟩ := q1 h s H _ _ a1
  obtain ⟨h2, U2, b2, H2, -⟩ := q2 U1 h1 s1 H1 _ _ a2
  exact ⟨r2, h1, h2, b1, b2, θ, Gs, U2, s2, π, sl, acts, T, n, W, H2, e1, e2, J, hT, h6⟩
end SQ
