set_option maxHeartbeats 4000000 in
set_option maxRecDepth 100000 in
theorem q_X10_told (θ : gT) (Gs U : gK → Nat) (x1 : Int32) (hvx0 : gV θ 0 0 0) : gSim true θ Gs U (F_X10_told (Gs (pk 0 0 0)) x1) (G_X10_told θ x1) := by
  unfold F_X10_told G_X10_told
  refine gq_ck (k := 0) (w := 0) (i := 0) hvx0 rfl (fun _ _ => ⟨_, rfl⟩) ?_
  refine gq_R (k := 0) (w := 0) (i := 0) hvx0 rfl (fun _ _ => ⟨_, rfl, rfl⟩) ?_
  refine gq_R (k := 15) (w := 0) (i := 0) (gv_m0 hvx0) rfl (fun _ _ => ⟨_, rfl, rfl⟩) ?_
  refine gq_if (fun _ => ?_) (fun _ => ?_)
  · refine gq_I (k := 18) (w := 0) (i := 0) (gv_m0 hvx0) rfl (fun _ _ => ⟨_, rfl, rfl⟩) (fun v1 => ?_)
    exact gq_ret
  refine gq_if (fun _ => ?_) (fun _ => ?_)
  · refine gq_R (k := 0) (w := 0) (i := 0) hvx0 rfl (fun _ _ => ⟨_, rfl, rfl⟩) ?_
    refine gq_call (q_X0_count θ Gs U  (gv_k0 32 rfl hvx0)) (fun v2 => ?_)
    exact gq_ret
  refine gq_if (fun _ => ?_) (fun _ => ?_)
  · refine gq_R (k := 0) (w := 0) (i := 0) hvx0 rfl (fun _ _ => ⟨_, rfl, rfl⟩) ?_
    refine gq_I (k := 1) (w := 0) (i := 0) (gv_plan hvx0) rfl (fun _ _ => ⟨_, rfl, rfl⟩) (fun v3 => ?_)
    refine gq_if (fun _ => ?_) (fun _ => ?_)
    · exact gq_ret
    · refine gq_call (q_X2_slotDomain θ Gs U 0 (gv_m0 hvx0)) (fun v4 => ?_)
      exact gq_ret
  refine gq_if (fun _ => ?_) (fun _ => ?_)
  · refine gq_I (k := 18) (w := 0) (i := 0) (gv_m0 hvx0) rfl (fun _ _ => ⟨_, rfl, rfl⟩) (fun v5 => ?_)
    exact gq_ret
  refine gq_if (fun _ => ?_) (fun _ => ?_)
  · refine gq_I (k := 18) (w := 0) (i := 0) (gv_m0 hvx0) rfl (fun _ _ => ⟨_, rfl, rfl⟩) (fun v6 => ?_)
    exact gq_ret
  refine gq_if (fun _ => ?_) (fun _ => ?_)
  · refine gq_I (k := 18) (w := 0) (i := 0) (gv_m0 hvx0) rfl (fun _ _ => ⟨_, rfl, rfl⟩) (fun v7 => ?_)
    exact gq_ret
  refine gq_if (fun _ => ?_) (fun _ => ?_)
  · refine gq_I (k := 18) (w := 0) (i := 0) (gv_m0 hvx0) rfl (fun _ _ => ⟨_, rfl, rfl⟩) (fun v8 => ?_)
    exact gq_ret
  refine gq_if (fun _ => ?_) (fun _ => ?_)
  · refine gq_R (k := 0) (w := 0) (i := 0) hvx0 rfl (fun _ _ => ⟨_, rfl, rfl⟩) ?_
    refine gq_I (k := 1) (w := 0) (i := 0) (gv_plan hvx0) rfl (fun _ _ => ⟨_, rfl, rfl⟩) (fun v9 => ?_)
    exact gq_ret
  refine gq_if (fun _ => ?_) (fun _ => ?_)
  · refine gq_R (k := 0) (w := 0) (i := 0) hvx0 rfl (fun _ _ => ⟨_, rfl, rfl⟩) ?_
    refine gq_I (k := 1) (w := 0) (i := 0) (gv_plan hvx0) rfl (fun _ _ => ⟨_, rfl, rfl⟩) (fun v10 => ?_)
    exact gq_ret
  refine gq_if (fun _ => ?_) (fun _ => ?_)
  · refine gq_R (k := 0) (w := 0) (i := 0) hvx0 rfl (fun _ _ => ⟨_, rfl, rfl⟩) ?_
    refine gq_I (k := 1) (w := 0) (i := 0) (gv_plan hvx0) rfl (fun _ _ => ⟨_, rfl, rfl⟩) (fun v11 => ?_)
    refine gq_if (fun _ => ?_) (fun _ => ?_)
    · exact gq_ret
    · exact gq_ret
  exact gq_ret
set_option maxHeartbeats 4000000 in
set_option maxRecDepth 100000 in
theorem q_X10_action (θ : gT) (Gs U : gK → Nat) (x1 : Int32) (x2 : Int32) (hvx0 : gV θ 0 0 0) : gSim true θ Gs U (F_X10_action (Gs (pk 0 0 0)) x1 x2) (G_X10_action θ x1 x2) := by
  unfold F_X10_action G_X10_action
  refine gq_ck (k := 0) (w := 0) (i := 0) hvx0 rfl (fun _ _ => ⟨_, rfl⟩) ?_
  refine gq_if (fun _ => ?_) (fun _ => ?_)
  · refine gq_R (k := 0) (w := 0) (i := 0) hvx0 rfl (fun _ _ => ⟨_, rfl, rfl⟩) ?_
    refine gq_R (k := 32) (w := 0) (i := 0) (gv_k0 32 rfl hvx0) rfl (fun _ _ => ⟨_, rfl, rfl⟩) ?_
    refine gq_call (q_X9_get θ Gs U 33 0 0 x1 (gv_ar (gv_k0 32 rfl hvx0) (by decide)) gr_33) (fun v1 => ?_)
    exact gq_ret
  refine gq_if (fun _ => ?_) (fun _ => ?_)
  · refine gq_R (k := 0) (w := 0) (i := 0) hvx0 rfl (fun _ _ => ⟨_, rfl, rfl⟩) ?_
    refine gq_R (k := 32) (w := 0) (i := 0) (gv_k0 32 rfl hvx0) rfl (fun _ _ => ⟨_, rfl, rfl⟩) ?_
    refine gq_call (q_X9_get θ Gs U 33 0 1 x1 (gv_ar (gv_k0 32 rfl hvx0) (by decide)) gr_33) (fun v2 => ?_)
    exact gq_ret
  refine gq_if (fun _ => ?_) (fun _ => ?_)
  · refine gq_R (k := 0) (w := 0) (i := 0) hvx0 rfl (fun _ _ => ⟨_, rfl, rfl⟩) ?_
    refine gq_R (k := 32) (w := 0) (i := 0) (gv_k0 32 rfl hvx0) rfl (fun _ _ => ⟨_, rfl, rfl⟩) ?_
    refine gq_call (q_X9_get θ Gs U 33 0 2 x1 (gv_ar (gv_k0 32 rfl hvx0) (by decide)) gr_33) (fun v3 => ?_)
    exact gq_ret
  refine gq_if (fun _ => ?_) (fun _ => ?_)
  · refine gq_R (k := 0) (w := 0) (i := 0) hvx0 rfl (fun _ _ => ⟨_, rfl, rfl⟩) ?_
    refine gq_R (k := 32) (w := 0) (i := 0) (gv_k0 32 rfl hvx0) rfl (fun _ _ => ⟨_, rfl, rfl⟩) ?_
    refine gq_call (q_X9_get θ Gs U 33 0 3 x1 (gv_ar (gv_k0 32 rfl hvx0) (by decide)) gr_33) (fun v4 => ?_)
    exact gq_ret
  exact gq_ret
set_option maxHeartbeats 4000000 in
set_option maxRecDepth 100000 in
theorem q_X10_kept (θ : gT) (Gs U : gK → Nat) (x1 : Int32) (hvx0 : gV θ 0 0 0) : gSim true θ Gs U (F_X10_kept (Gs (pk 0 0 0)) x1) (G_X10_kept θ x1) := by
  unfold F_X10_kept G_X10_kept
  refine gq_ck (k := 0) (w := 0) (i := 0) hvx0 rfl (fun _ _ => ⟨_, rfl⟩) ?_
  cases hm1 : θ.2.2.1 with
  | false =>
    refine gq_O (b := none) (k := 0) (w := 0) (i := 0) hvx0 rfl (fun _ _ => ⟨_, rfl, by simp [hm1]⟩) ?_
    exact gq_ret
  | true =>
    refine gq_O (b := some (Gs (pk 35 1 0))) (k := 0) (w := 0) (i := 0) hvx0 rfl (fun _ _ => ⟨_, rfl, by simp [hm1]⟩) ?_
    refine gq_if (fun _ => ?_) (fun _ => ?_)
    · exact gq_ret
    · refine gq_O (b := some (Gs (pk 35 1 0))) (k := 0) (w := 0) (i := 0) hvx0 rfl (fun _ _ => ⟨_, rfl, by simp [hm1]⟩) ?_
      refine gq_I (k := 35) (w := 1) (i := 0) (gv_p1 hvx0 hm1) rfl (fun _ _ => ⟨_, rfl, rfl⟩) (fun v1 => ?_)
      refine gq_if (fun _ => ?_) (fun _ => ?_)
      · refine gq_O (b := some (Gs (pk 35 1 0))) (k := 0) (w := 0) (i := 0) hvx0 rfl (fun _ _ => ⟨_, rfl, by simp [hm1]⟩) ?_
        refine gq_R (k := 35) (w := 1) (i := 0) (gv_p1 hvx0 hm1) rfl (fun _ _ => ⟨_, rfl, rfl⟩) ?_
        refine gq_la (k := 36) (w := 1) (i := 0) (gv_p1 hvx0 hm1) rfl (fun _ _ => rfl) (fun v2 => ?_)
        refine gq_if (fun _ => ?_) (fun _ => ?_)
        · exact gq_ret
        · exact gq_ret
      · exact gq_ret
set_option maxHeartbeats 4000000 in
set_option maxRecDepth 100000 in
theorem q_X10_purged (θ : gT) (Gs U : gK → Nat) (x1 : Int32) (x2 : Int32) (x3 : Int32) (hvx0 : gV θ 0 0 0) : gSim true θ Gs U (F_X10_purged (Gs (pk 0 0 0)) x1 x2 x3) (G_X10_purged θ x1 x2 x3) := by
  unfold F_X10_purged G_X10_purged
  refine gq_ck (k := 0) (w := 0) (i := 0) hvx0 rfl (fun _ _ => ⟨_, rfl⟩) ?_
  cases hm1 : θ.2.2.1 with
  | false =>
    refine gq_O (b := none) (k := 0) (w := 0) (i := 0) hvx0 rfl (fun _ _ => ⟨_, rfl, by simp [hm1]⟩) ?_
    exact gq_ret
  | true =>
    refine gq_O (b := some (Gs (pk 35 1 0))) (k := 0) (w := 0) (i := 0) hvx0 rfl (fun _ _ => ⟨_, rfl, by simp [hm1]⟩) ?_
    refine gq_R (k := 0) (w := 0) (i := 0) hvx0 rfl (fun _ _ => ⟨_, rfl, rfl⟩) ?_
    refine gq_call (q_X7_hasDomain θ Gs U x1 (gv_plan hvx0)) (fun v1 => ?_)
    refine gq_if (fun _ => ?_) (fun _ => ?_)
    · exact gq_ret
    · refine gq_O (b := some (Gs (pk 35 1 0))) (k := 0) (w := 0) (i := 0) hvx0 rfl (fun _ _ => ⟨_, rfl, by simp [hm1]⟩) ?_
      refine gq_R (k := 35) (w := 1) (i := 0) (gv_p1 hvx0 hm1) rfl (fun _ _ => ⟨_, rfl, rfl⟩) ?_
      refine gq_R (k := 15) (w := 1) (i := 0) (gv_pm (gv_p1 hvx0 hm1)) rfl (fun _ _ => ⟨_, rfl, rfl⟩) ?_
      refine gq_lq (k := 16) (w := 1) (i := 0) (gv_pm (gv_p1 hvx0 hm1)) rfl (fun _ _ => rfl) (Nat.le_refl _) (fun j hj => if_pos hj) (fun j2 hj2 => ?_)
      refine gq_if (fun _ => ?_) (fun _ => ?_)
      · refine gq_call (q_X3_registerOrZero θ Gs U 1 j2 x3 (gv_dom (gv_pm (gv_p1 hvx0 hm1)) hj2)) (fun v3 => ?_)
        exact gq_ret
      refine gq_if (fun _ => ?_) (fun _ => ?_)
      · refine gq_call (q_X3_cellOrZero θ Gs U 1 j2 x3 (gv_dom (gv_pm (gv_p1 hvx0 hm1)) hj2)) (fun v4 => ?_)
        exact gq_ret
      refine gq_if (fun _ => ?_) (fun _ => ?_)
      · refine gq_R (k := 19) (w := 1) (i := j2) (gv_dom (gv_pm (gv_p1 hvx0 hm1)) hj2) rfl (fun _ _ => ⟨_, rfl, rfl⟩) ?_
        refine gq_call (q_X9_get θ Gs U 24 1 j2 x3 (gv_dom (gv_pm (gv_p1 hvx0 hm1)) hj2) gr_24) (fun v5 => ?_)
        exact gq_ret
      refine gq_if (fun _ => ?_) (fun _ => ?_)
      · refine gq_I (k := 19) (w := 1) (i := j2) (gv_dom (gv_pm (gv_p1 hvx0 hm1)) hj2) rfl (fun _ _ => ⟨_, rfl, rfl⟩) (fun v6 => ?_)
        exact gq_ret
      refine gq_if (fun _ => ?_) (fun _ => ?_)
      · refine gq_I (k := 19) (w := 1) (i := j2) (gv_dom (gv_pm (gv_p1 hvx0 hm1)) hj2) rfl (fun _ _ => ⟨_, rfl, rfl⟩) (fun v7 => ?_)
        exact gq_ret
      refine gq_if (fun _ => ?_) (fun _ => ?_)
      · refine gq_R (k := 19) (w := 1) (i := j2) (gv_dom (gv_pm (gv_p1 hvx0 hm1)) hj2) rfl (fun _ _ => ⟨_, rfl, rfl⟩) ?_
        refine gq_I (k := 24) (w := 1) (i := j2) (gv_dom (gv_pm (gv_p1 hvx0 hm1)) hj2) (gA_row gr_24) (fun _ _ => ⟨_, gC_row gr_24, rfl⟩) (fun v8 => ?_)
        exact gq_ret
      refine gq_if (fun _ => ?_) (fun _ => ?_)
      · refine gq_I (k := 19) (w := 1) (i := j2) (gv_dom (gv_pm (gv_p1 hvx0 hm1)) hj2) rfl (fun _ _ => ⟨_, rfl, rfl⟩) (fun v9 => ?_)
        exact gq_ret
      refine gq_if (fun _ => ?_) (fun _ => ?_)
      · refine gq_I (k := 19) (w := 1) (i := j2) (gv_dom (gv_pm (gv_p1 hvx0 hm1)) hj2) rfl (fun _ _ => ⟨_, rfl, rfl⟩) (fun v10 => ?_)
        exact gq_ret
      exact gq_ret
set_option maxHeartbeats 4000000 in
set_option maxRecDepth 100000 in
theorem q_X11_isDomain (θ : gT) (Gs U : gK → Nat) (x1 : Int32) (hvx0 : gV θ 41 0 0) : gSim true θ Gs U (F_X11_isDomain (Gs (pk 41 0 0)) x1) (G_X11_isDomain θ x1) := by
  unfold F_X11_isDomain G_X11_isDomain
  refine gq_ck (k := 41) (w := 0) (i := 0) hvx0 rfl (fun _ _ => ⟨_, rfl⟩) ?_
  refine gq_if (fun _ => ?_) (fun _ => ?_)
  · exact gq_rz
  · refine gq_I (k := 41) (w := 0) (i := 0) hvx0 rfl (fun _ _ => ⟨_, rfl, rfl⟩) (fun v1 => ?_)
    refine gq_if (fun _ => ?_) (fun _ => ?_)
    · exact gq_rz
    · exact gq_rz
set_option maxHeartbeats 4000000 in
set_option maxRecDepth 100000 in
theorem q_X11_flowsTo_19 (θ : gT) (Gs U : gK → Nat)      : gSim true θ Gs U (F_X11_flowsTo_19) (G_X11_flowsTo_19 θ) := by
  unfold F_X11_flowsTo_19 G_X11_flowsTo_19
  exact gq_rz
set_option maxHeartbeats 4000000 in
set_option maxRecDepth 100000 in
theorem q_X11_flowsTo (θ : gT) (Gs U : gK → Nat) (x1 : Int32) (x2 : Int32) (hvx0 : gV θ 41 0 0) : gSim true θ Gs U (F_X11_flowsTo (Gs (pk 41 0 0)) x1 x2) (G_X11_flowsTo θ x1 x2) := by
  unfold F_X11_flowsTo G_X11_flowsTo
  refine gq_ck (k := 41) (w := 0) (i := 0) hvx0 rfl (fun _ _ => ⟨_, rfl⟩) ?_
  refine gq_if (fun _ => ?_) (fun _ => ?_)
  · exact q_X11_flowsTo_19 θ Gs U
  · refine gq_R (k := 41) (w := 0) (i := 0) hvx0 rfl (fun _ _ => ⟨_, rfl, rfl⟩) ?_
    refine gq_la (k := 43) (w := 0) (i := 0) (gv_k0 43 rfl hvx0) rfl (fun _ _ => rfl) (fun v1 => ?_)
    refine gq_if (fun _ => ?_) (fun _ => ?_)
    · exact gq_rz
    · exact q_X11_flowsTo_19 θ Gs U
set_option maxHeartbeats 4000000 in
set_option maxRecDepth 100000 in
theorem q_X11_reigns_30 (θ : gT) (Gs U : gK → Nat) (f4 : Nat → Int32 → Int32 → Int32 → mo_M Int32) (k4 : Int32 → Int32 → Int32 → gM Int32) (hk4 : ∀  (x1 : Int32) (x2 : Int32) (x3 : Int32) (hvx0 : gV θ 41 0 0), gSim true θ Gs U (f4 (Gs (pk 41 0 0)) x1 x2 x3) (k4 x1 x2 x3)) (x1 : Int32) (x3 : Int32) (s0 : Int32) (hvx0 : gV θ 41 0 0) : gSim true θ Gs U (F_X11_reigns_30 f4 (Gs (pk 41 0 0)) x1 x3 s0) (G_X11_reigns_30 θ k4 x1 x3 s0) := by
  unfold F_X11_reigns_30 G_X11_reigns_30
  exact hk4  x1 s0 (x3 + (1 : Int32)) hvx0
set_option maxHeartbeats 4000000 in
set_option maxRecDepth 100000 in
theorem q_X11_reigns_29 (θ : gT) (Gs U : gK → Nat) (f4 : Nat → Int32 → Int32 → Int32 → mo_M Int32) (k4 : Int32 → Int32 → Int32 → gM Int32) (hk4 : ∀  (x1 : Int32) (x2 : Int32) (x3 : Int32) (hvx0 : gV θ 41 0 0), gSim true θ Gs U (f4 (Gs (pk 41 0 0)) x1 x2 x3) (k4 x1 x2 x3)) (x1 : Int32) (x3 : Int32) (hvx0 : gV θ 41 0 0) : gSim true θ Gs U (F_X11_reigns_29 f4 (Gs (pk 41 0 0)) x1 x3) (G_X11_reigns_29 θ k4 x1 x3) := by
  unfold F_X11_reigns_29 G_X11_reigns_29
  exact q_X11_reigns_30 θ Gs U f4 k4 hk4 x1 x3 (0 : Int32) hvx0
set_option maxHeartbeats 4000000 in
set_option maxRecDepth 100000 in
theorem q_X11_reigns_4 (θ : gT) (Gs U : gK → Nat)    : ∀ (fu : Nat) (x1 : Int32) (x2 : Int32) (x3 : Int32) (hvx0 : gV θ 41 0 0), gSim true θ Gs U (F_X11_reigns_4 fu (Gs (pk 41 0 0)) x1 x2 x3) (G_X11_reigns_4 θ fu x1 x2 x3) := by
  intro fu
  induction fu with
  | zero =>
    intro x1 x2 x3 hvx0
    unfold G_X11_reigns_4
    exact gq_no
  | succ fu ih =>
    intro x1 x2 x3 hvx0
    unfold F_X11_reigns_4 G_X11_reigns_4
    refine gq_I (k := 41) (w := 0) (i := 0) hvx0 rfl (fun _ _ => ⟨_, rfl, rfl⟩) (fun v1 => ?_)
    refine gq_if (fun _ => ?_) (fun _ => ?_)
    · exact gq_rz
    · refine gq_if (fun _ => ?_) (fun _ => ?_)
      · exact q_X11_reigns_29 θ Gs U (F_X11_reigns_4  fu) (G_X11_reigns_4 θ  fu) ih x1 x3 hvx0
      · refine gq_call (q_X11_flowsTo θ Gs U x1 x3 hvx0) (fun v2 => ?_)
        refine gq_if (fun _ => ?_) (fun _ => ?_)
        · exact q_X11_reigns_29 θ Gs U (F_X11_reigns_4  fu) (G_X11_reigns_4 θ  fu) ih x1 x3 hvx0
        · exact q_X11_reigns_30 θ Gs U (F_X11_reigns_4  fu) (G_X11_reigns_4 θ  fu) ih x1 x3 (1 : Int32) hvx0
set_option maxHeartbeats 4000000 in
set_option maxRecDepth 100000 in
theorem q_X11_reigns (θ : gT) (Gs U : gK → Nat) (x1 : Int32) (hvx0 : gV θ 41 0 0) : gSim true θ Gs U (F_X11_reigns (Gs (pk 41 0 0)) x1) (G_X11_reigns θ x1) := by
  unfold F_X11_reigns G_X11_reigns
  refine gq_ck (k := 41) (w := 0) (i := 0) hvx0 rfl (fun _ _ => ⟨_, rfl⟩) ?_
  exact q_X11_reigns_4 θ Gs U mo_fu x1 (1 : Int32) (0 : Int32) hvx0
set_option maxHeartbeats 4000000 in
set_option maxRecDepth 100000 in
theorem q_X11_flow_70 (θ : gT) (Gs U : gK → Nat) (f33 : Nat → Int32 → Int32 → Int32 → Int32 → mo_M Int32) (k33 : Int32 → Int32 → Int32 → Int32 → gM Int32) (hk33 : ∀  (x1 : Int32) (x2 : Int32) (x3 : Int32) (x4 : Int32) (hvx0 : gV θ 41 0 0), gSim true θ Gs U (f33 (Gs (pk 41 0 0)) x1 x2 x3 x4) (k33 x1 x2 x3 x4)) (x1 : Int32) (x2 : Int32) (x3 : Int32) (x4 : Int32) (hvx0 : gV θ 41 0 0) : gSim true θ Gs U (F_X11_flow_70 f33 (Gs (pk 41 0 0)) x1 x2 x3 x4) (G_X11_flow_70 θ k33 x1 x2 x3 x4) := by
  unfold F_X11_flow_70 G_X11_flow_70
  exact hk33  x1 x2 x3 (x4 + (1 : Int32)) hvx0
set_option maxHeartbeats 4000000 in
set_option maxRecDepth 100000 in
theorem q_X11_flow_76 (θ : gT) (Gs U : gK → Nat)    (x1 : Int32) (x2 : Int32) (x3 : Int32) (hvx0 : gV θ 41 0 0) : gSim true θ Gs U (F_X11_flow_76 (Gs (pk 41 0 0)) x1 x2 x3) (G_X11_flow_76 θ x1 x2 x3) := by
  unfold F_X11_flow_76 G_X11_flow_76
  refine gq_R (k := 41) (w := 0) (i := 0) hvx0 rfl (fun _ _ => ⟨_, rfl, rfl⟩) ?_
  refine gq_sz (k := 43) (w := 0) (i := 0) (gv_k0 43 rfl hvx0) rfl (fun _ _ => rfl) ?_
  exact gq_rz
set_option maxHeartbeats 4000000 in
set_option maxRecDepth 100000 in
theorem q_X11_flow_33 (θ : gT) (Gs U : gK → Nat)    : ∀ (fu : Nat) (x1 : Int32) (x2 : Int32) (x3 : Int32) (x4 : Int32) (hvx0 : gV θ 41 0 0), gSim true θ Gs U (F_X11_flow_33 fu (Gs (pk 41 0 0)) x1 x2 x3 x4) (G_X11_flow_33 θ fu x1 x2 x3 x4) := by
  intro fu
  induction fu with
  | zero =>
    intro x1 x2 x3 x4 hvx0
    unfold G_X11_flow_33
    exact gq_no
  | succ fu ih =>
    intro x1 x2 x3 x4 hvx0
    unfold F_X11_flow_33 G_X11_flow_33
    refine gq_I (k := 41) (w := 0) (i := 0) hvx0 rfl (fun _ _ => ⟨_, rfl, rfl⟩) (fun v1 => ?_)
    refine gq_if (fun _ => ?_) (fun _ => ?_)
    · exact q_X11_flow_76 θ Gs U x1 x2 x3 hvx0
    · refine gq_if (fun _ => ?_) (fun _ => ?_)
      · refine gq_R (k := 41) (w := 0) (i := 0) hvx0 rfl (fun _ _ => ⟨_, rfl, rfl⟩) ?_
        refine gq_la (k := 45) (w := 0) (i := 0) (gv_k0 45 rfl hvx0) rfl (fun _ _ => rfl) (fun v2 => ?_)
        refine gq_if (fun _ => ?_) (fun _ => ?_)
        · refine gq_R (k := 41) (w := 0) (i := 0) hvx0 rfl (fun _ _ => ⟨_, rfl, rfl⟩) ?_
          refine gq_la (k := 46) (w := 0) (i := 0) (gv_k0 46 rfl hvx0) rfl (fun _ _ => rfl) (fun v3 => ?_)
          refine gq_if (fun _ => ?_) (fun _ => ?_)
          · exact gq_rz
          · exact q_X11_flow_70 θ Gs U (F_X11_flow_33  fu) (G_X11_flow_33 θ  fu) ih x1 x2 x3 x4 hvx0
        · exact q_X11_flow_70 θ Gs U (F_X11_flow_33  fu) (G_X11_flow_33 θ  fu) ih x1 x2 x3 x4 hvx0
      · exact q_X11_flow_70 θ Gs U (F_X11_flow_33  fu) (G_X11_flow_33 θ  fu) ih x1 x2 x3 x4 hvx0
set_option maxHeartbeats 4000000 in
set_option maxRecDepth 100000 in
theorem q_X11_flow (θ : gT) (Gs U : gK → Nat) (x1 : Int32) (x2 : Int32) (x3 : Int32) (hvx0 : gV θ 41 0 0) : gSim true θ Gs U (F_X11_flow (Gs (pk 41 0 0)) x1 x2 x3) (G_X11_flow θ x1 x2 x3) := by
  unfold F_X11_flow G_X11_flow
  refine gq_ck (k := 41) (w := 0) (i := 0) hvx0 rfl (fun _ _ => ⟨_, rfl⟩) ?_
  refine gq_call (q_X11_isDomain θ Gs U x1 hvx0) (fun v1 => ?_)
  refine gq_if (fun _ => ?_) (fun _ => ?_)
  · exact gq_rz
  · refine gq_call (q_X11_isDomain θ Gs U x2 hvx0) (fun v2 => ?_)
    refine gq_if (fun _ => ?_) (fun _ => ?_)
    · exact gq_rz
    · refine gq_if (fun _ => ?_) (fun _ => ?_)
      · exact gq_rz
      · refine gq_I (k := 41) (w := 0) (i := 0) hvx0 rfl (fun _ _ => ⟨_, rfl, rfl⟩) (fun v3 => ?_)
        refine gq_if (fun _ => ?_) (fun _ => ?_)
        · exact q_X11_flow_33 θ Gs U mo_fu x1 x2 x3 (0 : Int32) hvx0
        · exact gq_rz
set_option maxHeartbeats 4000000 in
set_option maxRecDepth 100000 in
theorem q_X11_channel (θ : gT) (Gs U : gK → Nat) (x1 : Int32) (x2 : Int32) (x3 : Int32) (x4 : Int32) (hvx0 : gV θ 41 0 0) : gSim true θ Gs U (F_X11_channel (Gs (pk 41 0 0)) x1 x2 x3 x4) (G_X11_channel θ x1 x2 x3 x4) := by
  unfold F_X11_channel G_X11_channel
  refine gq_ck (k := 41) (w := 0) (i := 0) hvx0 rfl (fun _ _ => ⟨_, rfl⟩) ?_
  refine gq_call (q_X11_isDomain θ Gs U x1 hvx0) (fun v1 => ?_)
  refine gq_if (fun _ => ?_) (fun _ => ?_)
  · exact gq_ret
  · refine gq_call (q_X11_isDomain θ Gs U x2 hvx0) (fun v2 => ?_)
    refine gq_if (fun _ => ?_) (fun _ => ?_)
    · exact gq_ret
    · refine gq_if (fun _ => ?_) (fun _ => ?_)
      · exact gq_ret
      · refine gq_R (k := 41) (w := 0) (i := 0) hvx0 rfl (fun _ _ => ⟨_, rfl, rfl⟩) ?_
        refine gq_la (k := 43) (w := 0) (i := 0) (gv_k0 43 rfl hvx0) rfl (fun _ _ => rfl) (fun v3 => ?_)
        refine gq_if (fun _ => ?_) (fun _ => ?_)
        · exact gq_ret
        · refine gq_if (fun _ => ?_) (fun _ => ?_)
          · exact gq_ret
          · refine gq_if (fun _ => ?_) (fun _ => ?_)
            · exact gq_ret
            · refine gq_I (k := 41) (w := 0) (i := 0) hvx0 rfl (fun _ _ => ⟨_, rfl, rfl⟩) (fun v4 => ?_)
              refine gq_if (fun _ => ?_) (fun _ => ?_)
              · exact gq_ret
              · refine gq_I (k := 41) (w := 0) (i := 0) hvx0 rfl (fun _ _ => ⟨_, rfl, rfl⟩) (fun v5 => ?_)
                refine gq_if (fun _ => ?_) (fun _ => ?_)
                · refine gq_R (k := 41) (w := 0) (i := 0) hvx0 rfl (fun _ _ => ⟨_, rfl, rfl⟩) ?_
                  refine gq_I (k := 41) (w := 0) (i := 0) hvx0 rfl (fun _ _ => ⟨_, rfl, rfl⟩) (fun v6 => ?_)
                  refine gq_sa (k := 45) (w := 0) (i := 0) (gv_k0 45 rfl hvx0) rfl (fun _ _ => rfl) ?_
                  refine gq_R (k := 41) (w := 0) (i := 0) hvx0 rfl (fun _ _ => ⟨_, rfl, rfl⟩) ?_
                  refine gq_I (k := 41) (w := 0) (i := 0) hvx0 rfl (fun _ _ => ⟨_, rfl, rfl⟩) (fun v7 => ?_)
                  refine gq_sa (k := 46) (w := 0) (i := 0) (gv_k0 46 rfl hvx0) rfl (fun _ _ => rfl) ?_
                  refine gq_R (k := 41) (w := 0) (i := 0) hvx0 rfl (fun _ _ => ⟨_, rfl, rfl⟩) ?_
                  refine gq_I (k := 41) (w := 0) (i := 0) hvx0 rfl (fun _ _ => ⟨_, rfl, rfl⟩) (fun v8 => ?_)
                  refine gq_sz (k := 47) (w := 0) (i := 0) (gv_k0 47 rfl hvx0) rfl (fun _ _ => rfl) ?_
                  refine gq_R (k := 41) (w := 0) (i := 0) hvx0 rfl (fun _ _ => ⟨_, rfl, rfl⟩) ?_
                  refine gq_I (k := 41) (w := 0) (i := 0) hvx0 rfl (fun _ _ => ⟨_, rfl, rfl⟩) (fun v9 => ?_)
                  refine gq_sa (k := 48) (w := 0) (i := 0) (gv_k0 48 rfl hvx0) rfl (fun _ _ => rfl) ?_
                  refine gq_I (k := 41) (w := 0) (i := 0) hvx0 rfl (fun _ _ => ⟨_, rfl, rfl⟩) (fun v10 => ?_)
                  refine gq_p (k := 41) (w := 0) (i := 0) hvx0 rfl (fun _ _ => ⟨_, rfl, by simp, rfl⟩) ?_
                  refine gq_I (k := 41) (w := 0) (i := 0) hvx0 rfl (fun _ _ => ⟨_, rfl, rfl⟩) (fun v11 => ?_)
                  exact gq_ret
                · exact gq_ret
set_option maxHeartbeats 4000000 in
set_option maxRecDepth 100000 in
theorem q_X11_code (θ : gT) (Gs U : gK → Nat) (x1 : Int32) (x2 : Int32) (hvx0 : gV θ 41 0 0) : gSim true θ Gs U (F_X11_code (Gs (pk 41 0 0)) x1 x2) (G_X11_code θ x1 x2) := by
  unfold F_X11_code G_X11_code
  refine gq_ck (k := 41) (w := 0) (i := 0) hvx0 rfl (fun _ _ => ⟨_, rfl⟩) ?_
  refine gq_call (q_X11_isDomain θ Gs U x1 hvx0) (fun v1 => ?_)
  refine gq_if (fun _ => ?_) (fun _ => ?_)
  · exact gq_ret
  · refine gq_R (k := 41) (w := 0) (i := 0) hvx0 rfl (fun _ _ => ⟨_, rfl, rfl⟩) ?_
    refine gq_la (k := 50) (w := 0) (i := 0) (gv_k0 50 rfl hvx0) rfl (fun _ _ => rfl) (fun v2 => ?_)
    refine gq_if (fun _ => ?_) (fun _ => ?_)
    · exact gq_ret
    · refine gq_I (k := 41) (w := 0) (i := 0) hvx0 rfl (fun _ _ => ⟨_, rfl, rfl⟩) (fun v3 => ?_)
      refine gq_if (fun _ => ?_) (fun _ => ?_)
      · refine gq_R (k := 41) (w := 0) (i := 0) hvx0 rfl (fun _ _ => ⟨_, rfl, rfl⟩) ?_
        refine gq_R (k := 41) (w := 0) (i := 0) hvx0 rfl (fun _ _ => ⟨_, rfl, rfl⟩) ?_
        refine gq_la (k := 50) (w := 0) (i := 0) (gv_k0 50 rfl hvx0) rfl (fun _ _ => rfl) (fun v4 => ?_)
        refine gq_sa (k := 49) (w := 0) (i := 0) (gv_k0 49 rfl hvx0) rfl (fun _ _ => rfl) ?_
        refine gq_R (k := 41) (w := 0) (i := 0) hvx0 rfl (fun _ _ => ⟨_, rfl, rfl⟩) ?_
        refine gq_la (k := 50) (w := 0) (i := 0) (gv_k0 50 rfl hvx0) rfl (fun _ _ => rfl) (fun v5 => ?_)
        refine gq_sa (k := 50) (w := 0) (i := 0) (gv_k0 50 rfl hvx0) rfl (fun _ _ => rfl) ?_
        refine gq_R (k := 41) (w := 0) (i := 0) hvx0 rfl (fun _ _ => ⟨_, rfl, rfl⟩) ?_
        refine gq_la (k := 50) (w := 0) (i := 0) (gv_k0 50 rfl hvx0) rfl (fun _ _ => rfl) (fun v6 => ?_)
        exact gq_ret
      · exact gq_ret
set_option maxHeartbeats 4000000 in
set_option maxRecDepth 100000 in
theorem q_X11_onFail (θ : gT) (Gs U : gK → Nat) (x1 : Int32) (x2 : Int32) (hvx0 : gV θ 41 0 0) : gSim true θ Gs U (F_X11_onFail (Gs (pk 41 0 0)) x1 x2) (G_X11_onFail θ x1 x2) := by
  unfold F_X11_onFail G_X11_onFail
  refine gq_ck (k := 41) (w := 0) (i := 0) hvx0 rfl (fun _ _ => ⟨_, rfl⟩) ?_
  refine gq_call (q_X11_isDomain θ Gs U x1 hvx0) (fun v1 => ?_)
  refine gq_if (fun _ => ?_) (fun _ => ?_)
  · exact gq_rz
  · refine gq_if (fun _ => ?_) (fun _ => ?_)
    · exact gq_rz
    · refine gq_if (fun _ => ?_) (fun _ => ?_)
      · exact gq_rz
      · refine gq_I (k := 41) (w := 0) (i := 0) hvx0 rfl (fun _ _ => ⟨_, rfl, rfl⟩) (fun v2 => ?_)
        refine gq_if (fun _ => ?_) (fun _ => ?_)
        · refine gq_R (k := 41) (w := 0) (i := 0) hvx0 rfl (fun _ _ => ⟨_, rfl, rfl⟩) ?_
          refine gq_sa (k := 51) (w := 0) (i := 0) (gv_k0 51 rfl hvx0) rfl (fun _ _ => rfl) ?_
          exact gq_rz
        · exact gq_rz
set_option maxHeartbeats 4000000 in
set_option maxRecDepth 100000 in
theorem q_X11_slot (θ : gT) (Gs U : gK → Nat) (x1 : Int32) (x2 : Int32) (x3 : Int32) (hvx0 : gV θ 41 0 0) : gSim true θ Gs U (F_X11_slot (Gs (pk 41 0 0)) x1 x2 x3) (G_X11_slot θ x1 x2 x3) := by
  unfold F_X11_slot G_X11_slot
  refine gq_ck (k := 41) (w := 0) (i := 0) hvx0 rfl (fun _ _ => ⟨_, rfl⟩) ?_
  refine gq_if (fun _ => ?_) (fun _ => ?_)
  · exact gq_ret
  · refine gq_if (fun _ => ?_) (fun _ => ?_)
    · exact gq_ret
    · refine gq_call (q_X11_isDomain θ Gs U x2 hvx0) (fun v1 => ?_)
      refine gq_if (fun _ => ?_) (fun _ => ?_)
      · exact gq_ret
      · refine gq_if (fun _ => ?_) (fun _ => ?_)
        · exact gq_ret
        · refine gq_if (fun _ => ?_) (fun _ => ?_)
          · exact gq_ret
          · refine gq_R (k := 41) (w := 0) (i := 0) hvx0 rfl (fun _ _ => ⟨_, rfl, rfl⟩) ?_
            refine gq_la (k := 54) (w := 0) (i := 0) (gv_k0 54 rfl hvx0) rfl (fun _ _ => rfl) (fun v2 => ?_)
            refine gq_if (fun _ => ?_) (fun _ => ?_)
            · exact gq_ret
            · refine gq_I (k := 41) (w := 0) (i := 0) hvx0 rfl (fun _ _ => ⟨_, rfl, rfl⟩) (fun v3 => ?_)
              refine gq_if (fun _ => ?_) (fun _ => ?_)
              · refine gq_R (k := 41) (w := 0) (i := 0) hvx0 rfl (fun _ _ => ⟨_, rfl, rfl⟩) ?_
                refine gq_R (k := 41) (w := 0) (i := 0) hvx0 rfl (fun _ _ => ⟨_, rfl, rfl⟩) ?_
                refine gq_la (k := 54) (w := 0) (i := 0) (gv_k0 54 rfl hvx0) rfl (fun _ _ => rfl) (fun v4 => ?_)
                refine gq_sa (k := 52) (w := 0) (i := 0) (gv_k0 52 rfl hvx0) rfl (fun _ _ => rfl) ?_
                refine gq_R (k := 41) (w := 0) (i := 0) hvx0 rfl (fun _ _ => ⟨_, rfl, rfl⟩) ?_
                refine gq_R (k := 41) (w := 0) (i := 0) hvx0 rfl (fun _ _ => ⟨_, rfl, rfl⟩) ?_
                refine gq_la (k := 54) (w := 0) (i := 0) (gv_k0 54 rfl hvx0) rfl (fun _ _ => rfl) (fun v5 => ?_)
                refine gq_sa (k := 53) (w := 0) (i := 0) (gv_k0 53 rfl hvx0) rfl (fun _ _ => rfl) ?_
                refine gq_R (k := 41) (w := 0) (i := 0) hvx0 rfl (fun _ _ => ⟨_, rfl, rfl⟩) ?_
                refine gq_la (k := 54) (w := 0) (i := 0) (gv_k0 54 rfl hvx0) rfl (fun _ _ => rfl) (fun v6 => ?_)
                refine gq_sa (k := 54) (w := 0) (i := 0) (gv_k0 54 rfl hvx0) rfl (fun _ _ => rfl) ?_
                refine gq_R (k := 41) (w := 0) (i := 0) hvx0 rfl (fun _ _ => ⟨_, rfl, rfl⟩) ?_
                refine gq_la (k := 54) (w := 0) (i := 0) (gv_k0 54 rfl hvx0) rfl (fun _ _ => rfl) (fun v7 => ?_)
                exact gq_ret
              · exact gq_ret
set_option maxHeartbeats 4000000 in
set_option maxRecDepth 100000 in
theorem q_X11_reset_210 (θ : gT) (Gs U : gK → Nat)    (x1 : Int32) (hvx0 : gV θ 41 0 0) : gSim true θ Gs U (F_X11_reset_210 (Gs (pk 41 0 0)) x1) (G_X11_reset_210 θ x1) := by
  unfold F_X11_reset_210 G_X11_reset_210
  refine gq_R (k := 41) (w := 0) (i := 0) hvx0 rfl (fun _ _ => ⟨_, rfl, rfl⟩) ?_
  refine gq_sa (k := 86) (w := 0) (i := 0) (gv_k0 86 rfl hvx0) rfl (fun _ _ => rfl) ?_
  refine gq_R (k := 41) (w := 0) (i := 0) hvx0 rfl (fun _ _ => ⟨_, rfl, rfl⟩) ?_
  refine gq_sa (k := 87) (w := 0) (i := 0) (gv_k0 87 rfl hvx0) rfl (fun _ _ => rfl) ?_
  refine gq_R (k := 41) (w := 0) (i := 0) hvx0 rfl (fun _ _ => ⟨_, rfl, rfl⟩) ?_
  refine gq_sa (k := 88) (w := 0) (i := 0) (gv_k0 88 rfl hvx0) rfl (fun _ _ => rfl) ?_
  refine gq_R (k := 41) (w := 0) (i := 0) hvx0 rfl (fun _ _ => ⟨_, rfl, rfl⟩) ?_
  refine gq_sa (k := 89) (w := 0) (i := 0) (gv_k0 89 rfl hvx0) rfl (fun _ _ => rfl) ?_
  refine gq_R (k := 41) (w := 0) (i := 0) hvx0 rfl (fun _ _ => ⟨_, rfl, rfl⟩) ?_
  refine gq_R (k := 41) (w := 0) (i := 0) hvx0 rfl (fun _ _ => ⟨_, rfl, rfl⟩) ?_
  refine gq_la (k := 53) (w := 0) (i := 0) (gv_k0 53 rfl hvx0) rfl (fun _ _ => rfl) (fun v1 => ?_)
  refine gq_sa (k := 90) (w := 0) (i := 0) (gv_k0 90 rfl hvx0) rfl (fun _ _ => rfl) ?_
  refine gq_R (k := 41) (w := 0) (i := 0) hvx0 rfl (fun _ _ => ⟨_, rfl, rfl⟩) ?_
  refine gq_sa (k := 91) (w := 0) (i := 0) (gv_k0 91 rfl hvx0) rfl (fun _ _ => rfl) ?_
  refine gq_R (k := 41) (w := 0) (i := 0) hvx0 rfl (fun _ _ => ⟨_, rfl, rfl⟩) ?_
  refine gq_sz (k := 92) (w := 0) (i := 0) (gv_k0 92 rfl hvx0) rfl (fun _ _ => rfl) ?_
  refine gq_R (k := 41) (w := 0) (i := 0) hvx0 rfl (fun _ _ => ⟨_, rfl, rfl⟩) ?_
  refine gq_sz (k := 93) (w := 0) (i := 0) (gv_k0 93 rfl hvx0) rfl (fun _ _ => rfl) ?_
  exact gq_ret
set_option maxHeartbeats 4000000 in
set_option maxRecDepth 100000 in
theorem q_X11_reset_151 (θ : gT) (Gs U : gK → Nat)    : ∀ (fu : Nat) (x1 : Int32) (x2 : Int32) (hvx0 : gV θ 41 0 0), gSim true θ Gs U (F_X11_reset_151 fu (Gs (pk 41 0 0)) x1 x2) (G_X11_reset_151 θ fu x1 x2) := by
  intro fu
  induction fu with
  | zero =>
    intro x1 x2 hvx0
    unfold G_X11_reset_151
    exact gq_no
  | succ fu ih =>
    intro x1 x2 hvx0
    unfold F_X11_reset_151 G_X11_reset_151
    refine gq_if (fun _ => ?_) (fun _ => ?_)
    · exact q_X11_reset_210 θ Gs U x1 hvx0
    · refine gq_R (k := 41) (w := 0) (i := 0) hvx0 rfl (fun _ _ => ⟨_, rfl, rfl⟩) ?_
      refine gq_sa (k := 74) (w := 0) (i := 0) (gv_k0 74 rfl hvx0) rfl (fun _ _ => rfl) ?_
      refine gq_R (k := 41) (w := 0) (i := 0) hvx0 rfl (fun _ _ => ⟨_, rfl, rfl⟩) ?_
      refine gq_sa (k := 77) (w := 0) (i := 0) (gv_k0 77 rfl hvx0) rfl (fun _ _ => rfl) ?_
      refine gq_R (k := 41) (w := 0) (i := 0) hvx0 rfl (fun _ _ => ⟨_, rfl, rfl⟩) ?_
      refine gq_sa (k := 78) (w := 0) (i := 0) (gv_k0 78 rfl hvx0) rfl (fun _ _ => rfl) ?_
      refine gq_R (k := 41) (w := 0) (i := 0) hvx0 rfl (fun _ _ => ⟨_, rfl, rfl⟩) ?_
      refine gq_sa (k := 79) (w := 0) (i := 0) (gv_k0 79 rfl hvx0) rfl (fun _ _ => rfl) ?_
      refine gq_R (k := 41) (w := 0) (i := 0) hvx0 rfl (fun _ _ => ⟨_, rfl, rfl⟩) ?_
      refine gq_sa (k := 81) (w := 0) (i := 0) (gv_k0 81 rfl hvx0) rfl (fun _ _ => rfl) ?_
      refine gq_R (k := 41) (w := 0) (i := 0) hvx0 rfl (fun _ _ => ⟨_, rfl, rfl⟩) ?_
      refine gq_sa (k := 82) (w := 0) (i := 0) (gv_k0 82 rfl hvx0) rfl (fun _ _ => rfl) ?_
      exact ih  x1 (x2 + (1 : Int32)) hvx0
set_option maxHeartbeats 4000000 in
set_option maxRecDepth 100000 in
theorem q_X11_reset_146 (θ : gT) (Gs U : gK → Nat)    (x1 : Int32) (hvx0 : gV θ 41 0 0) : gSim true θ Gs U (F_X11_reset_146 (Gs (pk 41 0 0)) x1) (G_X11_reset_146 θ x1) := by
  unfold F_X11_reset_146 G_X11_reset_146
  exact q_X11_reset_151 θ Gs U mo_fu x1 ((12 : Int32) * x1) hvx0
set_option maxHeartbeats 4000000 in
set_option maxRecDepth 100000 in
theorem q_X11_reset_80 (θ : gT) (Gs U : gK → Nat)    : ∀ (fu : Nat) (x1 : Int32) (x2 : Int32) (hvx0 : gV θ 41 0 0), gSim true θ Gs U (F_X11_reset_80 fu (Gs (pk 41 0 0)) x1 x2) (G_X11_reset_80 θ fu x1 x2) := by
  intro fu
  induction fu with
  | zero =>
    intro x1 x2 hvx0
    unfold G_X11_reset_80
    exact gq_no
  | succ fu ih =>
    intro x1 x2 hvx0
    unfold F_X11_reset_80 G_X11_reset_80
    refine gq_if (fun _ => ?_) (fun _ => ?_)
    · exact q_X11_reset_146 θ Gs U x1 hvx0
    · refine gq_R (k := 41) (w := 0) (i := 0) hvx0 rfl (fun _ _ => ⟨_, rfl, rfl⟩) ?_
      refine gq_sa (k := 63) (w := 0) (i := 0) (gv_k0 63 rfl hvx0) rfl (fun _ _ => rfl) ?_
      refine gq_R (k := 41) (w := 0) (i := 0) hvx0 rfl (fun _ _ => ⟨_, rfl, rfl⟩) ?_
      refine gq_sa (k := 64) (w := 0) (i := 0) (gv_k0 64 rfl hvx0) rfl (fun _ _ => rfl) ?_
      refine gq_R (k := 41) (w := 0) (i := 0) hvx0 rfl (fun _ _ => ⟨_, rfl, rfl⟩) ?_
      refine gq_sa (k := 66) (w := 0) (i := 0) (gv_k0 66 rfl hvx0) rfl (fun _ _ => rfl) ?_
      refine gq_R (k := 41) (w := 0) (i := 0) hvx0 rfl (fun _ _ => ⟨_, rfl, rfl⟩) ?_
      refine gq_sa (k := 68) (w := 0) (i := 0) (gv_k0 68 rfl hvx0) rfl (fun _ _ => rfl) ?_
      refine gq_R (k := 41) (w := 0) (i := 0) hvx0 rfl (fun _ _ => ⟨_, rfl, rfl⟩) ?_
      refine gq_sa (k := 69) (w := 0) (i := 0) (gv_k0 69 rfl hvx0) rfl (fun _ _ => rfl) ?_
      refine gq_R (k := 41) (w := 0) (i := 0) hvx0 rfl (fun _ _ => ⟨_, rfl, rfl⟩) ?_
      refine gq_sa (k := 70) (w := 0) (i := 0) (gv_k0 70 rfl hvx0) rfl (fun _ _ => rfl) ?_
      refine gq_R (k := 41) (w := 0) (i := 0) hvx0 rfl (fun _ _ => ⟨_, rfl, rfl⟩) ?_
      refine gq_sa (k := 71) (w := 0) (i := 0) (gv_k0 71 rfl hvx0) rfl (fun _ _ => rfl) ?_
      exact ih  x1 (x2 + (1 : Int32)) hvx0
set_option maxHeartbeats 4000000 in
set_option maxRecDepth 100000 in
theorem q_X11_reset_75 (θ : gT) (Gs U : gK → Nat)    (x1 : Int32) (hvx0 : gV θ 41 0 0) : gSim true θ Gs U (F_X11_reset_75 (Gs (pk 41 0 0)) x1) (G_X11_reset_75 θ x1) := by
  unfold F_X11_reset_75 G_X11_reset_75
  exact q_X11_reset_80 θ Gs U mo_fu x1 ((6 : Int32) * x1) hvx0
set_option maxHeartbeats 4000000 in
set_option maxRecDepth 100000 in
theorem q_X11_reset_49 (θ : gT) (Gs U : gK → Nat)    : ∀ (fu : Nat) (x1 : Int32) (x2 : Int32) (hvx0 : gV θ 41 0 0), gSim true θ Gs U (F_X11_reset_49 fu (Gs (pk 41 0 0)) x1 x2) (G_X11_reset_49 θ fu x1 x2) := by
  intro fu
  induction fu with
  | zero =>
    intro x1 x2 hvx0
    unfold G_X11_reset_49
    exact gq_no
  | succ fu ih =>
    intro x1 x2 hvx0
    unfold F_X11_reset_49 G_X11_reset_49
    refine gq_if (fun _ => ?_) (fun _ => ?_)
    · exact q_X11_reset_75 θ Gs U x1 hvx0
    · refine gq_R (k := 41) (w := 0) (i := 0) hvx0 rfl (fun _ _ => ⟨_, rfl, rfl⟩) ?_
      refine gq_sa (k := 62) (w := 0) (i := 0) (gv_k0 62 rfl hvx0) rfl (fun _ _ => rfl) ?_
      exact ih  x1 (x2 + (1 : Int32)) hvx0
set_option maxHeartbeats 4000000 in
set_option maxRecDepth 100000 in
theorem q_X11_reset_43 (θ : gT) (Gs U : gK → Nat)    (x1 : Int32) (hvx0 : gV θ 41 0 0) : gSim true θ Gs U (F_X11_reset_43 (Gs (pk 41 0 0)) x1) (G_X11_reset_43 θ x1) := by
  unfold F_X11_reset_43 G_X11_reset_43
  exact q_X11_reset_49 θ Gs U mo_fu x1 ((192 : Int32) * x1) hvx0
set_option maxHeartbeats 4000000 in
set_option maxRecDepth 100000 in
theorem q_X11_reset_5 (θ : gT) (Gs U : gK → Nat)    : ∀ (fu : Nat) (x1 : Int32) (x2 : Int32) (hvx0 : gV θ 41 0 0), gSim true θ Gs U (F_X11_reset_5 fu (Gs (pk 41 0 0)) x1 x2) (G_X11_reset_5 θ fu x1 x2) := by
  intro fu
  induction fu with
  | zero =>
    intro x1 x2 hvx0
    unfold G_X11_reset_5
    exact gq_no
  | succ fu ih =>
    intro x1 x2 hvx0
    unfold F_X11_reset_5 G_X11_reset_5
    refine gq_if (fun _ => ?_) (fun _ => ?_)
    · exact q_X11_reset_43 θ Gs U x1 hvx0
    · refine gq_R (k := 41) (w := 0) (i := 0) hvx0 rfl (fun _ _ => ⟨_, rfl, rfl⟩) ?_
      refine gq_sa (k := 61) (w := 0) (i := 0) (gv_k0 61 rfl hvx0) rfl (fun _ _ => rfl) ?_
      refine gq_R (k := 41) (w := 0) (i := 0) hvx0 rfl (fun _ _ => ⟨_, rfl, rfl⟩) ?_
      refine gq_sa (k := 65) (w := 0) (i := 0) (gv_k0 65 rfl hvx0) rfl (fun _ _ => rfl) ?_
      refine gq_R (k := 41) (w := 0) (i := 0) hvx0 rfl (fun _ _ => ⟨_, rfl, rfl⟩) ?_
      refine gq_sa (k := 80) (w := 0) (i := 0) (gv_k0 80 rfl hvx0) rfl (fun _ _ => rfl) ?_
      exact ih  x1 (x2 + (1 : Int32)) hvx0
set_option maxHeartbeats 4000000 in
set_option maxRecDepth 100000 in
theorem q_X11_reset (θ : gT) (Gs U : gK → Nat) (x1 : Int32) (hvx0 : gV θ 41 0 0) : gSim true θ Gs U (F_X11_reset (Gs (pk 41 0 0)) x1) (G_X11_reset θ x1) := by
  unfold F_X11_reset G_X11_reset
  refine gq_ck (k := 41) (w := 0) (i := 0) hvx0 rfl (fun _ _ => ⟨_, rfl⟩) ?_
  exact q_X11_reset_5 θ Gs U mo_fu x1 ((48 : Int32) * x1) hvx0
set_option maxHeartbeats 4000000 in
set_option maxRecDepth 100000 in
theorem q_X11_seal (θ : gT) (Gs U : gK → Nat)  (hvx0 : gV θ 41 0 0) : gSim true θ Gs U (F_X11_seal (Gs (pk 41 0 0))) (G_X11_seal θ ) := by
  unfold F_X11_seal G_X11_seal
  refine gq_ck (k := 41) (w := 0) (i := 0) hvx0 rfl (fun _ _ => ⟨_, rfl⟩) ?_
  refine gq_I (k := 41) (w := 0) (i := 0) hvx0 rfl (fun _ _ => ⟨_, rfl, rfl⟩) (fun v1 => ?_)
  refine gq_if (fun _ => ?_) (fun _ => ?_)
  · refine gq_R (k := 41) (w := 0) (i := 0) hvx0 rfl (fun _ _ => ⟨_, rfl, rfl⟩) ?_
    refine gq_la (k := 54) (w := 0) (i := 0) (gv_k0 54 rfl hvx0) rfl (fun _ _ => rfl) (fun v2 => ?_)
    refine gq_if (fun _ => ?_) (fun _ => ?_)
    · exact gq_ret
    · refine gq_pz (k := 41) (w := 0) (i := 0) hvx0 rfl (fun _ _ => ⟨_, rfl, by simp, rfl⟩) ?_
      refine gq_call (q_X11_reset θ Gs U (0 : Int32) hvx0) (fun v3 => ?_)
      exact gq_ret
  · exact gq_ret
set_option maxHeartbeats 4000000 in
set_option maxRecDepth 100000 in
theorem q_X11_slotDomain (θ : gT) (Gs U : gK → Nat) (x1 : Int32) (hvx0 : gV θ 41 0 0) : gSim true θ Gs U (F_X11_slotDomain (Gs (pk 41 0 0)) x1) (G_X11_slotDomain θ x1) := by
  unfold F_X11_slotDomain G_X11_slotDomain
  refine gq_ck (k := 41) (w := 0) (i := 0) hvx0 rfl (fun _ _ => ⟨_, rfl⟩) ?_
  refine gq_R (k := 41) (w := 0) (i := 0) hvx0 rfl (fun _ _ => ⟨_, rfl, rfl⟩) ?_
  refine gq_R (k := 41) (w := 0) (i := 0) hvx0 rfl (fun _ _ => ⟨_, rfl, rfl⟩) ?_
  refine gq_la (k := 88) (w := 0) (i := 0) (gv_k0 88 rfl hvx0) rfl (fun _ _ => rfl) (fun v1 => ?_)
  refine gq_R (k := 41) (w := 0) (i := 0) hvx0 rfl (fun _ _ => ⟨_, rfl, rfl⟩) ?_
  refine gq_la (k := 89) (w := 0) (i := 0) (gv_k0 89 rfl hvx0) rfl (fun _ _ => rfl) (fun v2 => ?_)
  refine gq_la (k := 52) (w := 0) (i := 0) (gv_k0 52 rfl hvx0) rfl (fun _ _ => rfl) (fun v3 => ?_)
  exact gq_ret
set_option maxHeartbeats 4000000 in
set_option maxRecDepth 100000 in
theorem q_X11_isReady_36 (θ : gT) (Gs U : gK → Nat)      : gSim true θ Gs U (F_X11_isReady_36) (G_X11_isReady_36 θ) := by
  unfold F_X11_isReady_36 G_X11_isReady_36
  exact gq_rz
set_option maxHeartbeats 4000000 in
set_option maxRecDepth 100000 in
theorem q_X11_isReady (θ : gT) (Gs U : gK → Nat) (x1 : Int32) (hvx0 : gV θ 41 0 0) : gSim true θ Gs U (F_X11_isReady (Gs (pk 41 0 0)) x1) (G_X11_isReady θ x1) := by
  unfold F_X11_isReady G_X11_isReady
  refine gq_ck (k := 41) (w := 0) (i := 0) hvx0 rfl (fun _ _ => ⟨_, rfl⟩) ?_
  refine gq_R (k := 41) (w := 0) (i := 0) hvx0 rfl (fun _ _ => ⟨_, rfl, rfl⟩) ?_
  refine gq_call (q_X11_slotDomain θ Gs U x1 hvx0) (fun v1 => ?_)
  refine gq_la (k := 64) (w := 0) (i := 0) (gv_k0 64 rfl hvx0) rfl (fun _ _ => rfl) (fun v2 => ?_)
  refine gq_if (fun _ => ?_) (fun _ => ?_)
  · refine gq_R (k := 41) (w := 0) (i := 0) hvx0 rfl (fun _ _ => ⟨_, rfl, rfl⟩) ?_
    refine gq_la (k := 92) (w := 0) (i := 0) (gv_k0 92 rfl hvx0) rfl (fun _ _ => rfl) (fun v3 => ?_)
    refine gq_if (fun _ => ?_) (fun _ => ?_)
    · refine gq_R (k := 41) (w := 0) (i := 0) hvx0 rfl (fun _ _ => ⟨_, rfl, rfl⟩) ?_
      refine gq_la (k := 93) (w := 0) (i := 0) (gv_k0 93 rfl hvx0) rfl (fun _ _ => rfl) (fun v4 => ?_)
      refine gq_if (fun _ => ?_) (fun _ => ?_)
      · exact q_X11_isReady_36 θ Gs U
      · exact gq_rz
    · exact q_X11_isReady_36 θ Gs U
  · exact gq_rz
set_option maxHeartbeats 4000000 in
set_option maxRecDepth 100000 in
theorem q_X11_beginSlot_122 (θ : gT) (Gs U : gK → Nat) (f2 : Nat → Int32 → Int32 → Int32 → mo_M Unit) (k2 : Int32 → Int32 → Int32 → gM Unit) (hk2 : ∀  (x1 : Int32) (x2 : Int32) (x3 : Int32) (hvx0 : gV θ 41 0 0), gSim true θ Gs U (f2 (Gs (pk 41 0 0)) x1 x2 x3) (k2 x1 x2 x3)) (x1 : Int32) (x2 : Int32) (x3 : Int32) (hvx0 : gV θ 41 0 0) : gSim true θ Gs U (F_X11_beginSlot_122 f2 (Gs (pk 41 0 0)) x1 x2 x3) (G_X11_beginSlot_122 θ k2 x1 x2 x3) := by
  unfold F_X11_beginSlot_122 G_X11_beginSlot_122
  exact hk2  x1 x2 (x3 + (1 : Int32)) hvx0
set_option maxHeartbeats 4000000 in
set_option maxRecDepth 100000 in
theorem q_X11_beginSlot_104 (θ : gT) (Gs U : gK → Nat) (f2 : Nat → Int32 → Int32 → Int32 → mo_M Unit) (k2 : Int32 → Int32 → Int32 → gM Unit) (hk2 : ∀  (x1 : Int32) (x2 : Int32) (x3 : Int32) (hvx0 : gV θ 41 0 0), gSim true θ Gs U (f2 (Gs (pk 41 0 0)) x1 x2 x3) (k2 x1 x2 x3)) (x1 : Int32) (x2 : Int32) (x3 : Int32) (x4 : Int32) (hvx0 : gV θ 41 0 0) : gSim true θ Gs U (F_X11_beginSlot_104 f2 (Gs (pk 41 0 0)) x1 x2 x3 x4) (G_X11_beginSlot_104 θ k2 x1 x2 x3 x4) := by
  unfold F_X11_beginSlot_104 G_X11_beginSlot_104
  refine gq_R (k := 41) (w := 0) (i := 0) hvx0 rfl (fun _ _ => ⟨_, rfl, rfl⟩) ?_
  refine gq_la (k := 45) (w := 0) (i := 0) (gv_k0 45 rfl hvx0) rfl (fun _ _ => rfl) (fun v1 => ?_)
  refine gq_if (fun _ => ?_) (fun _ => ?_)
  · refine gq_R (k := 41) (w := 0) (i := 0) hvx0 rfl (fun _ _ => ⟨_, rfl, rfl⟩) ?_
    refine gq_sa (k := 79) (w := 0) (i := 0) (gv_k0 79 rfl hvx0) rfl (fun _ _ => rfl) ?_
    exact q_X11_beginSlot_122 θ Gs U f2 k2 hk2 x1 x2 x3 hvx0
  · exact q_X11_beginSlot_122 θ Gs U f2 k2 hk2 x1 x2 x3 hvx0
set_option maxHeartbeats 4000000 in
set_option maxRecDepth 100000 in
theorem q_X11_beginSlot_128 (θ : gT) (Gs U : gK → Nat)    (x1 : Int32) (hvx0 : gV θ 41 0 0) : gSim true θ Gs U (F_X11_beginSlot_128 (Gs (pk 41 0 0)) x1) (G_X11_beginSlot_128 θ x1) := by
  unfold F_X11_beginSlot_128 G_X11_beginSlot_128
  refine gq_R (k := 41) (w := 0) (i := 0) hvx0 rfl (fun _ _ => ⟨_, rfl, rfl⟩) ?_
  refine gq_sz (k := 93) (w := 0) (i := 0) (gv_k0 93 rfl hvx0) rfl (fun _ _ => rfl) ?_
  refine gq_R (k := 41) (w := 0) (i := 0) hvx0 rfl (fun _ _ => ⟨_, rfl, rfl⟩) ?_
  refine gq_sz (k := 92) (w := 0) (i := 0) (gv_k0 92 rfl hvx0) rfl (fun _ _ => rfl) ?_
  exact gq_ret
set_option maxHeartbeats 4000000 in
set_option maxRecDepth 100000 in
theorem q_X11_beginSlot_2 (θ : gT) (Gs U : gK → Nat)    : ∀ (fu : Nat) (x1 : Int32) (x2 : Int32) (x3 : Int32) (hvx0 : gV θ 41 0 0), gSim true θ Gs U (F_X11_beginSlot_2 fu (Gs (pk 41 0 0)) x1 x2 x3) (G_X11_beginSlot_2 θ fu x1 x2 x3) := by
  intro fu
  induction fu with
  | zero =>
    intro x1 x2 x3 hvx0
    unfold G_X11_beginSlot_2
    exact gq_no
  | succ fu ih =>
    intro x1 x2 x3 hvx0
    unfold F_X11_beginSlot_2 G_X11_beginSlot_2
    refine gq_I (k := 41) (w := 0) (i := 0) hvx0 rfl (fun _ _ => ⟨_, rfl, rfl⟩) (fun v1 => ?_)
    refine gq_if (fun _ => ?_) (fun _ => ?_)
    · exact q_X11_beginSlot_128 θ Gs U x1 hvx0
    · refine gq_R (k := 41) (w := 0) (i := 0) hvx0 rfl (fun _ _ => ⟨_, rfl, rfl⟩) ?_
      refine gq_la (k := 47) (w := 0) (i := 0) (gv_k0 47 rfl hvx0) rfl (fun _ _ => rfl) (fun v2 => ?_)
      refine gq_if (fun _ => ?_) (fun _ => ?_)
      · refine gq_R (k := 41) (w := 0) (i := 0) hvx0 rfl (fun _ _ => ⟨_, rfl, rfl⟩) ?_
        refine gq_la (k := 46) (w := 0) (i := 0) (gv_k0 46 rfl hvx0) rfl (fun _ _ => rfl) (fun v3 => ?_)
        refine gq_if (fun _ => ?_) (fun _ => ?_)
        · refine gq_R (k := 41) (w := 0) (i := 0) hvx0 rfl (fun _ _ => ⟨_, rfl, rfl⟩) ?_
          refine gq_la (k := 78) (w := 0) (i := 0) (gv_k0 78 rfl hvx0) rfl (fun _ _ => rfl) (fun v4 => ?_)
          refine gq_R (k := 41) (w := 0) (i := 0) hvx0 rfl (fun _ _ => ⟨_, rfl, rfl⟩) ?_
          refine gq_la (k := 74) (w := 0) (i := 0) (gv_k0 74 rfl hvx0) rfl (fun _ _ => rfl) (fun v5 => ?_)
          refine gq_sa (k := 78) (w := 0) (i := 0) (gv_k0 78 rfl hvx0) rfl (fun _ _ => rfl) ?_
          refine gq_R (k := 41) (w := 0) (i := 0) hvx0 rfl (fun _ _ => ⟨_, rfl, rfl⟩) ?_
          refine gq_R (k := 41) (w := 0) (i := 0) hvx0 rfl (fun _ _ => ⟨_, rfl, rfl⟩) ?_
          refine gq_la (k := 77) (w := 0) (i := 0) (gv_k0 77 rfl hvx0) rfl (fun _ _ => rfl) (fun v6 => ?_)
          refine gq_sa (k := 74) (w := 0) (i := 0) (gv_k0 74 rfl hvx0) rfl (fun _ _ => rfl) ?_
          refine gq_R (k := 41) (w := 0) (i := 0) hvx0 rfl (fun _ _ => ⟨_, rfl, rfl⟩) ?_
          refine gq_R (k := 41) (w := 0) (i := 0) hvx0 rfl (fun _ _ => ⟨_, rfl, rfl⟩) ?_
          refine gq_la (k := 75) (w := 0) (i := 0) (gv_k0 75 rfl hvx0) rfl (fun _ _ => rfl) (fun v7 => ?_)
          refine gq_sa (k := 72) (w := 0) (i := 0) (gv_k0 72 rfl hvx0) rfl (fun _ _ => rfl) ?_
          refine gq_R (k := 41) (w := 0) (i := 0) hvx0 rfl (fun _ _ => ⟨_, rfl, rfl⟩) ?_
          refine gq_R (k := 41) (w := 0) (i := 0) hvx0 rfl (fun _ _ => ⟨_, rfl, rfl⟩) ?_
          refine gq_la (k := 76) (w := 0) (i := 0) (gv_k0 76 rfl hvx0) rfl (fun _ _ => rfl) (fun v8 => ?_)
          refine gq_sa (k := 73) (w := 0) (i := 0) (gv_k0 73 rfl hvx0) rfl (fun _ _ => rfl) ?_
          refine gq_R (k := 41) (w := 0) (i := 0) hvx0 rfl (fun _ _ => ⟨_, rfl, rfl⟩) ?_
          refine gq_sa (k := 77) (w := 0) (i := 0) (gv_k0 77 rfl hvx0) rfl (fun _ _ => rfl) ?_
          exact q_X11_beginSlot_104 θ Gs U (F_X11_beginSlot_2  fu) (G_X11_beginSlot_2 θ  fu) ih x1 x2 x3 (((12 : Int32) * x1) + x3) hvx0
        · exact q_X11_beginSlot_104 θ Gs U (F_X11_beginSlot_2  fu) (G_X11_beginSlot_2 θ  fu) ih x1 x2 x3 (((12 : Int32) * x1) + x3) hvx0
      · exact q_X11_beginSlot_104 θ Gs U (F_X11_beginSlot_2  fu) (G_X11_beginSlot_2 θ  fu) ih x1 x2 x3 (((12 : Int32) * x1) + x3) hvx0
set_option maxHeartbeats 4000000 in
set_option maxRecDepth 100000 in
theorem q_X11_beginSlot (θ : gT) (Gs U : gK → Nat) (x1 : Int32) (x2 : Int32) (hvx0 : gV θ 41 0 0) : gSim true θ Gs U (F_X11_beginSlot (Gs (pk 41 0 0)) x1 x2) (G_X11_beginSlot θ x1 x2) := by
  unfold F_X11_beginSlot G_X11_beginSlot
  refine gq_ck (k := 41) (w := 0) (i := 0) hvx0 rfl (fun _ _ => ⟨_, rfl⟩) ?_
  exact q_X11_beginSlot_2 θ Gs U mo_fu x1 x2 (0 : Int32) hvx0
set_option maxHeartbeats 4000000 in
set_option maxRecDepth 100000 in
theorem q_X11_areCells (θ : gT) (Gs U : gK → Nat) (x0 : Int64) (x2 : Int64)  : gSim true θ Gs U (F_X11_areCells x0 x2) (G_X11_areCells θ x0 x2) := by
  unfold F_X11_areCells G_X11_areCells
  refine gq_if (fun _ => ?_) (fun _ => ?_)
  · exact gq_rz
  · refine gq_if (fun _ => ?_) (fun _ => ?_)
    · exact gq_rz
    · exact gq_rz
set_option maxHeartbeats 4000000 in
set_option maxRecDepth 100000 in
theorem q_X11_ageOf (θ : gT) (Gs U : gK → Nat) (x1 : Int32) (x2 : Int32) (hvx0 : gV θ 41 0 0) : gSim true θ Gs U (F_X11_ageOf (Gs (pk 41 0 0)) x1 x2) (G_X11_ageOf θ x1 x2) := by
  unfold F_X11_ageOf G_X11_ageOf
  refine gq_ck (k := 41) (w := 0) (i := 0) hvx0 rfl (fun _ _ => ⟨_, rfl⟩) ?_
  refine gq_R (k := 41) (w := 0) (i := 0) hvx0 rfl (fun _ _ => ⟨_, rfl, rfl⟩) ?_
  refine gq_la (k := 81) (w := 0) (i := 0) (gv_k0 81 rfl hvx0) rfl (fun _ _ => rfl) (fun v1 => ?_)
  refine gq_if (fun _ => ?_) (fun _ => ?_)
  · exact gq_ret
  · refine gq_R (k := 41) (w := 0) (i := 0) hvx0 rfl (fun _ _ => ⟨_, rfl, rfl⟩) ?_
    refine gq_la (k := 87) (w := 0) (i := 0) (gv_k0 87 rfl hvx0) rfl (fun _ _ => rfl) (fun v2 => ?_)
    refine gq_R (k := 41) (w := 0) (i := 0) hvx0 rfl (fun _ _ => ⟨_, rfl, rfl⟩) ?_
    refine gq_la (k := 82) (w := 0) (i := 0) (gv_k0 82 rfl hvx0) rfl (fun _ _ => rfl) (fun v3 => ?_)
    exact gq_ret
set_option maxHeartbeats 4000000 in
set_option maxRecDepth 100000 in
theorem q_X11_send_103 (θ : gT) (Gs U : gK → Nat)    (x2 : Int32) (x5 : Int32) (hvx0 : gV θ 41 0 0) : gSim true θ Gs U (F_X11_send_103 (Gs (pk 41 0 0)) x2 x5) (G_X11_send_103 θ x2 x5) := by
  unfold F_X11_send_103 G_X11_send_103
  refine gq_R (k := 41) (w := 0) (i := 0) hvx0 rfl (fun _ _ => ⟨_, rfl, rfl⟩) ?_
  refine gq_sa (k := 76) (w := 0) (i := 0) (gv_k0 76 rfl hvx0) rfl (fun _ _ => rfl) ?_
  refine gq_R (k := 41) (w := 0) (i := 0) hvx0 rfl (fun _ _ => ⟨_, rfl, rfl⟩) ?_
  refine gq_la (k := 77) (w := 0) (i := 0) (gv_k0 77 rfl hvx0) rfl (fun _ _ => rfl) (fun v1 => ?_)
  refine gq_sa (k := 77) (w := 0) (i := 0) (gv_k0 77 rfl hvx0) rfl (fun _ _ => rfl) ?_
  exact gq_ret
set_option maxHeartbeats 4000000 in
set_option maxRecDepth 100000 in
theorem q_X11_send_70 (θ : gT) (Gs U : gK → Nat)    (x2 : Int32) (x5 : Int32) (hvx0 : gV θ 41 0 0) : gSim true θ Gs U (F_X11_send_70 (Gs (pk 41 0 0)) x2 x5) (G_X11_send_70 θ x2 x5) := by
  unfold F_X11_send_70 G_X11_send_70
  refine gq_R (k := 41) (w := 0) (i := 0) hvx0 rfl (fun _ _ => ⟨_, rfl, rfl⟩) ?_
  refine gq_la (k := 77) (w := 0) (i := 0) (gv_k0 77 rfl hvx0) rfl (fun _ _ => rfl) (fun v1 => ?_)
  refine gq_if (fun _ => ?_) (fun _ => ?_)
  · refine gq_R (k := 41) (w := 0) (i := 0) hvx0 rfl (fun _ _ => ⟨_, rfl, rfl⟩) ?_
    refine gq_sa (k := 75) (w := 0) (i := 0) (gv_k0 75 rfl hvx0) rfl (fun _ _ => rfl) ?_
    exact q_X11_send_103 θ Gs U x2 x5 hvx0
  · refine gq_R (k := 41) (w := 0) (i := 0) hvx0 rfl (fun _ _ => ⟨_, rfl, rfl⟩) ?_
    refine gq_R (k := 41) (w := 0) (i := 0) hvx0 rfl (fun _ _ => ⟨_, rfl, rfl⟩) ?_
    refine gq_la (k := 76) (w := 0) (i := 0) (gv_k0 76 rfl hvx0) rfl (fun _ _ => rfl) (fun v2 => ?_)
    refine gq_sa (k := 83) (w := 0) (i := 0) (gv_k0 83 rfl hvx0) rfl (fun _ _ => rfl) ?_
    exact q_X11_send_103 θ Gs U x2 x5 hvx0
set_option maxHeartbeats 4000000 in
set_option maxRecDepth 100000 in
theorem q_X11_send_36 (θ : gT) (Gs U : gK → Nat)    : ∀ (fu : Nat) (x2 : Int32) (x3 : Int32) (x4 : Int32) (x5 : Int32) (x6 : Int32) (hvx0 : gV θ 41 0 0), gSim true θ Gs U (F_X11_send_36 fu (Gs (pk 41 0 0)) x2 x3 x4 x5 x6) (G_X11_send_36 θ fu x2 x3 x4 x5 x6) := by
  intro fu
  induction fu with
  | zero =>
    intro x2 x3 x4 x5 x6 hvx0
    unfold G_X11_send_36
    exact gq_no
  | succ fu ih =>
    intro x2 x3 x4 x5 x6 hvx0
    unfold F_X11_send_36 G_X11_send_36
    refine gq_if (fun _ => ?_) (fun _ => ?_)
    · exact q_X11_send_70 θ Gs U x2 x5 hvx0
    · refine gq_R (k := 41) (w := 0) (i := 0) hvx0 rfl (fun _ _ => ⟨_, rfl, rfl⟩) ?_
      refine gq_R (k := 41) (w := 0) (i := 0) hvx0 rfl (fun _ _ => ⟨_, rfl, rfl⟩) ?_
      refine gq_la (k := 62) (w := 0) (i := 0) (gv_k0 62 rfl hvx0) rfl (fun _ _ => rfl) (fun v1 => ?_)
      refine gq_sa (k := 85) (w := 0) (i := 0) (gv_k0 85 rfl hvx0) rfl (fun _ _ => rfl) ?_
      exact ih  x2 x3 x4 x5 (x6 + (1 : Int32)) hvx0
set_option maxHeartbeats 4000000 in
set_option maxRecDepth 100000 in
theorem q_X11_send (θ : gT) (Gs U : gK → Nat) (x1 : Int32) (x2 : Int32) (x3 : Int32) (x4 : Int32) (hvx0 : gV θ 41 0 0) : gSim true θ Gs U (F_X11_send (Gs (pk 41 0 0)) x1 x2 x3 x4) (G_X11_send θ x1 x2 x3 x4) := by
  unfold F_X11_send G_X11_send
  refine gq_ck (k := 41) (w := 0) (i := 0) hvx0 rfl (fun _ _ => ⟨_, rfl⟩) ?_
  refine gq_R (k := 41) (w := 0) (i := 0) hvx0 rfl (fun _ _ => ⟨_, rfl, rfl⟩) ?_
  refine gq_la (k := 86) (w := 0) (i := 0) (gv_k0 86 rfl hvx0) rfl (fun _ _ => rfl) (fun v1 => ?_)
  refine gq_R (k := 41) (w := 0) (i := 0) hvx0 rfl (fun _ _ => ⟨_, rfl, rfl⟩) ?_
  refine gq_la (k := 86) (w := 0) (i := 0) (gv_k0 86 rfl hvx0) rfl (fun _ _ => rfl) (fun v2 => ?_)
  refine gq_sa (k := 86) (w := 0) (i := 0) (gv_k0 86 rfl hvx0) rfl (fun _ _ => rfl) ?_
  refine gq_R (k := 41) (w := 0) (i := 0) hvx0 rfl (fun _ _ => ⟨_, rfl, rfl⟩) ?_
  refine gq_sa (k := 84) (w := 0) (i := 0) (gv_k0 84 rfl hvx0) rfl (fun _ _ => rfl) ?_
  exact q_X11_send_36 θ Gs U mo_fu x2 x3 x4 (((3000 : Int32) * x1) + v1) (0 : Int32) hvx0
set_option maxHeartbeats 4000000 in
set_option maxRecDepth 100000 in
theorem q_X11_sends_187 (θ : gT) (Gs U : gK → Nat)    (s1 : Int32) (s2 : Int32) (hvs0 : gV θ 61 0 0) : gSim true θ Gs U (F_X11_sends_187 (Gs (pk 61 0 0)) s1 s2) (G_X11_sends_187 θ s1 s2) := by
  unfold F_X11_sends_187 G_X11_sends_187
  refine gq_sa (k := 61) (w := 0) (i := 0) hvs0 rfl (fun _ _ => rfl) ?_
  exact gq_rz
set_option maxHeartbeats 4000000 in
set_option maxRecDepth 100000 in
theorem q_X11_sends_165 (θ : gT) (Gs U : gK → Nat)    (x7 : Int32) (x9 : Int32) (hvx0 : gV θ 41 0 0) : gSim true θ Gs U (F_X11_sends_165 (Gs (pk 41 0 0)) x7 x9) (G_X11_sends_165 θ x7 x9) := by
  unfold F_X11_sends_165 G_X11_sends_165
  refine gq_R (k := 41) (w := 0) (i := 0) hvx0 rfl (fun _ _ => ⟨_, rfl, rfl⟩) ?_
  refine gq_if (fun _ => ?_) (fun _ => ?_)
  · exact q_X11_sends_187 θ Gs U (((8 : Int32) * x7) + (7 : Int32)) (0 : Int32) (gv_k0 61 rfl hvx0)
  · exact q_X11_sends_187 θ Gs U (((8 : Int32) * x7) + (7 : Int32)) (1 : Int32) (gv_k0 61 rfl hvx0)
set_option maxHeartbeats 4000000 in
set_option maxRecDepth 100000 in
theorem q_X11_sends_130 (θ : gT) (Gs U : gK → Nat)    (x1 : Int32) (x5 : Int32) (x6 : Int32) (x7 : Int32) (x8 : Int32) (s0 : Int32) (hvx0 : gV θ 41 0 0) : gSim true θ Gs U (F_X11_sends_130 (Gs (pk 41 0 0)) x1 x5 x6 x7 x8 s0) (G_X11_sends_130 θ x1 x5 x6 x7 x8 s0) := by
  unfold F_X11_sends_130 G_X11_sends_130
  refine gq_if (fun _ => ?_) (fun _ => ?_)
  · exact q_X11_sends_165 θ Gs U x7 s0 hvx0
  · refine gq_R (k := 41) (w := 0) (i := 0) hvx0 rfl (fun _ _ => ⟨_, rfl, rfl⟩) ?_
    refine gq_la (k := 79) (w := 0) (i := 0) (gv_k0 79 rfl hvx0) rfl (fun _ _ => rfl) (fun v1 => ?_)
    refine gq_sa (k := 79) (w := 0) (i := 0) (gv_k0 79 rfl hvx0) rfl (fun _ _ => rfl) ?_
    refine gq_call (q_X11_send θ Gs U x1 x8 (((32 : Int32) * x7) + x5) x6 hvx0) (fun v2 => ?_)
    exact q_X11_sends_165 θ Gs U x7 s0 hvx0
set_option maxHeartbeats 4000000 in
set_option maxRecDepth 100000 in
theorem q_X11_sends_299 (θ : gT) (Gs U : gK → Nat)    (x7 : Int32) (x8 : Int32) (x9 : Int32) (hvx0 : gV θ 41 0 0) : gSim true θ Gs U (F_X11_sends_299 (Gs (pk 41 0 0)) x7 x8 x9) (G_X11_sends_299 θ x7 x8 x9) := by
  unfold F_X11_sends_299 G_X11_sends_299
  refine gq_R (k := 41) (w := 0) (i := 0) hvx0 rfl (fun _ _ => ⟨_, rfl, rfl⟩) ?_
  refine gq_R (k := 41) (w := 0) (i := 0) hvx0 rfl (fun _ _ => ⟨_, rfl, rfl⟩) ?_
  refine gq_la (k := 84) (w := 0) (i := 0) (gv_k0 84 rfl hvx0) rfl (fun _ _ => rfl) (fun v1 => ?_)
  refine gq_sa (k := 61) (w := 0) (i := 0) (gv_k0 61 rfl hvx0) rfl (fun _ _ => rfl) ?_
  refine gq_R (k := 41) (w := 0) (i := 0) hvx0 rfl (fun _ _ => ⟨_, rfl, rfl⟩) ?_
  refine gq_R (k := 41) (w := 0) (i := 0) hvx0 rfl (fun _ _ => ⟨_, rfl, rfl⟩) ?_
  refine gq_la (k := 83) (w := 0) (i := 0) (gv_k0 83 rfl hvx0) rfl (fun _ _ => rfl) (fun v2 => ?_)
  refine gq_sa (k := 72) (w := 0) (i := 0) (gv_k0 72 rfl hvx0) rfl (fun _ _ => rfl) ?_
  refine gq_R (k := 41) (w := 0) (i := 0) hvx0 rfl (fun _ _ => ⟨_, rfl, rfl⟩) ?_
  refine gq_la (k := 74) (w := 0) (i := 0) (gv_k0 74 rfl hvx0) rfl (fun _ _ => rfl) (fun v3 => ?_)
  refine gq_sa (k := 74) (w := 0) (i := 0) (gv_k0 74 rfl hvx0) rfl (fun _ _ => rfl) ?_
  exact gq_rz
set_option maxHeartbeats 4000000 in
set_option maxRecDepth 100000 in
theorem q_X11_sends_253 (θ : gT) (Gs U : gK → Nat)    : ∀ (fu : Nat) (x5 : Int32) (x7 : Int32) (x8 : Int32) (x9 : Int32) (x10 : Int32) (hvx0 : gV θ 41 0 0), gSim true θ Gs U (F_X11_sends_253 fu (Gs (pk 41 0 0)) x5 x7 x8 x9 x10) (G_X11_sends_253 θ fu x5 x7 x8 x9 x10) := by
  intro fu
  induction fu with
  | zero =>
    intro x5 x7 x8 x9 x10 hvx0
    unfold G_X11_sends_253
    exact gq_no
  | succ fu ih =>
    intro x5 x7 x8 x9 x10 hvx0
    unfold F_X11_sends_253 G_X11_sends_253
    refine gq_R (k := 41) (w := 0) (i := 0) hvx0 rfl (fun _ _ => ⟨_, rfl, rfl⟩) ?_
    refine gq_la (k := 84) (w := 0) (i := 0) (gv_k0 84 rfl hvx0) rfl (fun _ _ => rfl) (fun v1 => ?_)
    refine gq_if (fun _ => ?_) (fun _ => ?_)
    · exact q_X11_sends_299 θ Gs U x7 x8 x9 hvx0
    · refine gq_R (k := 41) (w := 0) (i := 0) hvx0 rfl (fun _ _ => ⟨_, rfl, rfl⟩) ?_
      refine gq_R (k := 41) (w := 0) (i := 0) hvx0 rfl (fun _ _ => ⟨_, rfl, rfl⟩) ?_
      refine gq_la (k := 85) (w := 0) (i := 0) (gv_k0 85 rfl hvx0) rfl (fun _ _ => rfl) (fun v2 => ?_)
      refine gq_sa (k := 62) (w := 0) (i := 0) (gv_k0 62 rfl hvx0) rfl (fun _ _ => rfl) ?_
      exact ih  x5 x7 x8 x9 (x10 + (1 : Int32)) hvx0
set_option maxHeartbeats 4000000 in
set_option maxRecDepth 100000 in
theorem q_X11_sends_445 (θ : gT) (Gs U : gK → Nat) (f368 : Nat → Int32 → Int32 → Int32 → Int32 → Int32 → Int32 → Int32 → mo_M Int32) (k368 : Int32 → Int32 → Int32 → Int32 → Int32 → Int32 → Int32 → gM Int32) (hk368 : ∀  (x1 : Int32) (x3 : Int32) (x4 : Int32) (x5 : Int32) (x7 : Int32) (x8 : Int32) (x9 : Int32) (hvx0 : gV θ 41 0 0), gSim true θ Gs U (f368 (Gs (pk 41 0 0)) x1 x3 x4 x5 x7 x8 x9) (k368 x1 x3 x4 x5 x7 x8 x9)) (x1 : Int32) (x3 : Int32) (x4 : Int32) (x5 : Int32) (x7 : Int32) (x8 : Int32) (x9 : Int32) (hvx0 : gV θ 41 0 0) : gSim true θ Gs U (F_X11_sends_445 f368 (Gs (pk 41 0 0)) x1 x3 x4 x5 x7 x8 x9) (G_X11_sends_445 θ k368 x1 x3 x4 x5 x7 x8 x9) := by
  unfold F_X11_sends_445 G_X11_sends_445
  exact hk368  x1 x3 x4 x5 x7 x8 (x9 + (1 : Int32)) hvx0
set_option maxHeartbeats 4000000 in
set_option maxRecDepth 100000 in
theorem q_X11_sends_451 (θ : gT) (Gs U : gK → Nat)    (x1 : Int32) (x3 : Int32) (x7 : Int32) (x8 : Int32) (hvx0 : gV θ 41 0 0) : gSim true θ Gs U (F_X11_sends_451 (Gs (pk 41 0 0)) x1 x3 x7 x8) (G_X11_sends_451 θ x1 x3 x7 x8) := by
  unfold F_X11_sends_451 G_X11_sends_451
  refine gq_if (fun _ => ?_) (fun _ => ?_)
  · refine gq_R (k := 41) (w := 0) (i := 0) hvx0 rfl (fun _ _ => ⟨_, rfl, rfl⟩) ?_
    refine gq_la (k := 81) (w := 0) (i := 0) (gv_k0 81 rfl hvx0) rfl (fun _ _ => rfl) (fun v2 => ?_)
    refine gq_sa (k := 81) (w := 0) (i := 0) (gv_k0 81 rfl hvx0) rfl (fun _ _ => rfl) ?_
    refine gq_R (k := 41) (w := 0) (i := 0) hvx0 rfl (fun _ _ => ⟨_, rfl, rfl⟩) ?_
    refine gq_R (k := 41) (w := 0) (i := 0) hvx0 rfl (fun _ _ => ⟨_, rfl, rfl⟩) ?_
    refine gq_la (k := 87) (w := 0) (i := 0) (gv_k0 87 rfl hvx0) rfl (fun _ _ => rfl) (fun v3 => ?_)
    refine gq_sa (k := 82) (w := 0) (i := 0) (gv_k0 82 rfl hvx0) rfl (fun _ _ => rfl) ?_
    exact gq_rz
  · refine gq_R (k := 41) (w := 0) (i := 0) hvx0 rfl (fun _ _ => ⟨_, rfl, rfl⟩) ?_
    refine gq_call (q_X11_ageOf θ Gs U x1 x8 hvx0) (fun v1 => ?_)
    refine gq_sa (k := 61) (w := 0) (i := 0) (gv_k0 61 rfl hvx0) rfl (fun _ _ => rfl) ?_
    exact gq_rz
set_option maxHeartbeats 4000000 in
set_option maxRecDepth 100000 in
theorem q_X11_sends_368 (θ : gT) (Gs U : gK → Nat)    : ∀ (fu : Nat) (x1 : Int32) (x3 : Int32) (x4 : Int32) (x5 : Int32) (x7 : Int32) (x8 : Int32) (x9 : Int32) (hvx0 : gV θ 41 0 0), gSim true θ Gs U (F_X11_sends_368 fu (Gs (pk 41 0 0)) x1 x3 x4 x5 x7 x8 x9) (G_X11_sends_368 θ fu x1 x3 x4 x5 x7 x8 x9) := by
  intro fu
  induction fu with
  | zero =>
    intro x1 x3 x4 x5 x7 x8 x9 hvx0
    unfold G_X11_sends_368
    exact gq_no
  | succ fu ih =>
    intro x1 x3 x4 x5 x7 x8 x9 hvx0
    unfold F_X11_sends_368 G_X11_sends_368
    refine gq_R (k := 41) (w := 0) (i := 0) hvx0 rfl (fun _ _ => ⟨_, rfl, rfl⟩) ?_
    refine gq_la (k := 48) (w := 0) (i := 0) (gv_k0 48 rfl hvx0) rfl (fun _ _ => rfl) (fun v1 => ?_)
    refine gq_if (fun _ => ?_) (fun _ => ?_)
    · exact q_X11_sends_451 θ Gs U x1 x3 x7 x8 hvx0
    · refine gq_if (fun _ => ?_) (fun _ => ?_)
      · refine gq_R (k := 41) (w := 0) (i := 0) hvx0 rfl (fun _ _ => ⟨_, rfl, rfl⟩) ?_
        refine gq_R (k := 41) (w := 0) (i := 0) hvx0 rfl (fun _ _ => ⟨_, rfl, rfl⟩) ?_
        refine gq_la (k := 62) (w := 0) (i := 0) (gv_k0 62 rfl hvx0) rfl (fun _ _ => rfl) (fun v3 => ?_)
        refine gq_sa (k := 80) (w := 0) (i := 0) (gv_k0 80 rfl hvx0) rfl (fun _ _ => rfl) ?_
        exact q_X11_sends_445 θ Gs U (F_X11_sends_368  fu) (G_X11_sends_368 θ  fu) ih x1 x3 x4 x5 x7 x8 x9 hvx0
      · refine gq_R (k := 41) (w := 0) (i := 0) hvx0 rfl (fun _ _ => ⟨_, rfl, rfl⟩) ?_
        refine gq_R (k := 41) (w := 0) (i := 0) hvx0 rfl (fun _ _ => ⟨_, rfl, rfl⟩) ?_
        refine gq_la (k := 80) (w := 0) (i := 0) (gv_k0 80 rfl hvx0) rfl (fun _ _ => rfl) (fun v2 => ?_)
        refine gq_sa (k := 62) (w := 0) (i := 0) (gv_k0 62 rfl hvx0) rfl (fun _ _ => rfl) ?_
        exact q_X11_sends_445 θ Gs U (F_X11_sends_368  fu) (G_X11_sends_368 θ  fu) ih x1 x3 x4 x5 x7 x8 x9 hvx0
set_option maxHeartbeats 4000000 in
set_option maxRecDepth 100000 in
theorem q_X11_sends_53 (θ : gT) (Gs U : gK → Nat)    (x1 : Int32) (x2 : Int32) (x3 : Int32) (x4 : Int32) (x5 : Int32) (x6 : Int32) (s0 : Int32) (hvx0 : gV θ 41 0 0) : gSim true θ Gs U (F_X11_sends_53 (Gs (pk 41 0 0)) x1 x2 x3 x4 x5 x6 s0) (G_X11_sends_53 θ x1 x2 x3 x4 x5 x6 s0) := by
  unfold F_X11_sends_53 G_X11_sends_53
  refine gq_if (fun _ => ?_) (fun _ => ?_)
  · refine gq_if (fun _ => ?_) (fun _ => ?_)
    · refine gq_if (fun _ => ?_) (fun _ => ?_)
      · exact gq_rz
      · refine gq_if (fun _ => ?_) (fun _ => ?_)
        · exact gq_rz
        · refine gq_call (q_X11_areCells θ Gs U ((x5).toInt64) ((x6).toInt64) ) (fun v7 => ?_)
          refine gq_if (fun _ => ?_) (fun _ => ?_)
          · exact gq_rz
          · refine gq_R (k := 41) (w := 0) (i := 0) hvx0 rfl (fun _ _ => ⟨_, rfl, rfl⟩) ?_
            refine gq_la (k := 79) (w := 0) (i := 0) (gv_k0 79 rfl hvx0) rfl (fun _ _ => rfl) (fun v8 => ?_)
            refine gq_R (k := 41) (w := 0) (i := 0) hvx0 rfl (fun _ _ => ⟨_, rfl, rfl⟩) ?_
            refine gq_la (k := 48) (w := 0) (i := 0) (gv_k0 48 rfl hvx0) rfl (fun _ _ => rfl) (fun v9 => ?_)
            refine gq_if (fun _ => ?_) (fun _ => ?_)
            · exact q_X11_sends_130 θ Gs U x1 x5 x6 (((6 : Int32) * x1) + x2) (((12 : Int32) * x1) + x4) (0 : Int32) hvx0
            · exact q_X11_sends_130 θ Gs U x1 x5 x6 (((6 : Int32) * x1) + x2) (((12 : Int32) * x1) + x4) (1 : Int32) hvx0
    · refine gq_if (fun _ => ?_) (fun _ => ?_)
      · refine gq_R (k := 41) (w := 0) (i := 0) hvx0 rfl (fun _ _ => ⟨_, rfl, rfl⟩) ?_
        refine gq_la (k := 74) (w := 0) (i := 0) (gv_k0 74 rfl hvx0) rfl (fun _ _ => rfl) (fun v3 => ?_)
        refine gq_if (fun _ => ?_) (fun _ => ?_)
        · refine gq_R (k := 41) (w := 0) (i := 0) hvx0 rfl (fun _ _ => ⟨_, rfl, rfl⟩) ?_
          refine gq_sa (k := 61) (w := 0) (i := 0) (gv_k0 61 rfl hvx0) rfl (fun _ _ => rfl) ?_
          exact gq_rz
        · refine gq_R (k := 41) (w := 0) (i := 0) hvx0 rfl (fun _ _ => ⟨_, rfl, rfl⟩) ?_
          refine gq_la (k := 72) (w := 0) (i := 0) (gv_k0 72 rfl hvx0) rfl (fun _ _ => rfl) (fun v4 => ?_)
          refine gq_R (k := 41) (w := 0) (i := 0) hvx0 rfl (fun _ _ => ⟨_, rfl, rfl⟩) ?_
          refine gq_la (k := 84) (w := 0) (i := 0) (gv_k0 84 rfl hvx0) rfl (fun _ _ => rfl) (fun v5 => ?_)
          refine gq_call (q_X11_areCells θ Gs U ((x5).toInt64) ((v5).toInt64) ) (fun v6 => ?_)
          refine gq_if (fun _ => ?_) (fun _ => ?_)
          · exact gq_rz
          · exact q_X11_sends_253 θ Gs U mo_fu x5 (((6 : Int32) * x1) + x2) (((12 : Int32) * x1) + x4) v4 (0 : Int32) hvx0
      · refine gq_R (k := 41) (w := 0) (i := 0) hvx0 rfl (fun _ _ => ⟨_, rfl, rfl⟩) ?_
        refine gq_la (k := 48) (w := 0) (i := 0) (gv_k0 48 rfl hvx0) rfl (fun _ _ => rfl) (fun v1 => ?_)
        refine gq_call (q_X11_areCells θ Gs U ((x5).toInt64) ((v1).toInt64) ) (fun v2 => ?_)
        refine gq_if (fun _ => ?_) (fun _ => ?_)
        · exact gq_rz
        · exact q_X11_sends_368 θ Gs U mo_fu x1 x3 x4 x5 (((6 : Int32) * x1) + x2) (((12 : Int32) * x1) + x4) (0 : Int32) hvx0
  · exact gq_rz
set_option maxHeartbeats 4000000 in
set_option maxRecDepth 100000 in
theorem q_X11_sends_27 (θ : gT) (Gs U : gK → Nat)    (x1 : Int32) (x2 : Int32) (x3 : Int32) (x4 : Int32) (x5 : Int32) (x6 : Int32) (s0 : Int32) (s1 : Int32) (hvx0 : gV θ 41 0 0) : gSim true θ Gs U (F_X11_sends_27 (Gs (pk 41 0 0)) x1 x2 x3 x4 x5 x6 s0 s1) (G_X11_sends_27 θ x1 x2 x3 x4 x5 x6 s0 s1) := by
  unfold F_X11_sends_27 G_X11_sends_27
  refine gq_if (fun _ => ?_) (fun _ => ?_)
  · refine gq_if (fun _ => ?_) (fun _ => ?_)
    · refine gq_R (k := 41) (w := 0) (i := 0) hvx0 rfl (fun _ _ => ⟨_, rfl, rfl⟩) ?_
      refine gq_la (k := 45) (w := 0) (i := 0) (gv_k0 45 rfl hvx0) rfl (fun _ _ => rfl) (fun v2 => ?_)
      exact q_X11_sends_53 θ Gs U x1 x2 x3 x4 x5 x6 v2 hvx0
    · refine gq_R (k := 41) (w := 0) (i := 0) hvx0 rfl (fun _ _ => ⟨_, rfl, rfl⟩) ?_
      refine gq_la (k := 46) (w := 0) (i := 0) (gv_k0 46 rfl hvx0) rfl (fun _ _ => rfl) (fun v1 => ?_)
      exact q_X11_sends_53 θ Gs U x1 x2 x3 x4 x5 x6 v1 hvx0
  · exact gq_rz
set_option maxHeartbeats 4000000 in
set_option maxRecDepth 100000 in
theorem q_X11_sends (θ : gT) (Gs U : gK → Nat) (x1 : Int32) (x2 : Int32) (x3 : Int32) (x4 : Int32) (x5 : Int32) (x6 : Int32) (hvx0 : gV θ 41 0 0) : gSim true θ Gs U (F_X11_sends (Gs (pk 41 0 0)) x1 x2 x3 x4 x5 x6) (G_X11_sends θ x1 x2 x3 x4 x5 x6) := by
  unfold F_X11_sends G_X11_sends
  refine gq_ck (k := 41) (w := 0) (i := 0) hvx0 rfl (fun _ _ => ⟨_, rfl⟩) ?_
  refine gq_I (k := 41) (w := 0) (i := 0) hvx0 rfl (fun _ _ => ⟨_, rfl, rfl⟩) (fun v1 => ?_)
  refine gq_if (fun _ => ?_) (fun _ => ?_)
  · exact gq_rz
  · refine gq_R (k := 41) (w := 0) (i := 0) hvx0 rfl (fun _ _ => ⟨_, rfl, rfl⟩) ?_
    refine gq_la (k := 47) (w := 0) (i := 0) (gv_k0 47 rfl hvx0) rfl (fun _ _ => rfl) (fun v2 => ?_)
    refine gq_if (fun _ => ?_) (fun _ => ?_)
    · exact q_X11_sends_27 θ Gs U x1 x2 x3 x4 x5 x6 v2 (0 : Int32) hvx0
    · exact q_X11_sends_27 θ Gs U x1 x2 x3 x4 x5 x6 v2 (1 : Int32) hvx0
set_option maxHeartbeats 4000000 in
set_option maxRecDepth 100000 in
theorem q_X11_take_63 (θ : gT) (Gs U : gK → Nat)    : ∀ (fu : Nat) (x1 : Int32) (x3 : Int32) (hvx0 : gV θ 41 0 0), gSim true θ Gs U (F_X11_take_63 fu (Gs (pk 41 0 0)) x1 x3) (G_X11_take_63 θ fu x1 x3) := by
  intro fu
  induction fu with
  | zero =>
    intro x1 x3 hvx0
    unfold G_X11_take_63
    exact gq_no
  | succ fu ih =>
    intro x1 x3 hvx0
    unfold F_X11_take_63 G_X11_take_63
    refine gq_R (k := 41) (w := 0) (i := 0) hvx0 rfl (fun _ _ => ⟨_, rfl, rfl⟩) ?_
    refine gq_la (k := 66) (w := 0) (i := 0) (gv_k0 66 rfl hvx0) rfl (fun _ _ => rfl) (fun v1 => ?_)
    refine gq_if (fun _ => ?_) (fun _ => ?_)
    · exact gq_ret
    · refine gq_R (k := 41) (w := 0) (i := 0) hvx0 rfl (fun _ _ => ⟨_, rfl, rfl⟩) ?_
      refine gq_R (k := 41) (w := 0) (i := 0) hvx0 rfl (fun _ _ => ⟨_, rfl, rfl⟩) ?_
      refine gq_la (k := 65) (w := 0) (i := 0) (gv_k0 65 rfl hvx0) rfl (fun _ _ => rfl) (fun v2 => ?_)
      refine gq_sa (k := 65) (w := 0) (i := 0) (gv_k0 65 rfl hvx0) rfl (fun _ _ => rfl) ?_
      exact ih  x1 (x3 + (1 : Int32)) hvx0
set_option maxHeartbeats 4000000 in
set_option maxRecDepth 100000 in
theorem q_X11_take (θ : gT) (Gs U : gK → Nat) (x1 : Int32) (x2 : Int32) (hvx0 : gV θ 41 0 0) : gSim true θ Gs U (F_X11_take (Gs (pk 41 0 0)) x1 x2) (G_X11_take θ x1 x2) := by
  unfold F_X11_take G_X11_take
  refine gq_ck (k := 41) (w := 0) (i := 0) hvx0 rfl (fun _ _ => ⟨_, rfl⟩) ?_
  refine gq_R (k := 41) (w := 0) (i := 0) hvx0 rfl (fun _ _ => ⟨_, rfl, rfl⟩) ?_
  refine gq_la (k := 66) (w := 0) (i := 0) (gv_k0 66 rfl hvx0) rfl (fun _ _ => rfl) (fun v1 => ?_)
  refine gq_if (fun _ => ?_) (fun _ => ?_)
  · refine gq_R (k := 41) (w := 0) (i := 0) hvx0 rfl (fun _ _ => ⟨_, rfl, rfl⟩) ?_
    refine gq_sa (k := 61) (w := 0) (i := 0) (gv_k0 61 rfl hvx0) rfl (fun _ _ => rfl) ?_
    exact gq_ret
  · refine gq_R (k := 41) (w := 0) (i := 0) hvx0 rfl (fun _ _ => ⟨_, rfl, rfl⟩) ?_
    refine gq_R (k := 41) (w := 0) (i := 0) hvx0 rfl (fun _ _ => ⟨_, rfl, rfl⟩) ?_
    refine gq_la (k := 65) (w := 0) (i := 0) (gv_k0 65 rfl hvx0) rfl (fun _ _ => rfl) (fun v2 => ?_)
    refine gq_sa (k := 61) (w := 0) (i := 0) (gv_k0 61 rfl hvx0) rfl (fun _ _ => rfl) ?_
    refine gq_R (k := 41) (w := 0) (i := 0) hvx0 rfl (fun _ _ => ⟨_, rfl, rfl⟩) ?_
    refine gq_sa (k := 61) (w := 0) (i := 0) (gv_k0 61 rfl hvx0) rfl (fun _ _ => rfl) ?_
    refine gq_R (k := 41) (w := 0) (i := 0) hvx0 rfl (fun _ _ => ⟨_, rfl, rfl⟩) ?_
    refine gq_la (k := 66) (w := 0) (i := 0) (gv_k0 66 rfl hvx0) rfl (fun _ _ => rfl) (fun v3 => ?_)
    refine gq_sa (k := 66) (w := 0) (i := 0) (gv_k0 66 rfl hvx0) rfl (fun _ _ => rfl) ?_
    exact q_X11_take_63 θ Gs U mo_fu x1 (0 : Int32) hvx0
set_option maxHeartbeats 4000000 in
set_option maxRecDepth 100000 in
theorem q_X11_does_737 (θ : gT) (Gs U : gK → Nat)    (x4 : Int32) (hvx0 : gV θ 41 0 0) : gSim true θ Gs U (F_X11_does_737 (Gs (pk 41 0 0)) x4) (G_X11_does_737 θ x4) := by
  unfold F_X11_does_737 G_X11_does_737
  refine gq_R (k := 41) (w := 0) (i := 0) hvx0 rfl (fun _ _ => ⟨_, rfl, rfl⟩) ?_
  refine gq_la (k := 63) (w := 0) (i := 0) (gv_k0 63 rfl hvx0) rfl (fun _ _ => rfl) (fun v1 => ?_)
  refine gq_sa (k := 63) (w := 0) (i := 0) (gv_k0 63 rfl hvx0) rfl (fun _ _ => rfl) ?_
  exact gq_rz
set_option maxHeartbeats 4000000 in
set_option maxRecDepth 100000 in
theorem q_X11_does_301 (θ : gT) (Gs U : gK → Nat)    (x4 : Int32) (s1 : Int32) (s2 : Int32) (hvx0 : gV θ 41 0 0) (hvs0 : gV θ 61 0 0) : gSim true θ Gs U (F_X11_does_301 (Gs (pk 41 0 0)) x4 (Gs (pk 61 0 0)) s1 s2) (G_X11_does_301 θ x4 s1 s2) := by
  unfold F_X11_does_301 G_X11_does_301
  refine gq_sa (k := 61) (w := 0) (i := 0) hvs0 rfl (fun _ _ => rfl) ?_
  exact q_X11_does_737 θ Gs U x4 hvx0
set_option maxHeartbeats 4000000 in
set_option maxRecDepth 100000 in
theorem q_X11_does_410 (θ : gT) (Gs U : gK → Nat)    (x4 : Int32) (s1 : Int32) (s2 : Int32) (hvx0 : gV θ 41 0 0) (hvs0 : gV θ 61 0 0) : gSim true θ Gs U (F_X11_does_410 (Gs (pk 41 0 0)) x4 (Gs (pk 61 0 0)) s1 s2) (G_X11_does_410 θ x4 s1 s2) := by
  unfold F_X11_does_410 G_X11_does_410
  refine gq_sa (k := 61) (w := 0) (i := 0) hvs0 rfl (fun _ _ => rfl) ?_
  exact q_X11_does_737 θ Gs U x4 hvx0
set_option maxHeartbeats 4000000 in
set_option maxRecDepth 100000 in
theorem q_X11_does_475 (θ : gT) (Gs U : gK → Nat)    (s1 : Int32) (s2 : Int32) (hvs0 : gV θ 63 0 0) : gSim true θ Gs U (F_X11_does_475 (Gs (pk 63 0 0)) s1 s2) (G_X11_does_475 θ s1 s2) := by
  unfold F_X11_does_475 G_X11_does_475
  refine gq_sa (k := 63) (w := 0) (i := 0) hvs0 rfl (fun _ _ => rfl) ?_
  exact gq_rz
set_option maxHeartbeats 4000000 in
set_option maxRecDepth 100000 in
theorem q_X11_does_458 (θ : gT) (Gs U : gK → Nat)    (x4 : Int32) (x7 : Int32) (s1 : Int32) (s2 : Int32) (s3 : Int32) (hvx0 : gV θ 41 0 0) (hvs0 : gV θ 63 0 0) : gSim true θ Gs U (F_X11_does_458 (Gs (pk 41 0 0)) x4 x7 (Gs (pk 63 0 0)) s1 s2 s3) (G_X11_does_458 θ x4 x7 s1 s2 s3) := by
  unfold F_X11_does_458 G_X11_does_458
  refine gq_if (fun _ => ?_) (fun _ => ?_)
  · exact q_X11_does_475 θ Gs U s1 x7 hvs0
  · refine gq_R (k := 41) (w := 0) (i := 0) hvx0 rfl (fun _ _ => ⟨_, rfl, rfl⟩) ?_
    refine gq_la (k := 63) (w := 0) (i := 0) (gv_k0 63 rfl hvx0) rfl (fun _ _ => rfl) (fun v1 => ?_)
    exact q_X11_does_475 θ Gs U s1 (v1 + (1 : Int32)) hvs0
set_option maxHeartbeats 4000000 in
set_option maxRecDepth 100000 in
theorem q_X11_does_446 (θ : gT) (Gs U : gK → Nat)    (x4 : Int32) (x5 : Int32) (x7 : Int32) (s1 : Int32) (s2 : Int32) (hvx0 : gV θ 41 0 0) (hvs0 : gV θ 63 0 0) : gSim true θ Gs U (F_X11_does_446 (Gs (pk 41 0 0)) x4 x5 x7 (Gs (pk 63 0 0)) s1 s2) (G_X11_does_446 θ x4 x5 x7 s1 s2) := by
  unfold F_X11_does_446 G_X11_does_446
  refine gq_if (fun _ => ?_) (fun _ => ?_)
  · exact q_X11_does_458 θ Gs U x4 x7 s1 s2 (1 : Int32) hvx0 hvs0
  · exact q_X11_does_458 θ Gs U x4 x7 s1 s2 (0 : Int32) hvx0 hvs0
set_option maxHeartbeats 4000000 in
set_option maxRecDepth 100000 in
theorem q_X11_does_138 (θ : gT) (Gs U : gK → Nat)    (x1 : Int32) (x2 : Int32) (x4 : Int32) (x5 : Int32) (x6 : Int32) (x7 : Int32) (x8 : Int32) (x9 : Int32) (x12 : Int32) (x13 : Int32) (hvx0 : gV θ 41 0 0) : gSim true θ Gs U (F_X11_does_138 (Gs (pk 41 0 0)) x1 x2 x4 x5 x6 x7 x8 x9 x12 x13) (G_X11_does_138 θ x1 x2 x4 x5 x6 x7 x8 x9 x12 x13) := by
  unfold F_X11_does_138 G_X11_does_138
  refine gq_if (fun _ => ?_) (fun _ => ?_)
  · refine gq_R (k := 41) (w := 0) (i := 0) hvx0 rfl (fun _ _ => ⟨_, rfl, rfl⟩) ?_
    refine gq_sa (k := 64) (w := 0) (i := 0) (gv_k0 64 rfl hvx0) rfl (fun _ _ => rfl) ?_
    exact gq_rz
  refine gq_if (fun _ => ?_) (fun _ => ?_)
  · refine gq_R (k := 41) (w := 0) (i := 0) hvx0 rfl (fun _ _ => ⟨_, rfl, rfl⟩) ?_
    refine gq_if (fun _ => ?_) (fun _ => ?_)
    · exact q_X11_does_301 θ Gs U x4 x9 (x7 + ((256 : Int32) * x8)) hvx0 (gv_k0 61 rfl hvx0)
    · exact q_X11_does_301 θ Gs U x4 x9 ((x7 + ((256 : Int32) * x8)) - (65536 : Int32)) hvx0 (gv_k0 61 rfl hvx0)
  refine gq_if (fun _ => ?_) (fun _ => ?_)
  · refine gq_R (k := 41) (w := 0) (i := 0) hvx0 rfl (fun _ _ => ⟨_, rfl, rfl⟩) ?_
    refine gq_sa (k := 61) (w := 0) (i := 0) (gv_k0 61 rfl hvx0) rfl (fun _ _ => rfl) ?_
    exact q_X11_does_737 θ Gs U x4 hvx0
  refine gq_if (fun _ => ?_) (fun _ => ?_)
  · refine gq_R (k := 41) (w := 0) (i := 0) hvx0 rfl (fun _ _ => ⟨_, rfl, rfl⟩) ?_
    refine gq_sa (k := 61) (w := 0) (i := 0) (gv_k0 61 rfl hvx0) rfl (fun _ _ => rfl) ?_
    exact q_X11_does_737 θ Gs U x4 hvx0
  refine gq_if (fun _ => ?_) (fun _ => ?_)
  · refine gq_R (k := 41) (w := 0) (i := 0) hvx0 rfl (fun _ _ => ⟨_, rfl, rfl⟩) ?_
    refine gq_sa (k := 61) (w := 0) (i := 0) (gv_k0 61 rfl hvx0) rfl (fun _ _ => rfl) ?_
    exact q_X11_does_737 θ Gs U x4 hvx0
  refine gq_if (fun _ => ?_) (fun _ => ?_)
  · refine gq_R (k := 41) (w := 0) (i := 0) hvx0 rfl (fun _ _ => ⟨_, rfl, rfl⟩) ?_
    refine gq_sa (k := 61) (w := 0) (i := 0) (gv_k0 61 rfl hvx0) rfl (fun _ _ => rfl) ?_
    exact q_X11_does_737 θ Gs U x4 hvx0
  refine gq_if (fun _ => ?_) (fun _ => ?_)
  · refine gq_R (k := 41) (w := 0) (i := 0) hvx0 rfl (fun _ _ => ⟨_, rfl, rfl⟩) ?_
    refine gq_sa (k := 61) (w := 0) (i := 0) (gv_k0 61 rfl hvx0) rfl (fun _ _ => rfl) ?_
    exact q_X11_does_737 θ Gs U x4 hvx0
  refine gq_if (fun _ => ?_) (fun _ => ?_)
  · refine gq_R (k := 41) (w := 0) (i := 0) hvx0 rfl (fun _ _ => ⟨_, rfl, rfl⟩) ?_
    refine gq_sa (k := 61) (w := 0) (i := 0) (gv_k0 61 rfl hvx0) rfl (fun _ _ => rfl) ?_
    exact q_X11_does_737 θ Gs U x4 hvx0
  refine gq_if (fun _ => ?_) (fun _ => ?_)
  · refine gq_R (k := 41) (w := 0) (i := 0) hvx0 rfl (fun _ _ => ⟨_, rfl, rfl⟩) ?_
    refine gq_if (fun _ => ?_) (fun _ => ?_)
    · exact q_X11_does_410 θ Gs U x4 x9 (0 : Int32) hvx0 (gv_k0 61 rfl hvx0)
    · exact q_X11_does_410 θ Gs U x4 x9 (1 : Int32) hvx0 (gv_k0 61 rfl hvx0)
  refine gq_if (fun _ => ?_) (fun _ => ?_)
  · refine gq_R (k := 41) (w := 0) (i := 0) hvx0 rfl (fun _ _ => ⟨_, rfl, rfl⟩) ?_
    refine gq_sa (k := 63) (w := 0) (i := 0) (gv_k0 63 rfl hvx0) rfl (fun _ _ => rfl) ?_
    exact gq_rz
  refine gq_if (fun _ => ?_) (fun _ => ?_)
  · refine gq_R (k := 41) (w := 0) (i := 0) hvx0 rfl (fun _ _ => ⟨_, rfl, rfl⟩) ?_
    refine gq_R (k := 41) (w := 0) (i := 0) hvx0 rfl (fun _ _ => ⟨_, rfl, rfl⟩) ?_
    refine gq_la (k := 61) (w := 0) (i := 0) (gv_k0 61 rfl hvx0) rfl (fun _ _ => rfl) (fun v1 => ?_)
    refine gq_if (fun _ => ?_) (fun _ => ?_)
    · exact q_X11_does_446 θ Gs U x4 x5 x7 x4 (1 : Int32) hvx0 (gv_k0 63 rfl hvx0)
    · exact q_X11_does_446 θ Gs U x4 x5 x7 x4 (0 : Int32) hvx0 (gv_k0 63 rfl hvx0)
  refine gq_if (fun _ => ?_) (fun _ => ?_)
  · refine gq_R (k := 41) (w := 0) (i := 0) hvx0 rfl (fun _ _ => ⟨_, rfl, rfl⟩) ?_
    refine gq_R (k := 41) (w := 0) (i := 0) hvx0 rfl (fun _ _ => ⟨_, rfl, rfl⟩) ?_
    refine gq_la (k := 61) (w := 0) (i := 0) (gv_k0 61 rfl hvx0) rfl (fun _ _ => rfl) (fun v2 => ?_)
    refine gq_if (fun _ => ?_) (fun _ => ?_)
    · exact q_X11_does_446 θ Gs U x4 x5 x7 x4 (1 : Int32) hvx0 (gv_k0 63 rfl hvx0)
    · exact q_X11_does_446 θ Gs U x4 x5 x7 x4 (0 : Int32) hvx0 (gv_k0 63 rfl hvx0)
  refine gq_if (fun _ => ?_) (fun _ => ?_)
  · refine gq_call (q_X11_areCells θ Gs U ((x12).toInt64) (1 : Int64) ) (fun v3 => ?_)
    refine gq_if (fun _ => ?_) (fun _ => ?_)
    · exact gq_rz
    · refine gq_if (fun _ => ?_) (fun _ => ?_)
      · refine gq_R (k := 41) (w := 0) (i := 0) hvx0 rfl (fun _ _ => ⟨_, rfl, rfl⟩) ?_
        refine gq_R (k := 41) (w := 0) (i := 0) hvx0 rfl (fun _ _ => ⟨_, rfl, rfl⟩) ?_
        refine gq_la (k := 62) (w := 0) (i := 0) (gv_k0 62 rfl hvx0) rfl (fun _ _ => rfl) (fun v5 => ?_)
        refine gq_sa (k := 61) (w := 0) (i := 0) (gv_k0 61 rfl hvx0) rfl (fun _ _ => rfl) ?_
        exact q_X11_does_737 θ Gs U x4 hvx0
      · refine gq_R (k := 41) (w := 0) (i := 0) hvx0 rfl (fun _ _ => ⟨_, rfl, rfl⟩) ?_
        refine gq_R (k := 41) (w := 0) (i := 0) hvx0 rfl (fun _ _ => ⟨_, rfl, rfl⟩) ?_
        refine gq_la (k := 61) (w := 0) (i := 0) (gv_k0 61 rfl hvx0) rfl (fun _ _ => rfl) (fun v4 => ?_)
        refine gq_sa (k := 62) (w := 0) (i := 0) (gv_k0 62 rfl hvx0) rfl (fun _ _ => rfl) ?_
        exact q_X11_does_737 θ Gs U x4 hvx0
  refine gq_if (fun _ => ?_) (fun _ => ?_)
  · refine gq_call (q_X11_areCells θ Gs U ((x12).toInt64) (1 : Int64) ) (fun v6 => ?_)
    refine gq_if (fun _ => ?_) (fun _ => ?_)
    · exact gq_rz
    · refine gq_if (fun _ => ?_) (fun _ => ?_)
      · refine gq_R (k := 41) (w := 0) (i := 0) hvx0 rfl (fun _ _ => ⟨_, rfl, rfl⟩) ?_
        refine gq_R (k := 41) (w := 0) (i := 0) hvx0 rfl (fun _ _ => ⟨_, rfl, rfl⟩) ?_
        refine gq_la (k := 62) (w := 0) (i := 0) (gv_k0 62 rfl hvx0) rfl (fun _ _ => rfl) (fun v8 => ?_)
        refine gq_sa (k := 61) (w := 0) (i := 0) (gv_k0 61 rfl hvx0) rfl (fun _ _ => rfl) ?_
        exact q_X11_does_737 θ Gs U x4 hvx0
      · refine gq_R (k := 41) (w := 0) (i := 0) hvx0 rfl (fun _ _ => ⟨_, rfl, rfl⟩) ?_
        refine gq_R (k := 41) (w := 0) (i := 0) hvx0 rfl (fun _ _ => ⟨_, rfl, rfl⟩) ?_
        refine gq_la (k := 61) (w := 0) (i := 0) (gv_k0 61 rfl hvx0) rfl (fun _ _ => rfl) (fun v7 => ?_)
        refine gq_sa (k := 62) (w := 0) (i := 0) (gv_k0 62 rfl hvx0) rfl (fun _ _ => rfl) ?_
        exact q_X11_does_737 θ Gs U x4 hvx0
  refine gq_if (fun _ => ?_) (fun _ => ?_)
  · refine gq_R (k := 41) (w := 0) (i := 0) hvx0 rfl (fun _ _ => ⟨_, rfl, rfl⟩) ?_
    refine gq_la (k := 68) (w := 0) (i := 0) (gv_k0 68 rfl hvx0) rfl (fun _ _ => rfl) (fun v9 => ?_)
    refine gq_if (fun _ => ?_) (fun _ => ?_)
    · exact gq_rz
    · refine gq_R (k := 41) (w := 0) (i := 0) hvx0 rfl (fun _ _ => ⟨_, rfl, rfl⟩) ?_
      refine gq_R (k := 41) (w := 0) (i := 0) hvx0 rfl (fun _ _ => ⟨_, rfl, rfl⟩) ?_
      refine gq_la (k := 68) (w := 0) (i := 0) (gv_k0 68 rfl hvx0) rfl (fun _ _ => rfl) (fun v10 => ?_)
      refine gq_R (k := 41) (w := 0) (i := 0) hvx0 rfl (fun _ _ => ⟨_, rfl, rfl⟩) ?_
      refine gq_la (k := 61) (w := 0) (i := 0) (gv_k0 61 rfl hvx0) rfl (fun _ _ => rfl) (fun v11 => ?_)
      refine gq_sa (k := 67) (w := 0) (i := 0) (gv_k0 67 rfl hvx0) rfl (fun _ _ => rfl) ?_
      refine gq_R (k := 41) (w := 0) (i := 0) hvx0 rfl (fun _ _ => ⟨_, rfl, rfl⟩) ?_
      refine gq_la (k := 68) (w := 0) (i := 0) (gv_k0 68 rfl hvx0) rfl (fun _ _ => rfl) (fun v12 => ?_)
      refine gq_sa (k := 68) (w := 0) (i := 0) (gv_k0 68 rfl hvx0) rfl (fun _ _ => rfl) ?_
      exact q_X11_does_737 θ Gs U x4 hvx0
  refine gq_if (fun _ => ?_) (fun _ => ?_)
  · refine gq_call (q_X11_take θ Gs U x4 x9 hvx0) (fun v13 => ?_)
    exact q_X11_does_737 θ Gs U x4 hvx0
  refine gq_if (fun _ => ?_) (fun _ => ?_)
  · refine gq_R (k := 41) (w := 0) (i := 0) hvx0 rfl (fun _ _ => ⟨_, rfl, rfl⟩) ?_
    refine gq_R (k := 41) (w := 0) (i := 0) hvx0 rfl (fun _ _ => ⟨_, rfl, rfl⟩) ?_
    refine gq_la (k := 87) (w := 0) (i := 0) (gv_k0 87 rfl hvx0) rfl (fun _ _ => rfl) (fun v14 => ?_)
    refine gq_sa (k := 61) (w := 0) (i := 0) (gv_k0 61 rfl hvx0) rfl (fun _ _ => rfl) ?_
    exact q_X11_does_737 θ Gs U x4 hvx0
  refine gq_if (fun _ => ?_) (fun _ => ?_)
  · refine gq_R (k := 41) (w := 0) (i := 0) hvx0 rfl (fun _ _ => ⟨_, rfl, rfl⟩) ?_
    refine gq_sz (k := 93) (w := 0) (i := 0) (gv_k0 93 rfl hvx0) rfl (fun _ _ => rfl) ?_
    exact q_X11_does_737 θ Gs U x4 hvx0
  refine gq_if (fun _ => ?_) (fun _ => ?_)
  · refine gq_call (q_X11_isDomain θ Gs U x7 hvx0) (fun v15 => ?_)
    refine gq_if (fun _ => ?_) (fun _ => ?_)
    · exact gq_rz
    · refine gq_call (q_X11_flowsTo θ Gs U x7 x2 hvx0) (fun v16 => ?_)
      refine gq_if (fun _ => ?_) (fun _ => ?_)
      · exact gq_rz
      · refine gq_call (q_X11_areCells θ Gs U ((x13).toInt64) (1 : Int64) ) (fun v17 => ?_)
        refine gq_if (fun _ => ?_) (fun _ => ?_)
        · exact gq_rz
        · refine gq_R (k := 41) (w := 0) (i := 0) hvx0 rfl (fun _ _ => ⟨_, rfl, rfl⟩) ?_
          refine gq_R (k := 41) (w := 0) (i := 0) hvx0 rfl (fun _ _ => ⟨_, rfl, rfl⟩) ?_
          refine gq_la (k := 62) (w := 0) (i := 0) (gv_k0 62 rfl hvx0) rfl (fun _ _ => rfl) (fun v18 => ?_)
          refine gq_sa (k := 61) (w := 0) (i := 0) (gv_k0 61 rfl hvx0) rfl (fun _ _ => rfl) ?_
          exact q_X11_does_737 θ Gs U x4 hvx0
  refine gq_if (fun _ => ?_) (fun _ => ?_)
  · refine gq_if (fun _ => ?_) (fun _ => ?_)
    · exact gq_rz
    · refine gq_call (q_X11_reigns θ Gs U x2 hvx0) (fun v19 => ?_)
      refine gq_if (fun _ => ?_) (fun _ => ?_)
      · exact gq_rz
      · refine gq_R (k := 41) (w := 0) (i := 0) hvx0 rfl (fun _ _ => ⟨_, rfl, rfl⟩) ?_
        refine gq_sa (k := 91) (w := 0) (i := 0) (gv_k0 91 rfl hvx0) rfl (fun _ _ => rfl) ?_
        exact q_X11_does_737 θ Gs U x4 hvx0
  refine gq_if (fun _ => ?_) (fun _ => ?_)
  · refine gq_R (k := 41) (w := 0) (i := 0) hvx0 rfl (fun _ _ => ⟨_, rfl, rfl⟩) ?_
    refine gq_R (k := 41) (w := 0) (i := 0) hvx0 rfl (fun _ _ => ⟨_, rfl, rfl⟩) ?_
    refine gq_la (k := 90) (w := 0) (i := 0) (gv_k0 90 rfl hvx0) rfl (fun _ _ => rfl) (fun v20 => ?_)
    refine gq_sa (k := 61) (w := 0) (i := 0) (gv_k0 61 rfl hvx0) rfl (fun _ _ => rfl) ?_
    exact q_X11_does_737 θ Gs U x4 hvx0
  exact q_X11_does_737 θ Gs U x4 hvx0
set_option maxHeartbeats 4000000 in
set_option maxRecDepth 100000 in
theorem q_X11_does (θ : gT) (Gs U : gK → Nat) (x1 : Int32) (x2 : Int32) (x3 : Int32) (hvx0 : gV θ 41 0 0) : gSim true θ Gs U (F_X11_does (Gs (pk 41 0 0)) x1 x2 x3) (G_X11_does θ x1 x2 x3) := by
  unfold F_X11_does G_X11_does
  refine gq_ck (k := 41) (w := 0) (i := 0) hvx0 rfl (fun _ _ => ⟨_, rfl⟩) ?_
  refine gq_R (k := 41) (w := 0) (i := 0) hvx0 rfl (fun _ _ => ⟨_, rfl, rfl⟩) ?_
  refine gq_la (k := 61) (w := 0) (i := 0) (gv_k0 61 rfl hvx0) rfl (fun _ _ => rfl) (fun v1 => ?_)
  refine gq_R (k := 41) (w := 0) (i := 0) hvx0 rfl (fun _ _ => ⟨_, rfl, rfl⟩) ?_
  refine gq_la (k := 61) (w := 0) (i := 0) (gv_k0 61 rfl hvx0) rfl (fun _ _ => rfl) (fun v2 => ?_)
  refine gq_if (fun _ => ?_) (fun _ => ?_)
  · exact gq_rz
  · refine gq_if (fun _ => ?_) (fun _ => ?_)
    · exact q_X11_does_138 θ Gs U x1 x2 (((6 : Int32) * x1) + x2) (x3 &&& (255 : Int32)) ((x3 >>> ((8 : Int32) &&& 31)) &&& (255 : Int32)) ((x3 >>> ((16 : Int32) &&& 31)) &&& (255 : Int32)) (((x3).toUInt32 >>> (((24 : Int32)).toUInt32 &&& Int32.toUInt32 31)).toInt32) (((8 : Int32) * (((6 : Int32) * x1) + x2)) + (((x3 >>> ((8 : Int32) &&& 31)) &&& (255 : Int32)) - ((x3 >>> ((8 : Int32) &&& 31)) &&& (255 : Int32)) / (8 : Int32) * (8 : Int32))) v1 v2 hvx0
    · refine gq_if (fun _ => ?_) (fun _ => ?_)
      · exact q_X11_does_138 θ Gs U x1 x2 (((6 : Int32) * x1) + x2) (x3 &&& (255 : Int32)) ((x3 >>> ((8 : Int32) &&& 31)) &&& (255 : Int32)) ((x3 >>> ((16 : Int32) &&& 31)) &&& (255 : Int32)) (((x3).toUInt32 >>> (((24 : Int32)).toUInt32 &&& Int32.toUInt32 31)).toInt32) (((8 : Int32) * (((6 : Int32) * x1) + x2)) + (((x3 >>> ((8 : Int32) &&& 31)) &&& (255 : Int32)) - ((x3 >>> ((8 : Int32) &&& 31)) &&& (255 : Int32)) / (8 : Int32) * (8 : Int32))) v1 v2 hvx0
      · refine gq_call (q_X11_sends θ Gs U x1 x2 (x3 &&& (255 : Int32)) ((x3 >>> ((8 : Int32) &&& 31)) &&& (255 : Int32)) v1 v2 hvx0) (fun v3 => ?_)
        refine gq_if (fun _ => ?_) (fun _ => ?_)
        · exact gq_rz
        · exact q_X11_does_138 θ Gs U x1 x2 (((6 : Int32) * x1) + x2) (x3 &&& (255 : Int32)) ((x3 >>> ((8 : Int32) &&& 31)) &&& (255 : Int32)) ((x3 >>> ((16 : Int32) &&& 31)) &&& (255 : Int32)) (((x3).toUInt32 >>> (((24 : Int32)).toUInt32 &&& Int32.toUInt32 31)).toInt32) (((8 : Int32) * (((6 : Int32) * x1) + x2)) + (((x3 >>> ((8 : Int32) &&& 31)) &&& (255 : Int32)) - ((x3 >>> ((8 : Int32) &&& 31)) &&& (255 : Int32)) / (8 : Int32) * (8 : Int32))) v1 v2 hvx0
