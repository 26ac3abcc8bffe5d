set_option maxHeartbeats 4000000 in
set_option maxRecDepth 100000 in
theorem q_X11_register (θ : gT) (Gs U : gK → Nat) (x1 : Int32) (x2 : Int32) (hvx0 : gV θ 41 0 0) : gSim true θ Gs U (F_X11_register (Gs (pk 41 0 0)) x1 x2) (G_X11_register θ x1 x2) := by
  unfold F_X11_register G_X11_register
  refine gq_ck (k := 41) (w := 0) (i := 0) hvx0 rfl (fun _ _ => ⟨_, rfl⟩) ?_
  refine gq_call (q_X11_isDomain θ Gs U x1 hvx0) (fun v1 => ?_)
  refine gq_if (fun _ => ?_) (fun _ => ?_)
  · exact gq_ret
  · refine gq_if (fun _ => ?_) (fun _ => ?_)
    · exact gq_ret
    · refine gq_if (fun _ => ?_) (fun _ => ?_)
      · exact gq_ret
      · refine gq_R (k := 41) (w := 0) (i := 0) hvx0 rfl (fun _ _ => ⟨_, rfl, rfl⟩) ?_
        refine gq_la (k := 61) (w := 0) (i := 0) (gv_k0 61 rfl hvx0) rfl (fun _ _ => rfl) (fun v2 => ?_)
        exact gq_ret
set_option maxHeartbeats 4000000 in
set_option maxRecDepth 100000 in
theorem q_X11_cell (θ : gT) (Gs U : gK → Nat) (x1 : Int32) (x2 : Int32) (hvx0 : gV θ 41 0 0) : gSim true θ Gs U (F_X11_cell (Gs (pk 41 0 0)) x1 x2) (G_X11_cell θ x1 x2) := by
  unfold F_X11_cell G_X11_cell
  refine gq_ck (k := 41) (w := 0) (i := 0) hvx0 rfl (fun _ _ => ⟨_, rfl⟩) ?_
  refine gq_call (q_X11_isDomain θ Gs U x1 hvx0) (fun v1 => ?_)
  refine gq_if (fun _ => ?_) (fun _ => ?_)
  · exact gq_ret
  · refine gq_if (fun _ => ?_) (fun _ => ?_)
    · exact gq_ret
    · refine gq_if (fun _ => ?_) (fun _ => ?_)
      · exact gq_ret
      · refine gq_R (k := 41) (w := 0) (i := 0) hvx0 rfl (fun _ _ => ⟨_, rfl, rfl⟩) ?_
        refine gq_la (k := 62) (w := 0) (i := 0) (gv_k0 62 rfl hvx0) rfl (fun _ _ => rfl) (fun v2 => ?_)
        exact gq_ret
set_option maxHeartbeats 4000000 in
set_option maxRecDepth 100000 in
theorem q_X11_of (θ : gT) (Gs U : gK → Nat) (x1 : Int32) (x2 : Int32) (hvx0 : gV θ 41 0 0) : gSim true θ Gs U (F_X11_of (Gs (pk 41 0 0)) x1 x2) (G_X11_of θ x1 x2) := by
  unfold F_X11_of G_X11_of
  refine gq_ck (k := 41) (w := 0) (i := 0) hvx0 rfl (fun _ _ => ⟨_, rfl⟩) ?_
  refine gq_call (q_X11_isDomain θ Gs U x1 hvx0) (fun v1 => ?_)
  refine gq_if (fun _ => ?_) (fun _ => ?_)
  · exact gq_ret
  · refine gq_if (fun _ => ?_) (fun _ => ?_)
    · refine gq_R (k := 41) (w := 0) (i := 0) hvx0 rfl (fun _ _ => ⟨_, rfl, rfl⟩) ?_
      refine gq_la (k := 63) (w := 0) (i := 0) (gv_k0 63 rfl hvx0) rfl (fun _ _ => rfl) (fun v2 => ?_)
      exact gq_ret
    refine gq_if (fun _ => ?_) (fun _ => ?_)
    · refine gq_R (k := 41) (w := 0) (i := 0) hvx0 rfl (fun _ _ => ⟨_, rfl, rfl⟩) ?_
      refine gq_la (k := 64) (w := 0) (i := 0) (gv_k0 64 rfl hvx0) rfl (fun _ _ => rfl) (fun v3 => ?_)
      exact gq_ret
    refine gq_if (fun _ => ?_) (fun _ => ?_)
    · refine gq_R (k := 41) (w := 0) (i := 0) hvx0 rfl (fun _ _ => ⟨_, rfl, rfl⟩) ?_
      refine gq_la (k := 66) (w := 0) (i := 0) (gv_k0 66 rfl hvx0) rfl (fun _ _ => rfl) (fun v4 => ?_)
      exact gq_ret
    refine gq_if (fun _ => ?_) (fun _ => ?_)
    · refine gq_R (k := 41) (w := 0) (i := 0) hvx0 rfl (fun _ _ => ⟨_, rfl, rfl⟩) ?_
      refine gq_la (k := 68) (w := 0) (i := 0) (gv_k0 68 rfl hvx0) rfl (fun _ _ => rfl) (fun v5 => ?_)
      exact gq_ret
    refine gq_if (fun _ => ?_) (fun _ => ?_)
    · refine gq_R (k := 41) (w := 0) (i := 0) hvx0 rfl (fun _ _ => ⟨_, rfl, rfl⟩) ?_
      refine gq_la (k := 69) (w := 0) (i := 0) (gv_k0 69 rfl hvx0) rfl (fun _ _ => rfl) (fun v6 => ?_)
      exact gq_ret
    refine gq_if (fun _ => ?_) (fun _ => ?_)
    · refine gq_R (k := 41) (w := 0) (i := 0) hvx0 rfl (fun _ _ => ⟨_, rfl, rfl⟩) ?_
      refine gq_la (k := 70) (w := 0) (i := 0) (gv_k0 70 rfl hvx0) rfl (fun _ _ => rfl) (fun v7 => ?_)
      exact gq_ret
    refine gq_if (fun _ => ?_) (fun _ => ?_)
    · refine gq_R (k := 41) (w := 0) (i := 0) hvx0 rfl (fun _ _ => ⟨_, rfl, rfl⟩) ?_
      refine gq_la (k := 71) (w := 0) (i := 0) (gv_k0 71 rfl hvx0) rfl (fun _ _ => rfl) (fun v8 => ?_)
      exact gq_ret
    refine gq_if (fun _ => ?_) (fun _ => ?_)
    · refine gq_call (q_X11_reigns θ Gs U x1 hvx0) (fun v9 => ?_)
      refine gq_if (fun _ => ?_) (fun _ => ?_)
      · exact gq_ret
      · exact gq_ret
    exact gq_ret
set_option maxHeartbeats 4000000 in
set_option maxRecDepth 100000 in
theorem q_X11_output (θ : gT) (Gs U : gK → Nat) (x1 : Int32) (x2 : Int32) (hvx0 : gV θ 41 0 0) : gSim true θ Gs U (F_X11_output (Gs (pk 41 0 0)) x1 x2) (G_X11_output θ x1 x2) := by
  unfold F_X11_output G_X11_output
  refine gq_ck (k := 41) (w := 0) (i := 0) hvx0 rfl (fun _ _ => ⟨_, rfl⟩) ?_
  refine gq_call (q_X11_isDomain θ Gs U x1 hvx0) (fun v1 => ?_)
  refine gq_if (fun _ => ?_) (fun _ => ?_)
  · exact gq_ret
  · refine gq_if (fun _ => ?_) (fun _ => ?_)
    · exact gq_ret
    · refine gq_R (k := 41) (w := 0) (i := 0) hvx0 rfl (fun _ _ => ⟨_, rfl, rfl⟩) ?_
      refine gq_la (k := 68) (w := 0) (i := 0) (gv_k0 68 rfl hvx0) rfl (fun _ _ => rfl) (fun v2 => ?_)
      refine gq_if (fun _ => ?_) (fun _ => ?_)
      · exact gq_ret
      · refine gq_R (k := 41) (w := 0) (i := 0) hvx0 rfl (fun _ _ => ⟨_, rfl, rfl⟩) ?_
        refine gq_la (k := 67) (w := 0) (i := 0) (gv_k0 67 rfl hvx0) rfl (fun _ _ => rfl) (fun v3 => ?_)
        exact gq_ret
set_option maxHeartbeats 4000000 in
set_option maxRecDepth 100000 in
theorem q_X11_at (θ : gT) (Gs U : gK → Nat) (x1 : Int32) (x2 : Int32) (hvx0 : gV θ 41 0 0) : gSim true θ Gs U (F_X11_at (Gs (pk 41 0 0)) x1 x2) (G_X11_at θ x1 x2) := by
  unfold F_X11_at G_X11_at
  refine gq_ck (k := 41) (w := 0) (i := 0) hvx0 rfl (fun _ _ => ⟨_, rfl⟩) ?_
  refine gq_if (fun _ => ?_) (fun _ => ?_)
  · exact gq_ret
  · refine gq_I (k := 41) (w := 0) (i := 0) hvx0 rfl (fun _ _ => ⟨_, rfl, rfl⟩) (fun v1 => ?_)
    refine gq_if (fun _ => ?_) (fun _ => ?_)
    · refine gq_if (fun _ => ?_) (fun _ => ?_)
      · refine gq_R (k := 41) (w := 0) (i := 0) hvx0 rfl (fun _ _ => ⟨_, rfl, rfl⟩) ?_
        refine gq_la (k := 45) (w := 0) (i := 0) (gv_k0 45 rfl hvx0) rfl (fun _ _ => rfl) (fun v2 => ?_)
        exact gq_ret
      refine gq_if (fun _ => ?_) (fun _ => ?_)
      · refine gq_R (k := 41) (w := 0) (i := 0) hvx0 rfl (fun _ _ => ⟨_, rfl, rfl⟩) ?_
        refine gq_la (k := 46) (w := 0) (i := 0) (gv_k0 46 rfl hvx0) rfl (fun _ _ => rfl) (fun v3 => ?_)
        exact gq_ret
      refine gq_if (fun _ => ?_) (fun _ => ?_)
      · refine gq_R (k := 41) (w := 0) (i := 0) hvx0 rfl (fun _ _ => ⟨_, rfl, rfl⟩) ?_
        refine gq_la (k := 47) (w := 0) (i := 0) (gv_k0 47 rfl hvx0) rfl (fun _ _ => rfl) (fun v4 => ?_)
        refine gq_if (fun _ => ?_) (fun _ => ?_)
        · exact gq_ret
        · exact gq_ret
      refine gq_if (fun _ => ?_) (fun _ => ?_)
      · refine gq_R (k := 41) (w := 0) (i := 0) hvx0 rfl (fun _ _ => ⟨_, rfl, rfl⟩) ?_
        refine gq_la (k := 48) (w := 0) (i := 0) (gv_k0 48 rfl hvx0) rfl (fun _ _ => rfl) (fun v5 => ?_)
        exact gq_ret
      refine gq_if (fun _ => ?_) (fun _ => ?_)
      · refine gq_R (k := 41) (w := 0) (i := 0) hvx0 rfl (fun _ _ => ⟨_, rfl, rfl⟩) ?_
        refine gq_la (k := 74) (w := 0) (i := 0) (gv_k0 74 rfl hvx0) rfl (fun _ _ => rfl) (fun v6 => ?_)
        exact gq_ret
      refine gq_if (fun _ => ?_) (fun _ => ?_)
      · refine gq_R (k := 41) (w := 0) (i := 0) hvx0 rfl (fun _ _ => ⟨_, rfl, rfl⟩) ?_
        refine gq_la (k := 77) (w := 0) (i := 0) (gv_k0 77 rfl hvx0) rfl (fun _ _ => rfl) (fun v7 => ?_)
        exact gq_ret
      refine gq_if (fun _ => ?_) (fun _ => ?_)
      · refine gq_R (k := 41) (w := 0) (i := 0) hvx0 rfl (fun _ _ => ⟨_, rfl, rfl⟩) ?_
        refine gq_la (k := 78) (w := 0) (i := 0) (gv_k0 78 rfl hvx0) rfl (fun _ _ => rfl) (fun v8 => ?_)
        exact gq_ret
      refine gq_if (fun _ => ?_) (fun _ => ?_)
      · refine gq_R (k := 41) (w := 0) (i := 0) hvx0 rfl (fun _ _ => ⟨_, rfl, rfl⟩) ?_
        refine gq_la (k := 81) (w := 0) (i := 0) (gv_k0 81 rfl hvx0) rfl (fun _ _ => rfl) (fun v9 => ?_)
        exact gq_ret
      refine gq_if (fun _ => ?_) (fun _ => ?_)
      · refine gq_R (k := 41) (w := 0) (i := 0) hvx0 rfl (fun _ _ => ⟨_, rfl, rfl⟩) ?_
        refine gq_la (k := 47) (w := 0) (i := 0) (gv_k0 47 rfl hvx0) rfl (fun _ _ => rfl) (fun v10 => ?_)
        refine gq_if (fun _ => ?_) (fun _ => ?_)
        · exact gq_ret
        · refine gq_call (q_X11_ageOf θ Gs U (0 : Int32) x1 hvx0) (fun v11 => ?_)
          exact gq_ret
      exact gq_ret
    · exact gq_ret
set_option maxHeartbeats 4000000 in
set_option maxRecDepth 100000 in
theorem q_X11_told (θ : gT) (Gs U : gK → Nat) (x1 : Int32) (hvx0 : gV θ 41 0 0) : gSim true θ Gs U (F_X11_told (Gs (pk 41 0 0)) x1) (G_X11_told θ x1) := by
  unfold F_X11_told G_X11_told
  refine gq_ck (k := 41) (w := 0) (i := 0) hvx0 rfl (fun _ _ => ⟨_, rfl⟩) ?_
  refine gq_if (fun _ => ?_) (fun _ => ?_)
  · refine gq_R (k := 41) (w := 0) (i := 0) hvx0 rfl (fun _ _ => ⟨_, rfl, rfl⟩) ?_
    refine gq_la (k := 87) (w := 0) (i := 0) (gv_k0 87 rfl hvx0) rfl (fun _ _ => rfl) (fun v1 => ?_)
    exact gq_ret
  refine gq_if (fun _ => ?_) (fun _ => ?_)
  · refine gq_I (k := 41) (w := 0) (i := 0) hvx0 rfl (fun _ _ => ⟨_, rfl, rfl⟩) (fun v2 => ?_)
    exact gq_ret
  refine gq_if (fun _ => ?_) (fun _ => ?_)
  · refine gq_I (k := 41) (w := 0) (i := 0) hvx0 rfl (fun _ _ => ⟨_, rfl, rfl⟩) (fun v3 => ?_)
    refine gq_if (fun _ => ?_) (fun _ => ?_)
    · exact gq_ret
    · refine gq_call (q_X11_slotDomain θ Gs U (0 : Int32) hvx0) (fun v4 => ?_)
      exact gq_ret
  refine gq_if (fun _ => ?_) (fun _ => ?_)
  · refine gq_R (k := 41) (w := 0) (i := 0) hvx0 rfl (fun _ _ => ⟨_, rfl, rfl⟩) ?_
    refine gq_la (k := 89) (w := 0) (i := 0) (gv_k0 89 rfl hvx0) rfl (fun _ _ => rfl) (fun v5 => ?_)
    exact gq_ret
  refine gq_if (fun _ => ?_) (fun _ => ?_)
  · refine gq_R (k := 41) (w := 0) (i := 0) hvx0 rfl (fun _ _ => ⟨_, rfl, rfl⟩) ?_
    refine gq_la (k := 88) (w := 0) (i := 0) (gv_k0 88 rfl hvx0) rfl (fun _ _ => rfl) (fun v6 => ?_)
    exact gq_ret
  refine gq_if (fun _ => ?_) (fun _ => ?_)
  · refine gq_R (k := 41) (w := 0) (i := 0) hvx0 rfl (fun _ _ => ⟨_, rfl, rfl⟩) ?_
    refine gq_la (k := 90) (w := 0) (i := 0) (gv_k0 90 rfl hvx0) rfl (fun _ _ => rfl) (fun v7 => ?_)
    exact gq_ret
  refine gq_if (fun _ => ?_) (fun _ => ?_)
  · refine gq_R (k := 41) (w := 0) (i := 0) hvx0 rfl (fun _ _ => ⟨_, rfl, rfl⟩) ?_
    refine gq_la (k := 91) (w := 0) (i := 0) (gv_k0 91 rfl hvx0) rfl (fun _ _ => rfl) (fun v8 => ?_)
    exact gq_ret
  refine gq_if (fun _ => ?_) (fun _ => ?_)
  · refine gq_I (k := 41) (w := 0) (i := 0) hvx0 rfl (fun _ _ => ⟨_, rfl, rfl⟩) (fun v9 => ?_)
    exact gq_ret
  refine gq_if (fun _ => ?_) (fun _ => ?_)
  · refine gq_I (k := 41) (w := 0) (i := 0) hvx0 rfl (fun _ _ => ⟨_, rfl, rfl⟩) (fun v10 => ?_)
    exact gq_ret
  refine gq_if (fun _ => ?_) (fun _ => ?_)
  · refine gq_I (k := 41) (w := 0) (i := 0) hvx0 rfl (fun _ _ => ⟨_, rfl, rfl⟩) (fun v11 => ?_)
    refine gq_if (fun _ => ?_) (fun _ => ?_)
    · exact gq_ret
    · exact gq_ret
  exact gq_ret
set_option maxHeartbeats 4000000 in
set_option maxRecDepth 100000 in
theorem q_X11_action (θ : gT) (Gs U : gK → Nat) (x1 : Int32) (x2 : Int32) (hvx0 : gV θ 41 0 0) : gSim true θ Gs U (F_X11_action (Gs (pk 41 0 0)) x1 x2) (G_X11_action θ x1 x2) := by
  unfold F_X11_action G_X11_action
  refine gq_ck (k := 41) (w := 0) (i := 0) hvx0 rfl (fun _ _ => ⟨_, rfl⟩) ?_
  refine gq_if (fun _ => ?_) (fun _ => ?_)
  · exact gq_ret
  · refine gq_I (k := 41) (w := 0) (i := 0) hvx0 rfl (fun _ _ => ⟨_, rfl, rfl⟩) (fun v1 => ?_)
    refine gq_if (fun _ => ?_) (fun _ => ?_)
    · refine gq_if (fun _ => ?_) (fun _ => ?_)
      · refine gq_R (k := 41) (w := 0) (i := 0) hvx0 rfl (fun _ _ => ⟨_, rfl, rfl⟩) ?_
        refine gq_la (k := 57) (w := 0) (i := 0) (gv_k0 57 rfl hvx0) rfl (fun _ _ => rfl) (fun v2 => ?_)
        exact gq_ret
      refine gq_if (fun _ => ?_) (fun _ => ?_)
      · refine gq_R (k := 41) (w := 0) (i := 0) hvx0 rfl (fun _ _ => ⟨_, rfl, rfl⟩) ?_
        refine gq_la (k := 58) (w := 0) (i := 0) (gv_k0 58 rfl hvx0) rfl (fun _ _ => rfl) (fun v3 => ?_)
        refine gq_if (fun _ => ?_) (fun _ => ?_)
        · exact gq_ret
        · exact gq_ret
      refine gq_if (fun _ => ?_) (fun _ => ?_)
      · refine gq_R (k := 41) (w := 0) (i := 0) hvx0 rfl (fun _ _ => ⟨_, rfl, rfl⟩) ?_
        refine gq_la (k := 59) (w := 0) (i := 0) (gv_k0 59 rfl hvx0) rfl (fun _ _ => rfl) (fun v4 => ?_)
        exact gq_ret
      refine gq_if (fun _ => ?_) (fun _ => ?_)
      · refine gq_R (k := 41) (w := 0) (i := 0) hvx0 rfl (fun _ _ => ⟨_, rfl, rfl⟩) ?_
        refine gq_la (k := 60) (w := 0) (i := 0) (gv_k0 60 rfl hvx0) rfl (fun _ _ => rfl) (fun v5 => ?_)
        exact gq_ret
      exact gq_ret
    · exact gq_ret
