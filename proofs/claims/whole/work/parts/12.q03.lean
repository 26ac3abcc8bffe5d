set_option maxHeartbeats 4000000 in
set_option maxRecDepth 100000 in
theorem q_X11_step_174 (θ : gT) (Gs U : gK → Nat)      : gSim true θ Gs U (F_X11_step_174) (G_X11_step_174 θ) := by
  unfold F_X11_step_174 G_X11_step_174
  exact gq_ret
set_option maxHeartbeats 4000000 in
set_option maxRecDepth 100000 in
theorem q_X11_step_148 (θ : gT) (Gs U : gK → Nat)    : ∀ (fu : Nat) (x3 : Int32) (x5 : Int32) (hvx0 : gV θ 41 0 0), gSim true θ Gs U (F_X11_step_148 fu (Gs (pk 41 0 0)) x3 x5) (G_X11_step_148 θ fu x3 x5) := by
  intro fu
  induction fu with
  | zero =>
    intro x3 x5 hvx0
    unfold G_X11_step_148
    exact gq_no
  | succ fu ih =>
    intro x3 x5 hvx0
    unfold F_X11_step_148 G_X11_step_148
    refine gq_if (fun _ => ?_) (fun _ => ?_)
    · exact q_X11_step_174 θ Gs U
    · refine gq_R (k := 41) (w := 0) (i := 0) hvx0 rfl (fun _ _ => ⟨_, rfl, rfl⟩) ?_
      refine gq_sa (k := 62) (w := 0) (i := 0) (gv_k0 62 rfl hvx0) rfl (fun _ _ => rfl) ?_
      exact ih  x3 (x5 + (1 : Int32)) hvx0
set_option maxHeartbeats 4000000 in
set_option maxRecDepth 100000 in
theorem q_X11_step_145 (θ : gT) (Gs U : gK → Nat)    (x3 : Int32) (hvx0 : gV θ 41 0 0) : gSim true θ Gs U (F_X11_step_145 (Gs (pk 41 0 0)) x3) (G_X11_step_145 θ x3) := by
  unfold F_X11_step_145 G_X11_step_145
  exact q_X11_step_148 θ Gs U mo_fu x3 (0 : Int32) hvx0
set_option maxHeartbeats 4000000 in
set_option maxRecDepth 100000 in
theorem q_X11_step_119 (θ : gT) (Gs U : gK → Nat)    : ∀ (fu : Nat) (x3 : Int32) (x5 : Int32) (hvx0 : gV θ 41 0 0), gSim true θ Gs U (F_X11_step_119 fu (Gs (pk 41 0 0)) x3 x5) (G_X11_step_119 θ fu x3 x5) := by
  intro fu
  induction fu with
  | zero =>
    intro x3 x5 hvx0
    unfold G_X11_step_119
    exact gq_no
  | succ fu ih =>
    intro x3 x5 hvx0
    unfold F_X11_step_119 G_X11_step_119
    refine gq_if (fun _ => ?_) (fun _ => ?_)
    · exact q_X11_step_145 θ Gs U x3 hvx0
    · refine gq_R (k := 41) (w := 0) (i := 0) hvx0 rfl (fun _ _ => ⟨_, rfl, rfl⟩) ?_
      refine gq_sa (k := 61) (w := 0) (i := 0) (gv_k0 61 rfl hvx0) rfl (fun _ _ => rfl) ?_
      exact ih  x3 (x5 + (1 : Int32)) hvx0
set_option maxHeartbeats 4000000 in
set_option maxRecDepth 100000 in
theorem q_X11_step_62 (θ : gT) (Gs U : gK → Nat)    (x2 : Int32) (x3 : Int32) (s0 : Int32) (hvx0 : gV θ 41 0 0) : gSim true θ Gs U (F_X11_step_62 (Gs (pk 41 0 0)) x2 x3 s0) (G_X11_step_62 θ x2 x3 s0) := by
  unfold F_X11_step_62 G_X11_step_62
  refine gq_if (fun _ => ?_) (fun _ => ?_)
  · refine gq_R (k := 41) (w := 0) (i := 0) hvx0 rfl (fun _ _ => ⟨_, rfl, rfl⟩) ?_
    refine gq_la (k := 69) (w := 0) (i := 0) (gv_k0 69 rfl hvx0) rfl (fun _ _ => rfl) (fun v1 => ?_)
    refine gq_sa (k := 69) (w := 0) (i := 0) (gv_k0 69 rfl hvx0) rfl (fun _ _ => rfl) ?_
    refine gq_R (k := 41) (w := 0) (i := 0) hvx0 rfl (fun _ _ => ⟨_, rfl, rfl⟩) ?_
    refine gq_la (k := 51) (w := 0) (i := 0) (gv_k0 51 rfl hvx0) rfl (fun _ _ => rfl) (fun v2 => ?_)
    refine gq_if (fun _ => ?_) (fun _ => ?_)
    · refine gq_R (k := 41) (w := 0) (i := 0) hvx0 rfl (fun _ _ => ⟨_, rfl, rfl⟩) ?_
      refine gq_sa (k := 64) (w := 0) (i := 0) (gv_k0 64 rfl hvx0) rfl (fun _ _ => rfl) ?_
      exact gq_ret
    · refine gq_R (k := 41) (w := 0) (i := 0) hvx0 rfl (fun _ _ => ⟨_, rfl, rfl⟩) ?_
      refine gq_la (k := 51) (w := 0) (i := 0) (gv_k0 51 rfl hvx0) rfl (fun _ _ => rfl) (fun v3 => ?_)
      refine gq_if (fun _ => ?_) (fun _ => ?_)
      · refine gq_R (k := 41) (w := 0) (i := 0) hvx0 rfl (fun _ _ => ⟨_, rfl, rfl⟩) ?_
        refine gq_sa (k := 63) (w := 0) (i := 0) (gv_k0 63 rfl hvx0) rfl (fun _ _ => rfl) ?_
        exact q_X11_step_119 θ Gs U mo_fu x3 (0 : Int32) hvx0
      · refine gq_R (k := 41) (w := 0) (i := 0) hvx0 rfl (fun _ _ => ⟨_, rfl, rfl⟩) ?_
        refine gq_la (k := 63) (w := 0) (i := 0) (gv_k0 63 rfl hvx0) rfl (fun _ _ => rfl) (fun v4 => ?_)
        refine gq_sa (k := 63) (w := 0) (i := 0) (gv_k0 63 rfl hvx0) rfl (fun _ _ => rfl) ?_
        exact gq_ret
  · exact gq_ret
set_option maxHeartbeats 4000000 in
set_option maxRecDepth 100000 in
theorem q_X11_step_61 (θ : gT) (Gs U : gK → Nat)    (x2 : Int32) (x3 : Int32) (hvx0 : gV θ 41 0 0) : gSim true θ Gs U (F_X11_step_61 (Gs (pk 41 0 0)) x2 x3) (G_X11_step_61 θ x2 x3) := by
  unfold F_X11_step_61 G_X11_step_61
  exact q_X11_step_62 θ Gs U x2 x3 (0 : Int32) hvx0
set_option maxHeartbeats 4000000 in
set_option maxRecDepth 100000 in
theorem q_X11_step (θ : gT) (Gs U : gK → Nat) (x1 : Int32) (x2 : Int32) (hvx0 : gV θ 41 0 0) : gSim true θ Gs U (F_X11_step (Gs (pk 41 0 0)) x1 x2) (G_X11_step θ x1 x2) := by
  unfold F_X11_step G_X11_step
  refine gq_ck (k := 41) (w := 0) (i := 0) hvx0 rfl (fun _ _ => ⟨_, rfl⟩) ?_
  refine gq_R (k := 41) (w := 0) (i := 0) hvx0 rfl (fun _ _ => ⟨_, rfl, rfl⟩) ?_
  refine gq_la (k := 70) (w := 0) (i := 0) (gv_k0 70 rfl hvx0) rfl (fun _ _ => rfl) (fun v1 => ?_)
  refine gq_sa (k := 70) (w := 0) (i := 0) (gv_k0 70 rfl hvx0) rfl (fun _ _ => rfl) ?_
  refine gq_R (k := 41) (w := 0) (i := 0) hvx0 rfl (fun _ _ => ⟨_, rfl, rfl⟩) ?_
  refine gq_la (k := 63) (w := 0) (i := 0) (gv_k0 63 rfl hvx0) rfl (fun _ _ => rfl) (fun v2 => ?_)
  refine gq_R (k := 41) (w := 0) (i := 0) hvx0 rfl (fun _ _ => ⟨_, rfl, rfl⟩) ?_
  refine gq_la (k := 50) (w := 0) (i := 0) (gv_k0 50 rfl hvx0) rfl (fun _ _ => rfl) (fun v3 => ?_)
  refine gq_if (fun _ => ?_) (fun _ => ?_)
  · exact q_X11_step_61 θ Gs U x2 (((6 : Int32) * x1) + x2) hvx0
  · refine gq_R (k := 41) (w := 0) (i := 0) hvx0 rfl (fun _ _ => ⟨_, rfl, rfl⟩) ?_
    refine gq_R (k := 41) (w := 0) (i := 0) hvx0 rfl (fun _ _ => ⟨_, rfl, rfl⟩) ?_
    refine gq_la (k := 63) (w := 0) (i := 0) (gv_k0 63 rfl hvx0) rfl (fun _ _ => rfl) (fun v4 => ?_)
    refine gq_la (k := 49) (w := 0) (i := 0) (gv_k0 49 rfl hvx0) rfl (fun _ _ => rfl) (fun v5 => ?_)
    refine gq_call (q_X11_does θ Gs U x1 x2 v5 hvx0) (fun v6 => ?_)
    refine gq_if (fun _ => ?_) (fun _ => ?_)
    · exact q_X11_step_61 θ Gs U x2 (((6 : Int32) * x1) + x2) hvx0
    · exact q_X11_step_62 θ Gs U x2 (((6 : Int32) * x1) + x2) (1 : Int32) hvx0
set_option maxHeartbeats 4000000 in
set_option maxRecDepth 100000 in
theorem q_X11_pass_142 (θ : gT) (Gs U : gK → Nat)    (x1 : Int32) (hvx0 : gV θ 41 0 0) : gSim true θ Gs U (F_X11_pass_142 (Gs (pk 41 0 0)) x1) (G_X11_pass_142 θ x1) := by
  unfold F_X11_pass_142 G_X11_pass_142
  refine gq_R (k := 41) (w := 0) (i := 0) hvx0 rfl (fun _ _ => ⟨_, rfl, rfl⟩) ?_
  refine gq_R (k := 41) (w := 0) (i := 0) hvx0 rfl (fun _ _ => ⟨_, rfl, rfl⟩) ?_
  refine gq_R (k := 41) (w := 0) (i := 0) hvx0 rfl (fun _ _ => ⟨_, rfl, rfl⟩) ?_
  refine gq_la (k := 88) (w := 0) (i := 0) (gv_k0 88 rfl hvx0) rfl (fun _ _ => rfl) (fun v1 => ?_)
  refine gq_R (k := 41) (w := 0) (i := 0) hvx0 rfl (fun _ _ => ⟨_, rfl, rfl⟩) ?_
  refine gq_la (k := 89) (w := 0) (i := 0) (gv_k0 89 rfl hvx0) rfl (fun _ _ => rfl) (fun v2 => ?_)
  refine gq_la (k := 53) (w := 0) (i := 0) (gv_k0 53 rfl hvx0) rfl (fun _ _ => rfl) (fun v3 => ?_)
  refine gq_sa (k := 90) (w := 0) (i := 0) (gv_k0 90 rfl hvx0) rfl (fun _ _ => rfl) ?_
  refine gq_R (k := 41) (w := 0) (i := 0) hvx0 rfl (fun _ _ => ⟨_, rfl, rfl⟩) ?_
  refine gq_sz (k := 92) (w := 0) (i := 0) (gv_k0 92 rfl hvx0) rfl (fun _ _ => rfl) ?_
  exact gq_ret
set_option maxHeartbeats 4000000 in
set_option maxRecDepth 100000 in
theorem q_X11_pass_134 (θ : gT) (Gs U : gK → Nat)    (x1 : Int32) (s1 : Int32) (s2 : Int32) (hvx0 : gV θ 41 0 0) (hvs0 : gV θ 88 0 0) : gSim true θ Gs U (F_X11_pass_134 (Gs (pk 41 0 0)) x1 (Gs (pk 88 0 0)) s1 s2) (G_X11_pass_134 θ x1 s1 s2) := by
  unfold F_X11_pass_134 G_X11_pass_134
  refine gq_sa (k := 88) (w := 0) (i := 0) hvs0 rfl (fun _ _ => rfl) ?_
  refine gq_R (k := 41) (w := 0) (i := 0) hvx0 rfl (fun _ _ => ⟨_, rfl, rfl⟩) ?_
  refine gq_sa (k := 89) (w := 0) (i := 0) (gv_k0 89 rfl hvx0) rfl (fun _ _ => rfl) ?_
  exact q_X11_pass_142 θ Gs U x1 hvx0
set_option maxHeartbeats 4000000 in
set_option maxRecDepth 100000 in
theorem q_X11_pass_46 (θ : gT) (Gs U : gK → Nat)    (x1 : Int32) (hvx0 : gV θ 41 0 0) : gSim true θ Gs U (F_X11_pass_46 (Gs (pk 41 0 0)) x1) (G_X11_pass_46 θ x1) := by
  unfold F_X11_pass_46 G_X11_pass_46
  refine gq_R (k := 41) (w := 0) (i := 0) hvx0 rfl (fun _ _ => ⟨_, rfl, rfl⟩) ?_
  refine gq_la (k := 87) (w := 0) (i := 0) (gv_k0 87 rfl hvx0) rfl (fun _ _ => rfl) (fun v1 => ?_)
  refine gq_sa (k := 87) (w := 0) (i := 0) (gv_k0 87 rfl hvx0) rfl (fun _ _ => rfl) ?_
  refine gq_R (k := 41) (w := 0) (i := 0) hvx0 rfl (fun _ _ => ⟨_, rfl, rfl⟩) ?_
  refine gq_la (k := 90) (w := 0) (i := 0) (gv_k0 90 rfl hvx0) rfl (fun _ _ => rfl) (fun v2 => ?_)
  refine gq_sa (k := 90) (w := 0) (i := 0) (gv_k0 90 rfl hvx0) rfl (fun _ _ => rfl) ?_
  refine gq_R (k := 41) (w := 0) (i := 0) hvx0 rfl (fun _ _ => ⟨_, rfl, rfl⟩) ?_
  refine gq_la (k := 90) (w := 0) (i := 0) (gv_k0 90 rfl hvx0) rfl (fun _ _ => rfl) (fun v3 => ?_)
  refine gq_if (fun _ => ?_) (fun _ => ?_)
  · refine gq_R (k := 41) (w := 0) (i := 0) hvx0 rfl (fun _ _ => ⟨_, rfl, rfl⟩) ?_
    refine gq_la (k := 89) (w := 0) (i := 0) (gv_k0 89 rfl hvx0) rfl (fun _ _ => rfl) (fun v4 => ?_)
    refine gq_sa (k := 89) (w := 0) (i := 0) (gv_k0 89 rfl hvx0) rfl (fun _ _ => rfl) ?_
    refine gq_R (k := 41) (w := 0) (i := 0) hvx0 rfl (fun _ _ => ⟨_, rfl, rfl⟩) ?_
    refine gq_la (k := 89) (w := 0) (i := 0) (gv_k0 89 rfl hvx0) rfl (fun _ _ => rfl) (fun v5 => ?_)
    refine gq_R (k := 41) (w := 0) (i := 0) hvx0 rfl (fun _ _ => ⟨_, rfl, rfl⟩) ?_
    refine gq_R (k := 41) (w := 0) (i := 0) hvx0 rfl (fun _ _ => ⟨_, rfl, rfl⟩) ?_
    refine gq_la (k := 88) (w := 0) (i := 0) (gv_k0 88 rfl hvx0) rfl (fun _ _ => rfl) (fun v6 => ?_)
    refine gq_la (k := 54) (w := 0) (i := 0) (gv_k0 54 rfl hvx0) rfl (fun _ _ => rfl) (fun v7 => ?_)
    refine gq_if (fun _ => ?_) (fun _ => ?_)
    · refine gq_R (k := 41) (w := 0) (i := 0) hvx0 rfl (fun _ _ => ⟨_, rfl, rfl⟩) ?_
      refine gq_R (k := 41) (w := 0) (i := 0) hvx0 rfl (fun _ _ => ⟨_, rfl, rfl⟩) ?_
      refine gq_R (k := 41) (w := 0) (i := 0) hvx0 rfl (fun _ _ => ⟨_, rfl, rfl⟩) ?_
      refine gq_la (k := 91) (w := 0) (i := 0) (gv_k0 91 rfl hvx0) rfl (fun _ _ => rfl) (fun v8 => ?_)
      refine gq_la (k := 54) (w := 0) (i := 0) (gv_k0 54 rfl hvx0) rfl (fun _ _ => rfl) (fun v9 => ?_)
      refine gq_if (fun _ => ?_) (fun _ => ?_)
      · exact q_X11_pass_134 θ Gs U x1 x1 (0 : Int32) hvx0 (gv_k0 88 rfl hvx0)
      · refine gq_R (k := 41) (w := 0) (i := 0) hvx0 rfl (fun _ _ => ⟨_, rfl, rfl⟩) ?_
        refine gq_la (k := 91) (w := 0) (i := 0) (gv_k0 91 rfl hvx0) rfl (fun _ _ => rfl) (fun v10 => ?_)
        exact q_X11_pass_134 θ Gs U x1 x1 v10 hvx0 (gv_k0 88 rfl hvx0)
    · exact q_X11_pass_142 θ Gs U x1 hvx0
  · exact gq_ret
set_option maxHeartbeats 4000000 in
set_option maxRecDepth 100000 in
theorem q_X11_pass_21 (θ : gT) (Gs U : gK → Nat)    (x1 : Int32) (x2 : Int32) (x3 : Int32) (hvx0 : gV θ 41 0 0) : gSim true θ Gs U (F_X11_pass_21 (Gs (pk 41 0 0)) x1 x2 x3) (G_X11_pass_21 θ x1 x2 x3) := by
  unfold F_X11_pass_21 G_X11_pass_21
  refine gq_R (k := 41) (w := 0) (i := 0) hvx0 rfl (fun _ _ => ⟨_, rfl, rfl⟩) ?_
  refine gq_la (k := 71) (w := 0) (i := 0) (gv_k0 71 rfl hvx0) rfl (fun _ _ => rfl) (fun v1 => ?_)
  refine gq_sa (k := 71) (w := 0) (i := 0) (gv_k0 71 rfl hvx0) rfl (fun _ _ => rfl) ?_
  refine gq_if (fun _ => ?_) (fun _ => ?_)
  · exact q_X11_pass_46 θ Gs U x1 hvx0
  · refine gq_call (q_X11_step θ Gs U x1 x3 hvx0) (fun v2 => ?_)
    exact q_X11_pass_46 θ Gs U x1 hvx0
set_option maxHeartbeats 4000000 in
set_option maxRecDepth 100000 in
theorem q_X11_pass (θ : gT) (Gs U : gK → Nat) (x1 : Int32) (x2 : Int32) (hvx0 : gV θ 41 0 0) : gSim true θ Gs U (F_X11_pass (Gs (pk 41 0 0)) x1 x2) (G_X11_pass θ x1 x2) := by
  unfold F_X11_pass G_X11_pass
  refine gq_ck (k := 41) (w := 0) (i := 0) hvx0 rfl (fun _ _ => ⟨_, rfl⟩) ?_
  refine gq_call (q_X11_slotDomain θ Gs U x1 hvx0) (fun v1 => ?_)
  refine gq_R (k := 41) (w := 0) (i := 0) hvx0 rfl (fun _ _ => ⟨_, rfl, rfl⟩) ?_
  refine gq_la (k := 92) (w := 0) (i := 0) (gv_k0 92 rfl hvx0) rfl (fun _ _ => rfl) (fun v2 => ?_)
  refine gq_if (fun _ => ?_) (fun _ => ?_)
  · exact q_X11_pass_21 θ Gs U x1 x2 v1 hvx0
  · refine gq_call (q_X11_beginSlot θ Gs U x1 v1 hvx0) (fun v3 => ?_)
    exact q_X11_pass_21 θ Gs U x1 x2 v1 hvx0
set_option maxHeartbeats 4000000 in
set_option maxRecDepth 100000 in
theorem q_X11_instructionAt (θ : gT) (Gs U : gK → Nat) (x1 : Int32) (x2 : Int32) (hvx0 : gV θ 41 0 0) : gSim true θ Gs U (F_X11_instructionAt (Gs (pk 41 0 0)) x1 x2) (G_X11_instructionAt θ x1 x2) := by
  unfold F_X11_instructionAt G_X11_instructionAt
  refine gq_ck (k := 41) (w := 0) (i := 0) hvx0 rfl (fun _ _ => ⟨_, rfl⟩) ?_
  refine gq_R (k := 41) (w := 0) (i := 0) hvx0 rfl (fun _ _ => ⟨_, rfl, rfl⟩) ?_
  refine gq_la (k := 63) (w := 0) (i := 0) (gv_k0 63 rfl hvx0) rfl (fun _ _ => rfl) (fun v1 => ?_)
  refine gq_R (k := 41) (w := 0) (i := 0) hvx0 rfl (fun _ _ => ⟨_, rfl, rfl⟩) ?_
  refine gq_la (k := 50) (w := 0) (i := 0) (gv_k0 50 rfl hvx0) rfl (fun _ _ => rfl) (fun v2 => ?_)
  refine gq_if (fun _ => ?_) (fun _ => ?_)
  · exact gq_ret
  · refine gq_R (k := 41) (w := 0) (i := 0) hvx0 rfl (fun _ _ => ⟨_, rfl, rfl⟩) ?_
    refine gq_la (k := 49) (w := 0) (i := 0) (gv_k0 49 rfl hvx0) rfl (fun _ _ => rfl) (fun v3 => ?_)
    exact gq_ret
set_option maxHeartbeats 4000000 in
set_option maxRecDepth 100000 in
theorem q_X11_note (θ : gT) (Gs U : gK → Nat) (x1 : Int32) (x2 : Int32) (x3 : Int32) (hvx0 : gV θ 41 0 0) : gSim true θ Gs U (F_X11_note (Gs (pk 41 0 0)) x1 x2 x3) (G_X11_note θ x1 x2 x3) := by
  unfold F_X11_note G_X11_note
  refine gq_ck (k := 41) (w := 0) (i := 0) hvx0 rfl (fun _ _ => ⟨_, rfl⟩) ?_
  refine gq_R (k := 41) (w := 0) (i := 0) hvx0 rfl (fun _ _ => ⟨_, rfl, rfl⟩) ?_
  refine gq_I (k := 41) (w := 0) (i := 0) hvx0 rfl (fun _ _ => ⟨_, rfl, rfl⟩) (fun v1 => ?_)
  refine gq_sa (k := 57) (w := 0) (i := 0) (gv_k0 57 rfl hvx0) rfl (fun _ _ => rfl) ?_
  refine gq_R (k := 41) (w := 0) (i := 0) hvx0 rfl (fun _ _ => ⟨_, rfl, rfl⟩) ?_
  refine gq_I (k := 41) (w := 0) (i := 0) hvx0 rfl (fun _ _ => ⟨_, rfl, rfl⟩) (fun v2 => ?_)
  refine gq_sz (k := 58) (w := 0) (i := 0) (gv_k0 58 rfl hvx0) rfl (fun _ _ => rfl) ?_
  refine gq_R (k := 41) (w := 0) (i := 0) hvx0 rfl (fun _ _ => ⟨_, rfl, rfl⟩) ?_
  refine gq_I (k := 41) (w := 0) (i := 0) hvx0 rfl (fun _ _ => ⟨_, rfl, rfl⟩) (fun v3 => ?_)
  refine gq_R (k := 41) (w := 0) (i := 0) hvx0 rfl (fun _ _ => ⟨_, rfl, rfl⟩) ?_
  refine gq_la (k := 87) (w := 0) (i := 0) (gv_k0 87 rfl hvx0) rfl (fun _ _ => rfl) (fun v4 => ?_)
  refine gq_sa (k := 59) (w := 0) (i := 0) (gv_k0 59 rfl hvx0) rfl (fun _ _ => rfl) ?_
  refine gq_R (k := 41) (w := 0) (i := 0) hvx0 rfl (fun _ _ => ⟨_, rfl, rfl⟩) ?_
  refine gq_I (k := 41) (w := 0) (i := 0) hvx0 rfl (fun _ _ => ⟨_, rfl, rfl⟩) (fun v5 => ?_)
  refine gq_sa (k := 60) (w := 0) (i := 0) (gv_k0 60 rfl hvx0) rfl (fun _ _ => rfl) ?_
  refine gq_I (k := 41) (w := 0) (i := 0) hvx0 rfl (fun _ _ => ⟨_, rfl, rfl⟩) (fun v6 => ?_)
  refine gq_p (k := 41) (w := 0) (i := 0) hvx0 rfl (fun _ _ => ⟨_, rfl, by simp, rfl⟩) ?_
  exact gq_ret
set_option maxHeartbeats 4000000 in
set_option maxRecDepth 100000 in
theorem q_X11_give (θ : gT) (Gs U : gK → Nat) (x1 : Int32) (x2 : Int32) (x3 : Int32) (hvx0 : gV θ 41 0 0) : gSim true θ Gs U (F_X11_give (Gs (pk 41 0 0)) x1 x2 x3) (G_X11_give θ x1 x2 x3) := by
  unfold F_X11_give G_X11_give
  refine gq_ck (k := 41) (w := 0) (i := 0) hvx0 rfl (fun _ _ => ⟨_, rfl⟩) ?_
  refine gq_R (k := 41) (w := 0) (i := 0) hvx0 rfl (fun _ _ => ⟨_, rfl, rfl⟩) ?_
  refine gq_R (k := 41) (w := 0) (i := 0) hvx0 rfl (fun _ _ => ⟨_, rfl, rfl⟩) ?_
  refine gq_la (k := 66) (w := 0) (i := 0) (gv_k0 66 rfl hvx0) rfl (fun _ _ => rfl) (fun v1 => ?_)
  refine gq_sa (k := 65) (w := 0) (i := 0) (gv_k0 65 rfl hvx0) rfl (fun _ _ => rfl) ?_
  refine gq_R (k := 41) (w := 0) (i := 0) hvx0 rfl (fun _ _ => ⟨_, rfl, rfl⟩) ?_
  refine gq_la (k := 66) (w := 0) (i := 0) (gv_k0 66 rfl hvx0) rfl (fun _ _ => rfl) (fun v2 => ?_)
  refine gq_sa (k := 66) (w := 0) (i := 0) (gv_k0 66 rfl hvx0) rfl (fun _ _ => rfl) ?_
  exact gq_ret
set_option maxHeartbeats 4000000 in
set_option maxRecDepth 100000 in
theorem q_X11_input (θ : gT) (Gs U : gK → Nat) (x1 : Int32) (x2 : Int32) (hvx0 : gV θ 41 0 0) : gSim true θ Gs U (F_X11_input (Gs (pk 41 0 0)) x1 x2) (G_X11_input θ x1 x2) := by
  unfold F_X11_input G_X11_input
  refine gq_ck (k := 41) (w := 0) (i := 0) hvx0 rfl (fun _ _ => ⟨_, rfl⟩) ?_
  refine gq_I (k := 41) (w := 0) (i := 0) hvx0 rfl (fun _ _ => ⟨_, rfl, rfl⟩) (fun v1 => ?_)
  refine gq_if (fun _ => ?_) (fun _ => ?_)
  · exact gq_ret
  · refine gq_call (q_X11_isDomain θ Gs U x1 hvx0) (fun v2 => ?_)
    refine gq_if (fun _ => ?_) (fun _ => ?_)
    · exact gq_ret
    · refine gq_R (k := 41) (w := 0) (i := 0) hvx0 rfl (fun _ _ => ⟨_, rfl, rfl⟩) ?_
      refine gq_la (k := 66) (w := 0) (i := 0) (gv_k0 66 rfl hvx0) rfl (fun _ _ => rfl) (fun v3 => ?_)
      refine gq_if (fun _ => ?_) (fun _ => ?_)
      · exact gq_ret
      · refine gq_I (k := 41) (w := 0) (i := 0) hvx0 rfl (fun _ _ => ⟨_, rfl, rfl⟩) (fun v4 => ?_)
        refine gq_if (fun _ => ?_) (fun _ => ?_)
        · exact gq_ret
        · refine gq_call (q_X11_note θ Gs U x1 (1 : Int32) x2 hvx0) (fun v5 => ?_)
          refine gq_call (q_X11_give θ Gs U (0 : Int32) x1 x2 hvx0) (fun v6 => ?_)
          refine gq_R (k := 41) (w := 0) (i := 0) hvx0 rfl (fun _ _ => ⟨_, rfl, rfl⟩) ?_
          refine gq_la (k := 66) (w := 0) (i := 0) (gv_k0 66 rfl hvx0) rfl (fun _ _ => rfl) (fun v7 => ?_)
          exact gq_ret
set_option maxHeartbeats 4000000 in
set_option maxRecDepth 100000 in
theorem q_X11_tick_83 (θ : gT) (Gs U : gK → Nat) (f25 : Nat → Int32 → Int32 → Int32 → mo_M Int32) (k25 : Int32 → Int32 → Int32 → gM Int32) (hk25 : ∀  (x1 : Int32) (x2 : Int32) (x3 : Int32) (hvx0 : gV θ 41 0 0), gSim true θ Gs U (f25 (Gs (pk 41 0 0)) x1 x2 x3) (k25 x1 x2 x3)) (x1 : Int32) (x2 : Int32) (x3 : Int32) (x4 : Int32) (hvx0 : gV θ 41 0 0) : gSim true θ Gs U (F_X11_tick_83 f25 (Gs (pk 41 0 0)) x1 x2 x3 x4) (G_X11_tick_83 θ k25 x1 x2 x3 x4) := by
  unfold F_X11_tick_83 G_X11_tick_83
  refine gq_call (q_X11_pass θ Gs U (0 : Int32) x4 hvx0) (fun v1 => ?_)
  exact hk25  x1 x2 (x3 + (1 : Int32)) hvx0
set_option maxHeartbeats 4000000 in
set_option maxRecDepth 100000 in
theorem q_X11_tick_54 (θ : gT) (Gs U : gK → Nat) (f25 : Nat → Int32 → Int32 → Int32 → mo_M Int32) (k25 : Int32 → Int32 → Int32 → gM Int32) (hk25 : ∀  (x1 : Int32) (x2 : Int32) (x3 : Int32) (hvx0 : gV θ 41 0 0), gSim true θ Gs U (f25 (Gs (pk 41 0 0)) x1 x2 x3) (k25 x1 x2 x3)) (x1 : Int32) (x2 : Int32) (x3 : Int32) (x4 : Int32) (hvx0 : gV θ 41 0 0) : gSim true θ Gs U (F_X11_tick_54 f25 (Gs (pk 41 0 0)) x1 x2 x3 x4) (G_X11_tick_54 θ k25 x1 x2 x3 x4) := by
  unfold F_X11_tick_54 G_X11_tick_54
  refine gq_if (fun _ => ?_) (fun _ => ?_)
  · exact q_X11_tick_83 θ Gs U f25 k25 hk25 x1 x2 x3 x4 hvx0
  · refine gq_call (q_X11_slotDomain θ Gs U (0 : Int32) hvx0) (fun v1 => ?_)
    refine gq_call (q_X11_instructionAt θ Gs U (0 : Int32) v1 hvx0) (fun v2 => ?_)
    refine gq_call (q_X11_note θ Gs U v1 (0 : Int32) v2 hvx0) (fun v3 => ?_)
    exact q_X11_tick_83 θ Gs U f25 k25 hk25 x1 (x2 + (1 : Int32)) x3 x4 hvx0
set_option maxHeartbeats 4000000 in
set_option maxRecDepth 100000 in
theorem q_X11_tick_25 (θ : gT) (Gs U : gK → Nat)    : ∀ (fu : Nat) (x1 : Int32) (x2 : Int32) (x3 : Int32) (hvx0 : gV θ 41 0 0), gSim true θ Gs U (F_X11_tick_25 fu (Gs (pk 41 0 0)) x1 x2 x3) (G_X11_tick_25 θ fu x1 x2 x3) := by
  intro fu
  induction fu with
  | zero =>
    intro x1 x2 x3 hvx0
    unfold G_X11_tick_25
    exact gq_no
  | succ fu ih =>
    intro x1 x2 x3 hvx0
    unfold F_X11_tick_25 G_X11_tick_25
    refine gq_if (fun _ => ?_) (fun _ => ?_)
    · exact gq_ret
    · refine gq_call (q_X11_isReady θ Gs U (0 : Int32) hvx0) (fun v1 => ?_)
      refine gq_if (fun _ => ?_) (fun _ => ?_)
      · exact q_X11_tick_54 θ Gs U (F_X11_tick_25  fu) (G_X11_tick_25 θ  fu) ih x1 x2 x3 v1 hvx0
      · refine gq_I (k := 41) (w := 0) (i := 0) hvx0 rfl (fun _ _ => ⟨_, rfl, rfl⟩) (fun v2 => ?_)
        refine gq_if (fun _ => ?_) (fun _ => ?_)
        · exact gq_ret
        · exact q_X11_tick_54 θ Gs U (F_X11_tick_25  fu) (G_X11_tick_25 θ  fu) ih x1 x2 x3 v1 hvx0
set_option maxHeartbeats 4000000 in
set_option maxRecDepth 100000 in
theorem q_X11_tick (θ : gT) (Gs U : gK → Nat) (x1 : Int32) (hvx0 : gV θ 41 0 0) : gSim true θ Gs U (F_X11_tick (Gs (pk 41 0 0)) x1) (G_X11_tick θ x1) := by
  unfold F_X11_tick G_X11_tick
  refine gq_ck (k := 41) (w := 0) (i := 0) hvx0 rfl (fun _ _ => ⟨_, rfl⟩) ?_
  refine gq_I (k := 41) (w := 0) (i := 0) hvx0 rfl (fun _ _ => ⟨_, rfl, rfl⟩) (fun v1 => ?_)
  refine gq_if (fun _ => ?_) (fun _ => ?_)
  · exact gq_ret
  · refine gq_if (fun _ => ?_) (fun _ => ?_)
    · exact gq_ret
    · refine gq_if (fun _ => ?_) (fun _ => ?_)
      · exact q_X11_tick_25 θ Gs U mo_fu x1 (0 : Int32) (0 : Int32) hvx0
      · exact gq_ret
set_option maxHeartbeats 4000000 in
set_option maxRecDepth 100000 in
theorem q_X11_choose_29 (θ : gT) (Gs U : gK → Nat) (f8 : Nat → Int32 → Nat → Nat → Int32 → mo_M Int32) (k8 : Int32 → Nat → Nat → Nat → Int32 → gM Int32) (hk8 : ∀  (x1 : Int32) (kx2 : Nat) (wx2 : Nat) (ix2 : Nat) (x4 : Int32) (hvx0 : gV θ 41 0 0) (hvx2 : gV θ kx2 wx2 ix2) (hkx2 : gBzK kx2) (hvx3 : gV θ 97 0 0), gSim true θ Gs U (f8 (Gs (pk 41 0 0)) x1 (Gs (pk kx2 wx2 ix2)) (Gs (pk 97 0 0)) x4) (k8 x1 kx2 wx2 ix2 x4)) (x1 : Int32) (kx2 : Nat) (wx2 : Nat) (ix2 : Nat) (x4 : Int32) (s1 : Int32) (s2 : Int32) (hvx0 : gV θ 41 0 0) (hvx2 : gV θ kx2 wx2 ix2) (hkx2 : gBzK kx2) (hvx3 : gV θ 97 0 0) (hvs0 : gV θ 97 0 0) : gSim true θ Gs U (F_X11_choose_29 f8 (Gs (pk 41 0 0)) x1 (Gs (pk kx2 wx2 ix2)) (Gs (pk 97 0 0)) x4 (Gs (pk 97 0 0)) s1 s2) (G_X11_choose_29 θ k8 x1 kx2 wx2 ix2 x4 s1 s2) := by
  unfold F_X11_choose_29 G_X11_choose_29
  refine gq_sz (k := 97) (w := 0) (i := 0) hvs0 rfl (fun _ _ => rfl) ?_
  exact hk8  x1 kx2 wx2 ix2 (x4 + (1 : Int32)) hvx0 hvx2 hkx2 hvx3
set_option maxHeartbeats 4000000 in
set_option maxRecDepth 100000 in
theorem q_X11_choose_104 (θ : gT) (Gs U : gK → Nat) (f47 : Nat → Nat → Nat → Int32 → Int32 → mo_M Int32) (f67 : Nat → Nat → Nat → Int32 → Int32 → Int32 → Int32 → Int32 → mo_M Int32) (k47 : Nat → Nat → Nat → Int32 → Int32 → gM Int32) (k67 : Nat → Nat → Nat → Int32 → Int32 → Int32 → Int32 → Int32 → gM Int32) (hk47 : ∀  (kx2 : Nat) (wx2 : Nat) (ix2 : Nat) (x4 : Int32) (x5 : Int32) (hvx0 : gV θ 41 0 0) (hvx2 : gV θ kx2 wx2 ix2) (hkx2 : gBzK kx2) (hvx3 : gV θ 97 0 0), gSim true θ Gs U (f47 (Gs (pk 41 0 0)) (Gs (pk kx2 wx2 ix2)) (Gs (pk 97 0 0)) x4 x5) (k47 kx2 wx2 ix2 x4 x5)) (hk67 : ∀  (kx2 : Nat) (wx2 : Nat) (ix2 : Nat) (x4 : Int32) (x5 : Int32) (x6 : Int32) (x7 : Int32) (x8 : Int32) (hvx0 : gV θ 41 0 0) (hvx2 : gV θ kx2 wx2 ix2) (hkx2 : gBzK kx2) (hvx3 : gV θ 97 0 0), gSim true θ Gs U (f67 (Gs (pk 41 0 0)) (Gs (pk kx2 wx2 ix2)) (Gs (pk 97 0 0)) x4 x5 x6 x7 x8) (k67 kx2 wx2 ix2 x4 x5 x6 x7 x8)) (kx2 : Nat) (wx2 : Nat) (ix2 : Nat) (x4 : Int32) (x5 : Int32) (x6 : Int32) (x8 : Int32) (s0 : Int32) (hvx0 : gV θ 41 0 0) (hvx2 : gV θ kx2 wx2 ix2) (hkx2 : gBzK kx2) (hvx3 : gV θ 97 0 0) : gSim true θ Gs U (F_X11_choose_104 f47 f67 (Gs (pk 41 0 0)) (Gs (pk kx2 wx2 ix2)) (Gs (pk 97 0 0)) x4 x5 x6 x8 s0) (G_X11_choose_104 θ k47 k67 kx2 wx2 ix2 x4 x5 x6 x8 s0) := by
  unfold F_X11_choose_104 G_X11_choose_104
  exact hk67  kx2 wx2 ix2 x4 x5 x6 s0 (x8 + (1 : Int32)) hvx0 hvx2 hkx2 hvx3
set_option maxHeartbeats 4000000 in
set_option maxRecDepth 100000 in
theorem q_X11_choose_99 (θ : gT) (Gs U : gK → Nat) (f47 : Nat → Nat → Nat → Int32 → Int32 → mo_M Int32) (f67 : Nat → Nat → Nat → Int32 → Int32 → Int32 → Int32 → Int32 → mo_M Int32) (k47 : Nat → Nat → Nat → Int32 → Int32 → gM Int32) (k67 : Nat → Nat → Nat → Int32 → Int32 → Int32 → Int32 → Int32 → gM Int32) (hk47 : ∀  (kx2 : Nat) (wx2 : Nat) (ix2 : Nat) (x4 : Int32) (x5 : Int32) (hvx0 : gV θ 41 0 0) (hvx2 : gV θ kx2 wx2 ix2) (hkx2 : gBzK kx2) (hvx3 : gV θ 97 0 0), gSim true θ Gs U (f47 (Gs (pk 41 0 0)) (Gs (pk kx2 wx2 ix2)) (Gs (pk 97 0 0)) x4 x5) (k47 kx2 wx2 ix2 x4 x5)) (hk67 : ∀  (kx2 : Nat) (wx2 : Nat) (ix2 : Nat) (x4 : Int32) (x5 : Int32) (x6 : Int32) (x7 : Int32) (x8 : Int32) (hvx0 : gV θ 41 0 0) (hvx2 : gV θ kx2 wx2 ix2) (hkx2 : gBzK kx2) (hvx3 : gV θ 97 0 0), gSim true θ Gs U (f67 (Gs (pk 41 0 0)) (Gs (pk kx2 wx2 ix2)) (Gs (pk 97 0 0)) x4 x5 x6 x7 x8) (k67 kx2 wx2 ix2 x4 x5 x6 x7 x8)) (kx2 : Nat) (wx2 : Nat) (ix2 : Nat) (x4 : Int32) (x5 : Int32) (x6 : Int32) (x8 : Int32) (hvx0 : gV θ 41 0 0) (hvx2 : gV θ kx2 wx2 ix2) (hkx2 : gBzK kx2) (hvx3 : gV θ 97 0 0) : gSim true θ Gs U (F_X11_choose_99 f47 f67 (Gs (pk 41 0 0)) (Gs (pk kx2 wx2 ix2)) (Gs (pk 97 0 0)) x4 x5 x6 x8) (G_X11_choose_99 θ k47 k67 kx2 wx2 ix2 x4 x5 x6 x8) := by
  unfold F_X11_choose_99 G_X11_choose_99
  exact q_X11_choose_104 θ Gs U f47 f67 k47 k67 hk47 hk67 kx2 wx2 ix2 x4 x5 x6 x8 (1 : Int32) hvx0 hvx2 hkx2 hvx3
set_option maxHeartbeats 4000000 in
set_option maxRecDepth 100000 in
theorem q_X11_choose_103 (θ : gT) (Gs U : gK → Nat) (f47 : Nat → Nat → Nat → Int32 → Int32 → mo_M Int32) (f67 : Nat → Nat → Nat → Int32 → Int32 → Int32 → Int32 → Int32 → mo_M Int32) (k47 : Nat → Nat → Nat → Int32 → Int32 → gM Int32) (k67 : Nat → Nat → Nat → Int32 → Int32 → Int32 → Int32 → Int32 → gM Int32) (hk47 : ∀  (kx2 : Nat) (wx2 : Nat) (ix2 : Nat) (x4 : Int32) (x5 : Int32) (hvx0 : gV θ 41 0 0) (hvx2 : gV θ kx2 wx2 ix2) (hkx2 : gBzK kx2) (hvx3 : gV θ 97 0 0), gSim true θ Gs U (f47 (Gs (pk 41 0 0)) (Gs (pk kx2 wx2 ix2)) (Gs (pk 97 0 0)) x4 x5) (k47 kx2 wx2 ix2 x4 x5)) (hk67 : ∀  (kx2 : Nat) (wx2 : Nat) (ix2 : Nat) (x4 : Int32) (x5 : Int32) (x6 : Int32) (x7 : Int32) (x8 : Int32) (hvx0 : gV θ 41 0 0) (hvx2 : gV θ kx2 wx2 ix2) (hkx2 : gBzK kx2) (hvx3 : gV θ 97 0 0), gSim true θ Gs U (f67 (Gs (pk 41 0 0)) (Gs (pk kx2 wx2 ix2)) (Gs (pk 97 0 0)) x4 x5 x6 x7 x8) (k67 kx2 wx2 ix2 x4 x5 x6 x7 x8)) (kx2 : Nat) (wx2 : Nat) (ix2 : Nat) (x4 : Int32) (x5 : Int32) (x6 : Int32) (x8 : Int32) (hvx0 : gV θ 41 0 0) (hvx2 : gV θ kx2 wx2 ix2) (hkx2 : gBzK kx2) (hvx3 : gV θ 97 0 0) : gSim true θ Gs U (F_X11_choose_103 f47 f67 (Gs (pk 41 0 0)) (Gs (pk kx2 wx2 ix2)) (Gs (pk 97 0 0)) x4 x5 x6 x8) (G_X11_choose_103 θ k47 k67 kx2 wx2 ix2 x4 x5 x6 x8) := by
  unfold F_X11_choose_103 G_X11_choose_103
  exact q_X11_choose_104 θ Gs U f47 f67 k47 k67 hk47 hk67 kx2 wx2 ix2 x4 x5 x6 x8 (0 : Int32) hvx0 hvx2 hkx2 hvx3
set_option maxHeartbeats 4000000 in
set_option maxRecDepth 100000 in
theorem q_X11_choose_131 (θ : gT) (Gs U : gK → Nat) (f47 : Nat → Nat → Nat → Int32 → Int32 → mo_M Int32) (k47 : Nat → Nat → Nat → Int32 → Int32 → gM Int32) (hk47 : ∀  (kx2 : Nat) (wx2 : Nat) (ix2 : Nat) (x4 : Int32) (x5 : Int32) (hvx0 : gV θ 41 0 0) (hvx2 : gV θ kx2 wx2 ix2) (hkx2 : gBzK kx2) (hvx3 : gV θ 97 0 0), gSim true θ Gs U (f47 (Gs (pk 41 0 0)) (Gs (pk kx2 wx2 ix2)) (Gs (pk 97 0 0)) x4 x5) (k47 kx2 wx2 ix2 x4 x5)) (kx2 : Nat) (wx2 : Nat) (ix2 : Nat) (x4 : Int32) (x5 : Int32) (hvx0 : gV θ 41 0 0) (hvx2 : gV θ kx2 wx2 ix2) (hkx2 : gBzK kx2) (hvx3 : gV θ 97 0 0) : gSim true θ Gs U (F_X11_choose_131 f47 (Gs (pk 41 0 0)) (Gs (pk kx2 wx2 ix2)) (Gs (pk 97 0 0)) x4 x5) (G_X11_choose_131 θ k47 kx2 wx2 ix2 x4 x5) := by
  unfold F_X11_choose_131 G_X11_choose_131
  exact hk47  kx2 wx2 ix2 x4 (x5 + (-1 : Int32)) hvx0 hvx2 hkx2 hvx3
set_option maxHeartbeats 4000000 in
set_option maxRecDepth 100000 in
theorem q_X11_choose_112 (θ : gT) (Gs U : gK → Nat) (f47 : Nat → Nat → Nat → Int32 → Int32 → mo_M Int32) (k47 : Nat → Nat → Nat → Int32 → Int32 → gM Int32) (hk47 : ∀  (kx2 : Nat) (wx2 : Nat) (ix2 : Nat) (x4 : Int32) (x5 : Int32) (hvx0 : gV θ 41 0 0) (hvx2 : gV θ kx2 wx2 ix2) (hkx2 : gBzK kx2) (hvx3 : gV θ 97 0 0), gSim true θ Gs U (f47 (Gs (pk 41 0 0)) (Gs (pk kx2 wx2 ix2)) (Gs (pk 97 0 0)) x4 x5) (k47 kx2 wx2 ix2 x4 x5)) (kx2 : Nat) (wx2 : Nat) (ix2 : Nat) (x4 : Int32) (x5 : Int32) (x6 : Int32) (x7 : Int32) (hvx0 : gV θ 41 0 0) (hvx2 : gV θ kx2 wx2 ix2) (hkx2 : gBzK kx2) (hvx3 : gV θ 97 0 0) : gSim true θ Gs U (F_X11_choose_112 f47 (Gs (pk 41 0 0)) (Gs (pk kx2 wx2 ix2)) (Gs (pk 97 0 0)) x4 x5 x6 x7) (G_X11_choose_112 θ k47 kx2 wx2 ix2 x4 x5 x6 x7) := by
  unfold F_X11_choose_112 G_X11_choose_112
  refine gq_sz (k := kx2) (w := wx2) (i := ix2) hvx2 (gA_bz hkx2) (fun _ _ => gC_bz hkx2) ?_
  refine gq_if (fun _ => ?_) (fun _ => ?_)
  · exact q_X11_choose_131 θ Gs U f47 k47 hk47 kx2 wx2 ix2 x4 x5 hvx0 hvx2 hkx2 hvx3
  · refine gq_sz (k := 97) (w := 0) (i := 0) hvx3 rfl (fun _ _ => rfl) ?_
    exact q_X11_choose_131 θ Gs U f47 k47 hk47 kx2 wx2 ix2 (x4 + (1 : Int32)) x5 hvx0 hvx2 hkx2 hvx3
set_option maxHeartbeats 4000000 in
set_option maxRecDepth 100000 in
theorem q_X11_choose_67 (θ : gT) (Gs U : gK → Nat) (f47 : Nat → Nat → Nat → Int32 → Int32 → mo_M Int32) (k47 : Nat → Nat → Nat → Int32 → Int32 → gM Int32) (hk47 : ∀  (kx2 : Nat) (wx2 : Nat) (ix2 : Nat) (x4 : Int32) (x5 : Int32) (hvx0 : gV θ 41 0 0) (hvx2 : gV θ kx2 wx2 ix2) (hkx2 : gBzK kx2) (hvx3 : gV θ 97 0 0), gSim true θ Gs U (f47 (Gs (pk 41 0 0)) (Gs (pk kx2 wx2 ix2)) (Gs (pk 97 0 0)) x4 x5) (k47 kx2 wx2 ix2 x4 x5)) : ∀ (fu : Nat) (kx2 : Nat) (wx2 : Nat) (ix2 : Nat) (x4 : Int32) (x5 : Int32) (x6 : Int32) (x7 : Int32) (x8 : Int32) (hvx0 : gV θ 41 0 0) (hvx2 : gV θ kx2 wx2 ix2) (hkx2 : gBzK kx2) (hvx3 : gV θ 97 0 0), gSim true θ Gs U (F_X11_choose_67 f47 fu (Gs (pk 41 0 0)) (Gs (pk kx2 wx2 ix2)) (Gs (pk 97 0 0)) x4 x5 x6 x7 x8) (G_X11_choose_67 θ k47 fu kx2 wx2 ix2 x4 x5 x6 x7 x8) := by
  intro fu
  induction fu with
  | zero =>
    intro kx2 wx2 ix2 x4 x5 x6 x7 x8 hvx0 hvx2 hkx2 hvx3
    unfold G_X11_choose_67
    exact gq_no
  | succ fu ih =>
    intro kx2 wx2 ix2 x4 x5 x6 x7 x8 hvx0 hvx2 hkx2 hvx3
    unfold F_X11_choose_67 G_X11_choose_67
    refine gq_I (k := 41) (w := 0) (i := 0) hvx0 rfl (fun _ _ => ⟨_, rfl, rfl⟩) (fun v1 => ?_)
    refine gq_if (fun _ => ?_) (fun _ => ?_)
    · exact q_X11_choose_112 θ Gs U f47 k47 hk47 kx2 wx2 ix2 x4 x5 x6 x7 hvx0 hvx2 hkx2 hvx3
    · refine gq_if (fun _ => ?_) (fun _ => ?_)
      · refine gq_la (k := 97) (w := 0) (i := 0) hvx3 rfl (fun _ _ => rfl) (fun v2 => ?_)
        refine gq_if (fun _ => ?_) (fun _ => ?_)
        · exact q_X11_choose_103 θ Gs U f47 (F_X11_choose_67 f47 fu) k47 (G_X11_choose_67 θ k47 fu) hk47 ih kx2 wx2 ix2 x4 x5 x6 x8 hvx0 hvx2 hkx2 hvx3
        · refine gq_call (q_X11_flowsTo θ Gs U x6 x8 hvx0) (fun v3 => ?_)
          refine gq_if (fun _ => ?_) (fun _ => ?_)
          · exact q_X11_choose_103 θ Gs U f47 (F_X11_choose_67 f47 fu) k47 (G_X11_choose_67 θ k47 fu) hk47 ih kx2 wx2 ix2 x4 x5 x6 x8 hvx0 hvx2 hkx2 hvx3
          · exact q_X11_choose_99 θ Gs U f47 (F_X11_choose_67 f47 fu) k47 (G_X11_choose_67 θ k47 fu) hk47 ih kx2 wx2 ix2 x4 x5 x6 x8 hvx0 hvx2 hkx2 hvx3
      · exact q_X11_choose_99 θ Gs U f47 (F_X11_choose_67 f47 fu) k47 (G_X11_choose_67 θ k47 fu) hk47 ih kx2 wx2 ix2 x4 x5 x6 x8 hvx0 hvx2 hkx2 hvx3
set_option maxHeartbeats 4000000 in
set_option maxRecDepth 100000 in
theorem q_X11_choose_47 (θ : gT) (Gs U : gK → Nat)    : ∀ (fu : Nat) (kx2 : Nat) (wx2 : Nat) (ix2 : Nat) (x4 : Int32) (x5 : Int32) (hvx0 : gV θ 41 0 0) (hvx2 : gV θ kx2 wx2 ix2) (hkx2 : gBzK kx2) (hvx3 : gV θ 97 0 0), gSim true θ Gs U (F_X11_choose_47 fu (Gs (pk 41 0 0)) (Gs (pk kx2 wx2 ix2)) (Gs (pk 97 0 0)) x4 x5) (G_X11_choose_47 θ fu kx2 wx2 ix2 x4 x5) := by
  intro fu
  induction fu with
  | zero =>
    intro kx2 wx2 ix2 x4 x5 hvx0 hvx2 hkx2 hvx3
    unfold G_X11_choose_47
    exact gq_no
  | succ fu ih =>
    intro kx2 wx2 ix2 x4 x5 hvx0 hvx2 hkx2 hvx3
    unfold F_X11_choose_47 G_X11_choose_47
    refine gq_if (fun _ => ?_) (fun _ => ?_)
    · exact gq_ret
    · refine gq_R (k := 41) (w := 0) (i := 0) hvx0 rfl (fun _ _ => ⟨_, rfl, rfl⟩) ?_
      refine gq_la (k := 57) (w := 0) (i := 0) (gv_k0 57 rfl hvx0) rfl (fun _ _ => rfl) (fun v1 => ?_)
      exact q_X11_choose_67 θ Gs U (F_X11_choose_47  fu) (G_X11_choose_47 θ  fu) ih mo_fu kx2 wx2 ix2 x4 x5 v1 (0 : Int32) (0 : Int32) hvx0 hvx2 hkx2 hvx3
set_option maxHeartbeats 4000000 in
set_option maxRecDepth 100000 in
theorem q_X11_choose_36 (θ : gT) (Gs U : gK → Nat)    (kx2 : Nat) (wx2 : Nat) (ix2 : Nat) (hvx0 : gV θ 41 0 0) (hvx2 : gV θ kx2 wx2 ix2) (hkx2 : gBzK kx2) (hvx3 : gV θ 97 0 0) : gSim true θ Gs U (F_X11_choose_36 (Gs (pk 41 0 0)) (Gs (pk kx2 wx2 ix2)) (Gs (pk 97 0 0))) (G_X11_choose_36 θ kx2 wx2 ix2) := by
  unfold F_X11_choose_36 G_X11_choose_36
  refine gq_I (k := 41) (w := 0) (i := 0) hvx0 rfl (fun _ _ => ⟨_, rfl, rfl⟩) (fun v1 => ?_)
  exact q_X11_choose_47 θ Gs U mo_fu kx2 wx2 ix2 (0 : Int32) (v1 - (1 : Int32)) hvx0 hvx2 hkx2 hvx3
set_option maxHeartbeats 4000000 in
set_option maxRecDepth 100000 in
theorem q_X11_choose_8 (θ : gT) (Gs U : gK → Nat)    : ∀ (fu : Nat) (x1 : Int32) (kx2 : Nat) (wx2 : Nat) (ix2 : Nat) (x4 : Int32) (hvx0 : gV θ 41 0 0) (hvx2 : gV θ kx2 wx2 ix2) (hkx2 : gBzK kx2) (hvx3 : gV θ 97 0 0), gSim true θ Gs U (F_X11_choose_8 fu (Gs (pk 41 0 0)) x1 (Gs (pk kx2 wx2 ix2)) (Gs (pk 97 0 0)) x4) (G_X11_choose_8 θ fu x1 kx2 wx2 ix2 x4) := by
  intro fu
  induction fu with
  | zero =>
    intro x1 kx2 wx2 ix2 x4 hvx0 hvx2 hkx2 hvx3
    unfold G_X11_choose_8
    exact gq_no
  | succ fu ih =>
    intro x1 kx2 wx2 ix2 x4 hvx0 hvx2 hkx2 hvx3
    unfold F_X11_choose_8 G_X11_choose_8
    refine gq_if (fun _ => ?_) (fun _ => ?_)
    · exact q_X11_choose_36 θ Gs U kx2 wx2 ix2 hvx0 hvx2 hkx2 hvx3
    · refine gq_if (fun _ => ?_) (fun _ => ?_)
      · exact q_X11_choose_29 θ Gs U (F_X11_choose_8  fu) (G_X11_choose_8 θ  fu) ih x1 kx2 wx2 ix2 x4 x4 (1 : Int32) hvx0 hvx2 hkx2 hvx3 hvx3
      · exact q_X11_choose_29 θ Gs U (F_X11_choose_8  fu) (G_X11_choose_8 θ  fu) ih x1 kx2 wx2 ix2 x4 x4 (0 : Int32) hvx0 hvx2 hkx2 hvx3 hvx3
set_option maxHeartbeats 4000000 in
set_option maxRecDepth 100000 in
theorem q_X11_choose (θ : gT) (Gs U : gK → Nat) (x1 : Int32) (kx2 : Nat) (wx2 : Nat) (ix2 : Nat) (hvx0 : gV θ 41 0 0) (hvx2 : gV θ kx2 wx2 ix2) (hkx2 : gBzK kx2) : gSim true θ Gs U (F_X11_choose (Gs (pk 41 0 0)) x1 (Gs (pk kx2 wx2 ix2))) (G_X11_choose θ x1 kx2 wx2 ix2) := by
  unfold F_X11_choose G_X11_choose
  refine gq_ck (k := 41) (w := 0) (i := 0) hvx0 rfl (fun _ _ => ⟨_, rfl⟩) ?_
  refine gq_R (k := 41) (w := 0) (i := 0) hvx0 rfl (fun _ _ => ⟨_, rfl, rfl⟩) ?_
  exact q_X11_choose_8 θ Gs U mo_fu x1 kx2 wx2 ix2 (0 : Int32) hvx0 hvx2 hkx2 (gv_k0 97 rfl hvx0)
set_option maxHeartbeats 4000000 in
set_option maxRecDepth 100000 in
theorem q_X11_again_77 (θ : gT) (Gs U : gK → Nat) (f7 : Nat → Int32 → Nat → Int32 → mo_M Unit) (f22 : Nat → Int32 → Nat → Int32 → mo_M Unit) (k7 : Int32 → Nat → Nat → Nat → Int32 → gM Unit) (k22 : Int32 → Nat → Nat → Nat → Int32 → gM Unit) (hk7 : ∀  (x1 : Int32) (kx2 : Nat) (wx2 : Nat) (ix2 : Nat) (x3 : Int32) (hvx0 : gV θ 41 0 0) (hvx2 : gV θ kx2 wx2 ix2) (hkx2 : gBzK kx2), gSim true θ Gs U (f7 (Gs (pk 41 0 0)) x1 (Gs (pk kx2 wx2 ix2)) x3) (k7 x1 kx2 wx2 ix2 x3)) (hk22 : ∀  (x1 : Int32) (kx2 : Nat) (wx2 : Nat) (ix2 : Nat) (x3 : Int32) (hvx0 : gV θ 41 0 0) (hvx2 : gV θ kx2 wx2 ix2) (hkx2 : gBzK kx2), gSim true θ Gs U (f22 (Gs (pk 41 0 0)) x1 (Gs (pk kx2 wx2 ix2)) x3) (k22 x1 kx2 wx2 ix2 x3)) (x1 : Int32) (kx2 : Nat) (wx2 : Nat) (ix2 : Nat) (x3 : Int32) (hvx0 : gV θ 41 0 0) (hvx2 : gV θ kx2 wx2 ix2) (hkx2 : gBzK kx2) : gSim true θ Gs U (F_X11_again_77 f7 f22 (Gs (pk 41 0 0)) x1 (Gs (pk kx2 wx2 ix2)) x3) (G_X11_again_77 θ k7 k22 x1 kx2 wx2 ix2 x3) := by
  unfold F_X11_again_77 G_X11_again_77
  exact hk22  x1 kx2 wx2 ix2 (x3 + (1 : Int32)) hvx0 hvx2 hkx2
set_option maxHeartbeats 4000000 in
set_option maxRecDepth 100000 in
theorem q_X11_again_151 (θ : gT) (Gs U : gK → Nat) (f7 : Nat → Int32 → Nat → Int32 → mo_M Unit) (k7 : Int32 → Nat → Nat → Nat → Int32 → gM Unit) (hk7 : ∀  (x1 : Int32) (kx2 : Nat) (wx2 : Nat) (ix2 : Nat) (x3 : Int32) (hvx0 : gV θ 41 0 0) (hvx2 : gV θ kx2 wx2 ix2) (hkx2 : gBzK kx2), gSim true θ Gs U (f7 (Gs (pk 41 0 0)) x1 (Gs (pk kx2 wx2 ix2)) x3) (k7 x1 kx2 wx2 ix2 x3)) (x1 : Int32) (kx2 : Nat) (wx2 : Nat) (ix2 : Nat) (x5 : Int32) (s0 : Int32) (s1 : Int32) (hvx0 : gV θ 41 0 0) (hvx2 : gV θ kx2 wx2 ix2) (hkx2 : gBzK kx2) : gSim true θ Gs U (F_X11_again_151 f7 (Gs (pk 41 0 0)) x1 (Gs (pk kx2 wx2 ix2)) x5 s0 s1) (G_X11_again_151 θ k7 x1 kx2 wx2 ix2 x5 s0 s1) := by
  unfold F_X11_again_151 G_X11_again_151
  refine gq_call (q_X11_pass θ Gs U x1 x5 hvx0) (fun v1 => ?_)
  exact hk7  x1 kx2 wx2 ix2 (s0 + s1) hvx0 hvx2 hkx2
set_option maxHeartbeats 4000000 in
set_option maxRecDepth 100000 in
theorem q_X11_again_138 (θ : gT) (Gs U : gK → Nat) (f7 : Nat → Int32 → Nat → Int32 → mo_M Unit) (k7 : Int32 → Nat → Nat → Nat → Int32 → gM Unit) (hk7 : ∀  (x1 : Int32) (kx2 : Nat) (wx2 : Nat) (ix2 : Nat) (x3 : Int32) (hvx0 : gV θ 41 0 0) (hvx2 : gV θ kx2 wx2 ix2) (hkx2 : gBzK kx2), gSim true θ Gs U (f7 (Gs (pk 41 0 0)) x1 (Gs (pk kx2 wx2 ix2)) x3) (k7 x1 kx2 wx2 ix2 x3)) (x1 : Int32) (kx2 : Nat) (wx2 : Nat) (ix2 : Nat) (x3 : Int32) (x4 : Int32) (s0 : Int32) (hvx0 : gV θ 41 0 0) (hvx2 : gV θ kx2 wx2 ix2) (hkx2 : gBzK kx2) : gSim true θ Gs U (F_X11_again_138 f7 (Gs (pk 41 0 0)) x1 (Gs (pk kx2 wx2 ix2)) x3 x4 s0) (G_X11_again_138 θ k7 x1 kx2 wx2 ix2 x3 x4 s0) := by
  unfold F_X11_again_138 G_X11_again_138
  refine gq_if (fun _ => ?_) (fun _ => ?_)
  · exact q_X11_again_151 θ Gs U f7 k7 hk7 x1 kx2 wx2 ix2 s0 x3 (0 : Int32) hvx0 hvx2 hkx2
  · exact q_X11_again_151 θ Gs U f7 k7 hk7 x1 kx2 wx2 ix2 s0 x3 (1 : Int32) hvx0 hvx2 hkx2
set_option maxHeartbeats 4000000 in
set_option maxRecDepth 100000 in
theorem q_X11_again_137 (θ : gT) (Gs U : gK → Nat) (f7 : Nat → Int32 → Nat → Int32 → mo_M Unit) (k7 : Int32 → Nat → Nat → Nat → Int32 → gM Unit) (hk7 : ∀  (x1 : Int32) (kx2 : Nat) (wx2 : Nat) (ix2 : Nat) (x3 : Int32) (hvx0 : gV θ 41 0 0) (hvx2 : gV θ kx2 wx2 ix2) (hkx2 : gBzK kx2), gSim true θ Gs U (f7 (Gs (pk 41 0 0)) x1 (Gs (pk kx2 wx2 ix2)) x3) (k7 x1 kx2 wx2 ix2 x3)) (x1 : Int32) (kx2 : Nat) (wx2 : Nat) (ix2 : Nat) (x3 : Int32) (x4 : Int32) (hvx0 : gV θ 41 0 0) (hvx2 : gV θ kx2 wx2 ix2) (hkx2 : gBzK kx2) : gSim true θ Gs U (F_X11_again_137 f7 (Gs (pk 41 0 0)) x1 (Gs (pk kx2 wx2 ix2)) x3 x4) (G_X11_again_137 θ k7 x1 kx2 wx2 ix2 x3 x4) := by
  unfold F_X11_again_137 G_X11_again_137
  exact q_X11_again_138 θ Gs U f7 k7 hk7 x1 kx2 wx2 ix2 x3 x4 (0 : Int32) hvx0 hvx2 hkx2
set_option maxHeartbeats 4000000 in
set_option maxRecDepth 100000 in
theorem q_X11_again_120 (θ : gT) (Gs U : gK → Nat) (f7 : Nat → Int32 → Nat → Int32 → mo_M Unit) (k7 : Int32 → Nat → Nat → Nat → Int32 → gM Unit) (hk7 : ∀  (x1 : Int32) (kx2 : Nat) (wx2 : Nat) (ix2 : Nat) (x3 : Int32) (hvx0 : gV θ 41 0 0) (hvx2 : gV θ kx2 wx2 ix2) (hkx2 : gBzK kx2), gSim true θ Gs U (f7 (Gs (pk 41 0 0)) x1 (Gs (pk kx2 wx2 ix2)) x3) (k7 x1 kx2 wx2 ix2 x3)) (x1 : Int32) (kx2 : Nat) (wx2 : Nat) (ix2 : Nat) (x3 : Int32) (s0 : Int32) (hvx0 : gV θ 41 0 0) (hvx2 : gV θ kx2 wx2 ix2) (hkx2 : gBzK kx2) : gSim true θ Gs U (F_X11_again_120 f7 (Gs (pk 41 0 0)) x1 (Gs (pk kx2 wx2 ix2)) x3 s0) (G_X11_again_120 θ k7 x1 kx2 wx2 ix2 x3 s0) := by
  unfold F_X11_again_120 G_X11_again_120
  refine gq_if (fun _ => ?_) (fun _ => ?_)
  · exact q_X11_again_137 θ Gs U f7 k7 hk7 x1 kx2 wx2 ix2 x3 s0 hvx0 hvx2 hkx2
  · refine gq_la (k := kx2) (w := wx2) (i := ix2) hvx2 (gA_bz hkx2) (fun _ _ => gC_bz hkx2) (fun v1 => ?_)
    refine gq_if (fun _ => ?_) (fun _ => ?_)
    · exact q_X11_again_137 θ Gs U f7 k7 hk7 x1 kx2 wx2 ix2 x3 s0 hvx0 hvx2 hkx2
    · exact q_X11_again_138 θ Gs U f7 k7 hk7 x1 kx2 wx2 ix2 x3 s0 (1 : Int32) hvx0 hvx2 hkx2
set_option maxHeartbeats 4000000 in
set_option maxRecDepth 100000 in
theorem q_X11_again_119 (θ : gT) (Gs U : gK → Nat) (f7 : Nat → Int32 → Nat → Int32 → mo_M Unit) (k7 : Int32 → Nat → Nat → Nat → Int32 → gM Unit) (hk7 : ∀  (x1 : Int32) (kx2 : Nat) (wx2 : Nat) (ix2 : Nat) (x3 : Int32) (hvx0 : gV θ 41 0 0) (hvx2 : gV θ kx2 wx2 ix2) (hkx2 : gBzK kx2), gSim true θ Gs U (f7 (Gs (pk 41 0 0)) x1 (Gs (pk kx2 wx2 ix2)) x3) (k7 x1 kx2 wx2 ix2 x3)) (x1 : Int32) (kx2 : Nat) (wx2 : Nat) (ix2 : Nat) (x3 : Int32) (hvx0 : gV θ 41 0 0) (hvx2 : gV θ kx2 wx2 ix2) (hkx2 : gBzK kx2) : gSim true θ Gs U (F_X11_again_119 f7 (Gs (pk 41 0 0)) x1 (Gs (pk kx2 wx2 ix2)) x3) (G_X11_again_119 θ k7 x1 kx2 wx2 ix2 x3) := by
  unfold F_X11_again_119 G_X11_again_119
  exact q_X11_again_120 θ Gs U f7 k7 hk7 x1 kx2 wx2 ix2 x3 (0 : Int32) hvx0 hvx2 hkx2
set_option maxHeartbeats 4000000 in
set_option maxRecDepth 100000 in
theorem q_X11_again_83 (θ : gT) (Gs U : gK → Nat) (f7 : Nat → Int32 → Nat → Int32 → mo_M Unit) (k7 : Int32 → Nat → Nat → Nat → Int32 → gM Unit) (hk7 : ∀  (x1 : Int32) (kx2 : Nat) (wx2 : Nat) (ix2 : Nat) (x3 : Int32) (hvx0 : gV θ 41 0 0) (hvx2 : gV θ kx2 wx2 ix2) (hkx2 : gBzK kx2), gSim true θ Gs U (f7 (Gs (pk 41 0 0)) x1 (Gs (pk kx2 wx2 ix2)) x3) (k7 x1 kx2 wx2 ix2 x3)) (x1 : Int32) (kx2 : Nat) (wx2 : Nat) (ix2 : Nat) (x3 : Int32) (hvx0 : gV θ 41 0 0) (hvx2 : gV θ kx2 wx2 ix2) (hkx2 : gBzK kx2) : gSim true θ Gs U (F_X11_again_83 f7 (Gs (pk 41 0 0)) x1 (Gs (pk kx2 wx2 ix2)) x3) (G_X11_again_83 θ k7 x1 kx2 wx2 ix2 x3) := by
  unfold F_X11_again_83 G_X11_again_83
  refine gq_I (k := 41) (w := 0) (i := 0) hvx0 rfl (fun _ _ => ⟨_, rfl, rfl⟩) (fun v1 => ?_)
  refine gq_if (fun _ => ?_) (fun _ => ?_)
  · exact q_X11_again_119 θ Gs U f7 k7 hk7 x1 kx2 wx2 ix2 x3 hvx0 hvx2 hkx2
  · refine gq_R (k := 41) (w := 0) (i := 0) hvx0 rfl (fun _ _ => ⟨_, rfl, rfl⟩) ?_
    refine gq_la (k := 58) (w := 0) (i := 0) (gv_k0 58 rfl hvx0) rfl (fun _ _ => rfl) (fun v2 => ?_)
    refine gq_if (fun _ => ?_) (fun _ => ?_)
    · refine gq_R (k := 41) (w := 0) (i := 0) hvx0 rfl (fun _ _ => ⟨_, rfl, rfl⟩) ?_
      refine gq_la (k := 59) (w := 0) (i := 0) (gv_k0 59 rfl hvx0) rfl (fun _ _ => rfl) (fun v3 => ?_)
      refine gq_R (k := 41) (w := 0) (i := 0) hvx0 rfl (fun _ _ => ⟨_, rfl, rfl⟩) ?_
      refine gq_la (k := 87) (w := 0) (i := 0) (gv_k0 87 rfl hvx0) rfl (fun _ _ => rfl) (fun v4 => ?_)
      refine gq_if (fun _ => ?_) (fun _ => ?_)
      · exact q_X11_again_120 θ Gs U f7 k7 hk7 x1 kx2 wx2 ix2 x3 (1 : Int32) hvx0 hvx2 hkx2
      · exact q_X11_again_119 θ Gs U f7 k7 hk7 x1 kx2 wx2 ix2 x3 hvx0 hvx2 hkx2
    · exact q_X11_again_119 θ Gs U f7 k7 hk7 x1 kx2 wx2 ix2 x3 hvx0 hvx2 hkx2
set_option maxHeartbeats 4000000 in
set_option maxRecDepth 100000 in
theorem q_X11_again_22 (θ : gT) (Gs U : gK → Nat) (f7 : Nat → Int32 → Nat → Int32 → mo_M Unit) (k7 : Int32 → Nat → Nat → Nat → Int32 → gM Unit) (hk7 : ∀  (x1 : Int32) (kx2 : Nat) (wx2 : Nat) (ix2 : Nat) (x3 : Int32) (hvx0 : gV θ 41 0 0) (hvx2 : gV θ kx2 wx2 ix2) (hkx2 : gBzK kx2), gSim true θ Gs U (f7 (Gs (pk 41 0 0)) x1 (Gs (pk kx2 wx2 ix2)) x3) (k7 x1 kx2 wx2 ix2 x3)) : ∀ (fu : Nat) (x1 : Int32) (kx2 : Nat) (wx2 : Nat) (ix2 : Nat) (x3 : Int32) (hvx0 : gV θ 41 0 0) (hvx2 : gV θ kx2 wx2 ix2) (hkx2 : gBzK kx2), gSim true θ Gs U (F_X11_again_22 f7 fu (Gs (pk 41 0 0)) x1 (Gs (pk kx2 wx2 ix2)) x3) (G_X11_again_22 θ k7 fu x1 kx2 wx2 ix2 x3) := by
  intro fu
  induction fu with
  | zero =>
    intro x1 kx2 wx2 ix2 x3 hvx0 hvx2 hkx2
    unfold G_X11_again_22
    exact gq_no
  | succ fu ih =>
    intro x1 kx2 wx2 ix2 x3 hvx0 hvx2 hkx2
    unfold F_X11_again_22 G_X11_again_22
    refine gq_I (k := 41) (w := 0) (i := 0) hvx0 rfl (fun _ _ => ⟨_, rfl, rfl⟩) (fun v1 => ?_)
    refine gq_if (fun _ => ?_) (fun _ => ?_)
    · exact q_X11_again_83 θ Gs U f7 k7 hk7 x1 kx2 wx2 ix2 x3 hvx0 hvx2 hkx2
    · refine gq_R (k := 41) (w := 0) (i := 0) hvx0 rfl (fun _ _ => ⟨_, rfl, rfl⟩) ?_
      refine gq_la (k := 58) (w := 0) (i := 0) (gv_k0 58 rfl hvx0) rfl (fun _ _ => rfl) (fun v2 => ?_)
      refine gq_if (fun _ => ?_) (fun _ => ?_)
      · exact q_X11_again_83 θ Gs U f7 k7 hk7 x1 kx2 wx2 ix2 x3 hvx0 hvx2 hkx2
      · refine gq_R (k := 41) (w := 0) (i := 0) hvx0 rfl (fun _ _ => ⟨_, rfl, rfl⟩) ?_
        refine gq_la (k := 59) (w := 0) (i := 0) (gv_k0 59 rfl hvx0) rfl (fun _ _ => rfl) (fun v3 => ?_)
        refine gq_R (k := 41) (w := 0) (i := 0) hvx0 rfl (fun _ _ => ⟨_, rfl, rfl⟩) ?_
        refine gq_la (k := 87) (w := 0) (i := 0) (gv_k0 87 rfl hvx0) rfl (fun _ _ => rfl) (fun v4 => ?_)
        refine gq_if (fun _ => ?_) (fun _ => ?_)
        · refine gq_la (k := kx2) (w := wx2) (i := ix2) hvx2 (gA_bz hkx2) (fun _ _ => gC_bz hkx2) (fun v5 => ?_)
          refine gq_if (fun _ => ?_) (fun _ => ?_)
          · exact q_X11_again_77 θ Gs U f7 (F_X11_again_22 f7 fu) k7 (G_X11_again_22 θ k7 fu) hk7 ih x1 kx2 wx2 ix2 x3 hvx0 hvx2 hkx2
          · refine gq_R (k := 41) (w := 0) (i := 0) hvx0 rfl (fun _ _ => ⟨_, rfl, rfl⟩) ?_
            refine gq_la (k := 57) (w := 0) (i := 0) (gv_k0 57 rfl hvx0) rfl (fun _ _ => rfl) (fun v6 => ?_)
            refine gq_R (k := 41) (w := 0) (i := 0) hvx0 rfl (fun _ _ => ⟨_, rfl, rfl⟩) ?_
            refine gq_la (k := 60) (w := 0) (i := 0) (gv_k0 60 rfl hvx0) rfl (fun _ _ => rfl) (fun v7 => ?_)
            refine gq_call (q_X11_give θ Gs U x1 v6 v7 hvx0) (fun v8 => ?_)
            exact q_X11_again_77 θ Gs U f7 (F_X11_again_22 f7 fu) k7 (G_X11_again_22 θ k7 fu) hk7 ih x1 kx2 wx2 ix2 x3 hvx0 hvx2 hkx2
        · exact q_X11_again_83 θ Gs U f7 k7 hk7 x1 kx2 wx2 ix2 x3 hvx0 hvx2 hkx2
set_option maxHeartbeats 4000000 in
set_option maxRecDepth 100000 in
theorem q_X11_again_194 (θ : gT) (Gs U : gK → Nat) (f163 : Nat → Int32 → Nat → Int32 → mo_M Unit) (k163 : Int32 → Nat → Nat → Nat → Int32 → gM Unit) (hk163 : ∀  (x1 : Int32) (kx2 : Nat) (wx2 : Nat) (ix2 : Nat) (x3 : Int32) (hvx0 : gV θ 41 0 0) (hvx2 : gV θ kx2 wx2 ix2) (hkx2 : gBzK kx2), gSim true θ Gs U (f163 (Gs (pk 41 0 0)) x1 (Gs (pk kx2 wx2 ix2)) x3) (k163 x1 kx2 wx2 ix2 x3)) (x1 : Int32) (kx2 : Nat) (wx2 : Nat) (ix2 : Nat) (x3 : Int32) (hvx0 : gV θ 41 0 0) (hvx2 : gV θ kx2 wx2 ix2) (hkx2 : gBzK kx2) : gSim true θ Gs U (F_X11_again_194 f163 (Gs (pk 41 0 0)) x1 (Gs (pk kx2 wx2 ix2)) x3) (G_X11_again_194 θ k163 x1 kx2 wx2 ix2 x3) := by
  unfold F_X11_again_194 G_X11_again_194
  exact hk163  x1 kx2 wx2 ix2 (x3 + (1 : Int32)) hvx0 hvx2 hkx2
set_option maxHeartbeats 4000000 in
set_option maxRecDepth 100000 in
theorem q_X11_again_163 (θ : gT) (Gs U : gK → Nat)    : ∀ (fu : Nat) (x1 : Int32) (kx2 : Nat) (wx2 : Nat) (ix2 : Nat) (x3 : Int32) (hvx0 : gV θ 41 0 0) (hvx2 : gV θ kx2 wx2 ix2) (hkx2 : gBzK kx2), gSim true θ Gs U (F_X11_again_163 fu (Gs (pk 41 0 0)) x1 (Gs (pk kx2 wx2 ix2)) x3) (G_X11_again_163 θ fu x1 kx2 wx2 ix2 x3) := by
  intro fu
  induction fu with
  | zero =>
    intro x1 kx2 wx2 ix2 x3 hvx0 hvx2 hkx2
    unfold G_X11_again_163
    exact gq_no
  | succ fu ih =>
    intro x1 kx2 wx2 ix2 x3 hvx0 hvx2 hkx2
    unfold F_X11_again_163 G_X11_again_163
    refine gq_I (k := 41) (w := 0) (i := 0) hvx0 rfl (fun _ _ => ⟨_, rfl, rfl⟩) (fun v1 => ?_)
    refine gq_if (fun _ => ?_) (fun _ => ?_)
    · exact gq_ret
    · refine gq_la (k := kx2) (w := wx2) (i := ix2) hvx2 (gA_bz hkx2) (fun _ _ => gC_bz hkx2) (fun v2 => ?_)
      refine gq_if (fun _ => ?_) (fun _ => ?_)
      · exact q_X11_again_194 θ Gs U (F_X11_again_163  fu) (G_X11_again_163 θ  fu) ih x1 kx2 wx2 ix2 x3 hvx0 hvx2 hkx2
      · refine gq_R (k := 41) (w := 0) (i := 0) hvx0 rfl (fun _ _ => ⟨_, rfl, rfl⟩) ?_
        refine gq_la (k := 57) (w := 0) (i := 0) (gv_k0 57 rfl hvx0) rfl (fun _ _ => rfl) (fun v3 => ?_)
        refine gq_R (k := 41) (w := 0) (i := 0) hvx0 rfl (fun _ _ => ⟨_, rfl, rfl⟩) ?_
        refine gq_la (k := 60) (w := 0) (i := 0) (gv_k0 60 rfl hvx0) rfl (fun _ _ => rfl) (fun v4 => ?_)
        refine gq_call (q_X11_give θ Gs U x1 v3 v4 hvx0) (fun v5 => ?_)
        exact q_X11_again_194 θ Gs U (F_X11_again_163  fu) (G_X11_again_163 θ  fu) ih x1 kx2 wx2 ix2 x3 hvx0 hvx2 hkx2
set_option maxHeartbeats 4000000 in
set_option maxRecDepth 100000 in
theorem q_X11_again_7 (θ : gT) (Gs U : gK → Nat)    : ∀ (fu : Nat) (x1 : Int32) (kx2 : Nat) (wx2 : Nat) (ix2 : Nat) (x3 : Int32) (hvx0 : gV θ 41 0 0) (hvx2 : gV θ kx2 wx2 ix2) (hkx2 : gBzK kx2), gSim true θ Gs U (F_X11_again_7 fu (Gs (pk 41 0 0)) x1 (Gs (pk kx2 wx2 ix2)) x3) (G_X11_again_7 θ fu x1 kx2 wx2 ix2 x3) := by
  intro fu
  induction fu with
  | zero =>
    intro x1 kx2 wx2 ix2 x3 hvx0 hvx2 hkx2
    unfold G_X11_again_7
    exact gq_no
  | succ fu ih =>
    intro x1 kx2 wx2 ix2 x3 hvx0 hvx2 hkx2
    unfold F_X11_again_7 G_X11_again_7
    refine gq_R (k := 41) (w := 0) (i := 0) hvx0 rfl (fun _ _ => ⟨_, rfl, rfl⟩) ?_
    refine gq_la (k := 87) (w := 0) (i := 0) (gv_k0 87 rfl hvx0) rfl (fun _ _ => rfl) (fun v1 => ?_)
    refine gq_R (k := 41) (w := 0) (i := 0) hvx0 rfl (fun _ _ => ⟨_, rfl, rfl⟩) ?_
    refine gq_la (k := 87) (w := 0) (i := 0) (gv_k0 87 rfl hvx0) rfl (fun _ _ => rfl) (fun v2 => ?_)
    refine gq_if (fun _ => ?_) (fun _ => ?_)
    · exact q_X11_again_163 θ Gs U mo_fu x1 kx2 wx2 ix2 x3 hvx0 hvx2 hkx2
    · exact q_X11_again_22 θ Gs U (F_X11_again_7  fu) (G_X11_again_7 θ  fu) ih mo_fu x1 kx2 wx2 ix2 x3 hvx0 hvx2 hkx2
set_option maxHeartbeats 4000000 in
set_option maxRecDepth 100000 in
theorem q_X11_again (θ : gT) (Gs U : gK → Nat) (x1 : Int32) (kx2 : Nat) (wx2 : Nat) (ix2 : Nat) (hvx0 : gV θ 41 0 0) (hvx2 : gV θ kx2 wx2 ix2) (hkx2 : gBzK kx2) : gSim true θ Gs U (F_X11_again (Gs (pk 41 0 0)) x1 (Gs (pk kx2 wx2 ix2))) (G_X11_again θ x1 kx2 wx2 ix2) := by
  unfold F_X11_again G_X11_again
  refine gq_ck (k := 41) (w := 0) (i := 0) hvx0 rfl (fun _ _ => ⟨_, rfl⟩) ?_
  refine gq_call (q_X11_reset θ Gs U x1 hvx0) (fun v1 => ?_)
  exact q_X11_again_7 θ Gs U mo_fu x1 kx2 wx2 ix2 (0 : Int32) hvx0 hvx2 hkx2
set_option maxHeartbeats 4000000 in
set_option maxRecDepth 100000 in
theorem q_X11_purge (θ : gT) (Gs U : gK → Nat) (x1 : Int32) (hvx0 : gV θ 41 0 0) : gSim true θ Gs U (F_X11_purge (Gs (pk 41 0 0)) x1) (G_X11_purge θ x1) := by
  unfold F_X11_purge G_X11_purge
  refine gq_ck (k := 41) (w := 0) (i := 0) hvx0 rfl (fun _ _ => ⟨_, rfl⟩) ?_
  refine gq_I (k := 41) (w := 0) (i := 0) hvx0 rfl (fun _ _ => ⟨_, rfl, rfl⟩) (fun v1 => ?_)
  refine gq_if (fun _ => ?_) (fun _ => ?_)
  · exact gq_ret
  · refine gq_call (q_X11_isDomain θ Gs U x1 hvx0) (fun v2 => ?_)
    refine gq_if (fun _ => ?_) (fun _ => ?_)
    · exact gq_ret
    · refine gq_R (k := 41) (w := 0) (i := 0) hvx0 rfl (fun _ _ => ⟨_, rfl, rfl⟩) ?_
      refine gq_call (q_X11_choose θ Gs U x1 94 0 0 hvx0 (gv_k0 94 rfl hvx0) gz_94) (fun v3 => ?_)
      refine gq_R (k := 41) (w := 0) (i := 0) hvx0 rfl (fun _ _ => ⟨_, rfl, rfl⟩) ?_
      refine gq_call (q_X11_again θ Gs U (1 : Int32) 94 0 0 hvx0 (gv_k0 94 rfl hvx0) gz_94) (fun v4 => ?_)
      refine gq_I (k := 41) (w := 0) (i := 0) hvx0 rfl (fun _ _ => ⟨_, rfl, rfl⟩) (fun v5 => ?_)
      refine gq_p (k := 41) (w := 0) (i := 0) hvx0 rfl (fun _ _ => ⟨_, rfl, by simp, rfl⟩) ?_
      exact gq_ret
set_option maxHeartbeats 4000000 in
set_option maxRecDepth 100000 in
theorem q_X11_kept_12 (θ : gT) (Gs U : gK → Nat)      : gSim true θ Gs U (F_X11_kept_12) (G_X11_kept_12 θ) := by
  unfold F_X11_kept_12 G_X11_kept_12
  exact gq_ret
set_option maxHeartbeats 4000000 in
set_option maxRecDepth 100000 in
theorem q_X11_kept (θ : gT) (Gs U : gK → Nat) (x1 : Int32) (hvx0 : gV θ 41 0 0) : gSim true θ Gs U (F_X11_kept (Gs (pk 41 0 0)) x1) (G_X11_kept θ x1) := by
  unfold F_X11_kept G_X11_kept
  refine gq_ck (k := 41) (w := 0) (i := 0) hvx0 rfl (fun _ _ => ⟨_, rfl⟩) ?_
  refine gq_if (fun _ => ?_) (fun _ => ?_)
  · exact q_X11_kept_12 θ Gs U
  · refine gq_I (k := 41) (w := 0) (i := 0) hvx0 rfl (fun _ _ => ⟨_, rfl, rfl⟩) (fun v1 => ?_)
    refine gq_if (fun _ => ?_) (fun _ => ?_)
    · refine gq_R (k := 41) (w := 0) (i := 0) hvx0 rfl (fun _ _ => ⟨_, rfl, rfl⟩) ?_
      refine gq_la (k := 94) (w := 0) (i := 0) (gv_k0 94 rfl hvx0) rfl (fun _ _ => rfl) (fun v2 => ?_)
      refine gq_if (fun _ => ?_) (fun _ => ?_)
      · exact gq_ret
      · exact gq_ret
    · exact q_X11_kept_12 θ Gs U
set_option maxHeartbeats 4000000 in
set_option maxRecDepth 100000 in
theorem q_X11_purged (θ : gT) (Gs U : gK → Nat) (x1 : Int32) (x2 : Int32) (x3 : Int32) (hvx0 : gV θ 41 0 0) : gSim true θ Gs U (F_X11_purged (Gs (pk 41 0 0)) x1 x2 x3) (G_X11_purged θ x1 x2 x3) := by
  unfold F_X11_purged G_X11_purged
  refine gq_ck (k := 41) (w := 0) (i := 0) hvx0 rfl (fun _ _ => ⟨_, rfl⟩) ?_
  refine gq_I (k := 41) (w := 0) (i := 0) hvx0 rfl (fun _ _ => ⟨_, rfl, rfl⟩) (fun v1 => ?_)
  refine gq_if (fun _ => ?_) (fun _ => ?_)
  · exact gq_ret
  · refine gq_call (q_X11_isDomain θ Gs U x1 hvx0) (fun v2 => ?_)
    refine gq_if (fun _ => ?_) (fun _ => ?_)
    · exact gq_ret
    · refine gq_if (fun _ => ?_) (fun _ => ?_)
      · refine gq_if (fun _ => ?_) (fun _ => ?_)
        · exact gq_ret
        · refine gq_if (fun _ => ?_) (fun _ => ?_)
          · exact gq_ret
          · refine gq_R (k := 41) (w := 0) (i := 0) hvx0 rfl (fun _ _ => ⟨_, rfl, rfl⟩) ?_
            refine gq_la (k := 61) (w := 0) (i := 0) (gv_k0 61 rfl hvx0) rfl (fun _ _ => rfl) (fun v3 => ?_)
            exact gq_ret
      refine gq_if (fun _ => ?_) (fun _ => ?_)
      · refine gq_if (fun _ => ?_) (fun _ => ?_)
        · exact gq_ret
        · refine gq_if (fun _ => ?_) (fun _ => ?_)
          · exact gq_ret
          · refine gq_R (k := 41) (w := 0) (i := 0) hvx0 rfl (fun _ _ => ⟨_, rfl, rfl⟩) ?_
            refine gq_la (k := 62) (w := 0) (i := 0) (gv_k0 62 rfl hvx0) rfl (fun _ _ => rfl) (fun v4 => ?_)
            exact gq_ret
      refine gq_if (fun _ => ?_) (fun _ => ?_)
      · refine gq_if (fun _ => ?_) (fun _ => ?_)
        · exact gq_ret
        · refine gq_R (k := 41) (w := 0) (i := 0) hvx0 rfl (fun _ _ => ⟨_, rfl, rfl⟩) ?_
          refine gq_la (k := 68) (w := 0) (i := 0) (gv_k0 68 rfl hvx0) rfl (fun _ _ => rfl) (fun v5 => ?_)
          refine gq_if (fun _ => ?_) (fun _ => ?_)
          · exact gq_ret
          · refine gq_R (k := 41) (w := 0) (i := 0) hvx0 rfl (fun _ _ => ⟨_, rfl, rfl⟩) ?_
            refine gq_la (k := 67) (w := 0) (i := 0) (gv_k0 67 rfl hvx0) rfl (fun _ _ => rfl) (fun v6 => ?_)
            exact gq_ret
      refine gq_if (fun _ => ?_) (fun _ => ?_)
      · refine gq_R (k := 41) (w := 0) (i := 0) hvx0 rfl (fun _ _ => ⟨_, rfl, rfl⟩) ?_
        refine gq_la (k := 63) (w := 0) (i := 0) (gv_k0 63 rfl hvx0) rfl (fun _ _ => rfl) (fun v7 => ?_)
        exact gq_ret
      refine gq_if (fun _ => ?_) (fun _ => ?_)
      · refine gq_R (k := 41) (w := 0) (i := 0) hvx0 rfl (fun _ _ => ⟨_, rfl, rfl⟩) ?_
        refine gq_la (k := 64) (w := 0) (i := 0) (gv_k0 64 rfl hvx0) rfl (fun _ _ => rfl) (fun v8 => ?_)
        exact gq_ret
      refine gq_if (fun _ => ?_) (fun _ => ?_)
      · refine gq_R (k := 41) (w := 0) (i := 0) hvx0 rfl (fun _ _ => ⟨_, rfl, rfl⟩) ?_
        refine gq_la (k := 68) (w := 0) (i := 0) (gv_k0 68 rfl hvx0) rfl (fun _ _ => rfl) (fun v9 => ?_)
        exact gq_ret
      refine gq_if (fun _ => ?_) (fun _ => ?_)
      · refine gq_R (k := 41) (w := 0) (i := 0) hvx0 rfl (fun _ _ => ⟨_, rfl, rfl⟩) ?_
        refine gq_la (k := 69) (w := 0) (i := 0) (gv_k0 69 rfl hvx0) rfl (fun _ _ => rfl) (fun v10 => ?_)
        exact gq_ret
      refine gq_if (fun _ => ?_) (fun _ => ?_)
      · refine gq_R (k := 41) (w := 0) (i := 0) hvx0 rfl (fun _ _ => ⟨_, rfl, rfl⟩) ?_
        refine gq_la (k := 70) (w := 0) (i := 0) (gv_k0 70 rfl hvx0) rfl (fun _ _ => rfl) (fun v11 => ?_)
        exact gq_ret
      exact gq_ret
set_option maxHeartbeats 4000000 in
set_option maxRecDepth 100000 in
theorem q_X11_areAlike_99 (θ : gT) (Gs U : gK → Nat) (f12 : Nat → Int32 → Int32 → Int32 → Int32 → Int32 → mo_M Int32) (f50 : Nat → Int32 → Int32 → Int32 → Int32 → Int32 → Int32 → mo_M Int32) (k12 : Int32 → Int32 → Int32 → Int32 → Int32 → gM Int32) (k50 : Int32 → Int32 → Int32 → Int32 → Int32 → Int32 → gM Int32) (hk12 : ∀  (x3 : Int32) (x4 : Int32) (x5 : Int32) (x6 : Int32) (x7 : Int32) (hvx0 : gV θ 41 0 0), gSim true θ Gs U (f12 (Gs (pk 41 0 0)) x3 x4 x5 x6 x7) (k12 x3 x4 x5 x6 x7)) (hk50 : ∀  (x3 : Int32) (x4 : Int32) (x5 : Int32) (x6 : Int32) (x7 : Int32) (x8 : Int32) (hvx0 : gV θ 41 0 0), gSim true θ Gs U (f50 (Gs (pk 41 0 0)) x3 x4 x5 x6 x7 x8) (k50 x3 x4 x5 x6 x7 x8)) (x3 : Int32) (x4 : Int32) (x5 : Int32) (x7 : Int32) (x8 : Int32) (s0 : Int32) (hvx0 : gV θ 41 0 0) : gSim true θ Gs U (F_X11_areAlike_99 f12 f50 (Gs (pk 41 0 0)) x3 x4 x5 x7 x8 s0) (G_X11_areAlike_99 θ k12 k50 x3 x4 x5 x7 x8 s0) := by
  unfold F_X11_areAlike_99 G_X11_areAlike_99
  exact hk50  x3 x4 x5 s0 x7 (x8 + (1 : Int32)) hvx0
set_option maxHeartbeats 4000000 in
set_option maxRecDepth 100000 in
theorem q_X11_areAlike_98 (θ : gT) (Gs U : gK → Nat) (f12 : Nat → Int32 → Int32 → Int32 → Int32 → Int32 → mo_M Int32) (f50 : Nat → Int32 → Int32 → Int32 → Int32 → Int32 → Int32 → mo_M Int32) (k12 : Int32 → Int32 → Int32 → Int32 → Int32 → gM Int32) (k50 : Int32 → Int32 → Int32 → Int32 → Int32 → Int32 → gM Int32) (hk12 : ∀  (x3 : Int32) (x4 : Int32) (x5 : Int32) (x6 : Int32) (x7 : Int32) (hvx0 : gV θ 41 0 0), gSim true θ Gs U (f12 (Gs (pk 41 0 0)) x3 x4 x5 x6 x7) (k12 x3 x4 x5 x6 x7)) (hk50 : ∀  (x3 : Int32) (x4 : Int32) (x5 : Int32) (x6 : Int32) (x7 : Int32) (x8 : Int32) (hvx0 : gV θ 41 0 0), gSim true θ Gs U (f50 (Gs (pk 41 0 0)) x3 x4 x5 x6 x7 x8) (k50 x3 x4 x5 x6 x7 x8)) (x3 : Int32) (x4 : Int32) (x5 : Int32) (x7 : Int32) (x8 : Int32) (hvx0 : gV θ 41 0 0) : gSim true θ Gs U (F_X11_areAlike_98 f12 f50 (Gs (pk 41 0 0)) x3 x4 x5 x7 x8) (G_X11_areAlike_98 θ k12 k50 x3 x4 x5 x7 x8) := by
  unfold F_X11_areAlike_98 G_X11_areAlike_98
  exact q_X11_areAlike_99 θ Gs U f12 f50 k12 k50 hk12 hk50 x3 x4 x5 x7 x8 (0 : Int32) hvx0
set_option maxHeartbeats 4000000 in
set_option maxRecDepth 100000 in
theorem q_X11_areAlike_107 (θ : gT) (Gs U : gK → Nat) (f12 : Nat → Int32 → Int32 → Int32 → Int32 → Int32 → mo_M Int32) (k12 : Int32 → Int32 → Int32 → Int32 → Int32 → gM Int32) (hk12 : ∀  (x3 : Int32) (x4 : Int32) (x5 : Int32) (x6 : Int32) (x7 : Int32) (hvx0 : gV θ 41 0 0), gSim true θ Gs U (f12 (Gs (pk 41 0 0)) x3 x4 x5 x6 x7) (k12 x3 x4 x5 x6 x7)) (x3 : Int32) (x4 : Int32) (x5 : Int32) (x6 : Int32) (x7 : Int32) (hvx0 : gV θ 41 0 0) : gSim true θ Gs U (F_X11_areAlike_107 f12 (Gs (pk 41 0 0)) x3 x4 x5 x6 x7) (G_X11_areAlike_107 θ k12 x3 x4 x5 x6 x7) := by
  unfold F_X11_areAlike_107 G_X11_areAlike_107
  refine gq_R (k := 41) (w := 0) (i := 0) hvx0 rfl (fun _ _ => ⟨_, rfl, rfl⟩) ?_
  refine gq_la (k := 83) (w := 0) (i := 0) (gv_k0 83 rfl hvx0) rfl (fun _ _ => rfl) (fun v1 => ?_)
  refine gq_R (k := 41) (w := 0) (i := 0) hvx0 rfl (fun _ _ => ⟨_, rfl, rfl⟩) ?_
  refine gq_la (k := 83) (w := 0) (i := 0) (gv_k0 83 rfl hvx0) rfl (fun _ _ => rfl) (fun v2 => ?_)
  exact hk12  x3 v1 v2 x6 (x7 + (1 : Int32)) hvx0
set_option maxHeartbeats 4000000 in
set_option maxRecDepth 100000 in
theorem q_X11_areAlike_50 (θ : gT) (Gs U : gK → Nat) (f12 : Nat → Int32 → Int32 → Int32 → Int32 → Int32 → mo_M Int32) (k12 : Int32 → Int32 → Int32 → Int32 → Int32 → gM Int32) (hk12 : ∀  (x3 : Int32) (x4 : Int32) (x5 : Int32) (x6 : Int32) (x7 : Int32) (hvx0 : gV θ 41 0 0), gSim true θ Gs U (f12 (Gs (pk 41 0 0)) x3 x4 x5 x6 x7) (k12 x3 x4 x5 x6 x7)) : ∀ (fu : Nat) (x3 : Int32) (x4 : Int32) (x5 : Int32) (x6 : Int32) (x7 : Int32) (x8 : Int32) (hvx0 : gV θ 41 0 0), gSim true θ Gs U (F_X11_areAlike_50 f12 fu (Gs (pk 41 0 0)) x3 x4 x5 x6 x7 x8) (G_X11_areAlike_50 θ k12 fu x3 x4 x5 x6 x7 x8) := by
  intro fu
  induction fu with
  | zero =>
    intro x3 x4 x5 x6 x7 x8 hvx0
    unfold G_X11_areAlike_50
    exact gq_no
  | succ fu ih =>
    intro x3 x4 x5 x6 x7 x8 hvx0
    unfold F_X11_areAlike_50 G_X11_areAlike_50
    refine gq_R (k := 41) (w := 0) (i := 0) hvx0 rfl (fun _ _ => ⟨_, rfl, rfl⟩) ?_
    refine gq_la (k := 84) (w := 0) (i := 0) (gv_k0 84 rfl hvx0) rfl (fun _ _ => rfl) (fun v1 => ?_)
    refine gq_if (fun _ => ?_) (fun _ => ?_)
    · exact q_X11_areAlike_107 θ Gs U f12 k12 hk12 x3 x4 x5 x6 x7 hvx0
    · refine gq_if (fun _ => ?_) (fun _ => ?_)
      · exact q_X11_areAlike_98 θ Gs U f12 (F_X11_areAlike_50 f12 fu) k12 (G_X11_areAlike_50 θ k12 fu) hk12 ih x3 x4 x5 x7 x8 hvx0
      · refine gq_R (k := 41) (w := 0) (i := 0) hvx0 rfl (fun _ _ => ⟨_, rfl, rfl⟩) ?_
        refine gq_la (k := 85) (w := 0) (i := 0) (gv_k0 85 rfl hvx0) rfl (fun _ _ => rfl) (fun v2 => ?_)
        refine gq_R (k := 41) (w := 0) (i := 0) hvx0 rfl (fun _ _ => ⟨_, rfl, rfl⟩) ?_
        refine gq_la (k := 85) (w := 0) (i := 0) (gv_k0 85 rfl hvx0) rfl (fun _ _ => rfl) (fun v3 => ?_)
        refine gq_if (fun _ => ?_) (fun _ => ?_)
        · exact q_X11_areAlike_99 θ Gs U f12 (F_X11_areAlike_50 f12 fu) k12 (G_X11_areAlike_50 θ k12 fu) hk12 ih x3 x4 x5 x7 x8 (1 : Int32) hvx0
        · exact q_X11_areAlike_98 θ Gs U f12 (F_X11_areAlike_50 f12 fu) k12 (G_X11_areAlike_50 θ k12 fu) hk12 ih x3 x4 x5 x7 x8 hvx0
set_option maxHeartbeats 4000000 in
set_option maxRecDepth 100000 in
theorem q_X11_areAlike_45 (θ : gT) (Gs U : gK → Nat) (f12 : Nat → Int32 → Int32 → Int32 → Int32 → Int32 → mo_M Int32) (k12 : Int32 → Int32 → Int32 → Int32 → Int32 → gM Int32) (hk12 : ∀  (x3 : Int32) (x4 : Int32) (x5 : Int32) (x6 : Int32) (x7 : Int32) (hvx0 : gV θ 41 0 0), gSim true θ Gs U (f12 (Gs (pk 41 0 0)) x3 x4 x5 x6 x7) (k12 x3 x4 x5 x6 x7)) (x3 : Int32) (x4 : Int32) (x5 : Int32) (x7 : Int32) (s0 : Int32) (hvx0 : gV θ 41 0 0) : gSim true θ Gs U (F_X11_areAlike_45 f12 (Gs (pk 41 0 0)) x3 x4 x5 x7 s0) (G_X11_areAlike_45 θ k12 x3 x4 x5 x7 s0) := by
  unfold F_X11_areAlike_45 G_X11_areAlike_45
  exact q_X11_areAlike_50 θ Gs U f12 k12 hk12 mo_fu x3 x4 x5 s0 x7 (0 : Int32) hvx0
set_option maxHeartbeats 4000000 in
set_option maxRecDepth 100000 in
theorem q_X11_areAlike_12 (θ : gT) (Gs U : gK → Nat)    : ∀ (fu : Nat) (x3 : Int32) (x4 : Int32) (x5 : Int32) (x6 : Int32) (x7 : Int32) (hvx0 : gV θ 41 0 0), gSim true θ Gs U (F_X11_areAlike_12 fu (Gs (pk 41 0 0)) x3 x4 x5 x6 x7) (G_X11_areAlike_12 θ fu x3 x4 x5 x6 x7) := by
  intro fu
  induction fu with
  | zero =>
    intro x3 x4 x5 x6 x7 hvx0
    unfold G_X11_areAlike_12
    exact gq_no
  | succ fu ih =>
    intro x3 x4 x5 x6 x7 hvx0
    unfold F_X11_areAlike_12 G_X11_areAlike_12
    refine gq_if (fun _ => ?_) (fun _ => ?_)
    · exact gq_rz
    · refine gq_if (fun _ => ?_) (fun _ => ?_)
      · exact gq_rz
      · refine gq_R (k := 41) (w := 0) (i := 0) hvx0 rfl (fun _ _ => ⟨_, rfl, rfl⟩) ?_
        refine gq_la (k := 84) (w := 0) (i := 0) (gv_k0 84 rfl hvx0) rfl (fun _ _ => rfl) (fun v1 => ?_)
        refine gq_R (k := 41) (w := 0) (i := 0) hvx0 rfl (fun _ _ => ⟨_, rfl, rfl⟩) ?_
        refine gq_la (k := 84) (w := 0) (i := 0) (gv_k0 84 rfl hvx0) rfl (fun _ _ => rfl) (fun v2 => ?_)
        refine gq_if (fun _ => ?_) (fun _ => ?_)
        · exact q_X11_areAlike_45 θ Gs U (F_X11_areAlike_12  fu) (G_X11_areAlike_12 θ  fu) ih x3 x4 x5 x7 (1 : Int32) hvx0
        · exact q_X11_areAlike_45 θ Gs U (F_X11_areAlike_12  fu) (G_X11_areAlike_12 θ  fu) ih x3 x4 x5 x7 (0 : Int32) hvx0
set_option maxHeartbeats 4000000 in
set_option maxRecDepth 100000 in
theorem q_X11_areAlike (θ : gT) (Gs U : gK → Nat) (x1 : Int32) (x2 : Int32) (x3 : Int32) (hvx0 : gV θ 41 0 0) : gSim true θ Gs U (F_X11_areAlike (Gs (pk 41 0 0)) x1 x2 x3) (G_X11_areAlike θ x1 x2 x3) := by
  unfold F_X11_areAlike G_X11_areAlike
  refine gq_ck (k := 41) (w := 0) (i := 0) hvx0 rfl (fun _ _ => ⟨_, rfl⟩) ?_
  exact q_X11_areAlike_12 θ Gs U mo_fu x3 x1 x2 (1 : Int32) (0 : Int32) hvx0
set_option maxHeartbeats 4000000 in
set_option maxRecDepth 100000 in
theorem q_X11_undisturbed_218 (θ : gT) (Gs U : gK → Nat) (f134 : Nat → Int32 → Int32 → Int32 → Int32 → Int32 → mo_M Int32) (k134 : Int32 → Int32 → Int32 → Int32 → Int32 → gM Int32) (hk134 : ∀  (x1 : Int32) (x3 : Int32) (x4 : Int32) (x5 : Int32) (x6 : Int32) (hvx0 : gV θ 41 0 0), gSim true θ Gs U (f134 (Gs (pk 41 0 0)) x1 x3 x4 x5 x6) (k134 x1 x3 x4 x5 x6)) (x1 : Int32) (x3 : Int32) (x4 : Int32) (x6 : Int32) (s0 : Int32) (hvx0 : gV θ 41 0 0) : gSim true θ Gs U (F_X11_undisturbed_218 f134 (Gs (pk 41 0 0)) x1 x3 x4 x6 s0) (G_X11_undisturbed_218 θ k134 x1 x3 x4 x6 s0) := by
  unfold F_X11_undisturbed_218 G_X11_undisturbed_218
  exact hk134  x1 x3 x4 s0 (x6 + (1 : Int32)) hvx0
set_option maxHeartbeats 4000000 in
set_option maxRecDepth 100000 in
theorem q_X11_undisturbed_213 (θ : gT) (Gs U : gK → Nat) (f134 : Nat → Int32 → Int32 → Int32 → Int32 → Int32 → mo_M Int32) (k134 : Int32 → Int32 → Int32 → Int32 → Int32 → gM Int32) (hk134 : ∀  (x1 : Int32) (x3 : Int32) (x4 : Int32) (x5 : Int32) (x6 : Int32) (hvx0 : gV θ 41 0 0), gSim true θ Gs U (f134 (Gs (pk 41 0 0)) x1 x3 x4 x5 x6) (k134 x1 x3 x4 x5 x6)) (x1 : Int32) (x3 : Int32) (x4 : Int32) (x6 : Int32) (hvx0 : gV θ 41 0 0) : gSim true θ Gs U (F_X11_undisturbed_213 f134 (Gs (pk 41 0 0)) x1 x3 x4 x6) (G_X11_undisturbed_213 θ k134 x1 x3 x4 x6) := by
  unfold F_X11_undisturbed_213 G_X11_undisturbed_213
  exact q_X11_undisturbed_218 θ Gs U f134 k134 hk134 x1 x3 x4 x6 (1 : Int32) hvx0
set_option maxHeartbeats 4000000 in
set_option maxRecDepth 100000 in
theorem q_X11_undisturbed_217 (θ : gT) (Gs U : gK → Nat) (f134 : Nat → Int32 → Int32 → Int32 → Int32 → Int32 → mo_M Int32) (k134 : Int32 → Int32 → Int32 → Int32 → Int32 → gM Int32) (hk134 : ∀  (x1 : Int32) (x3 : Int32) (x4 : Int32) (x5 : Int32) (x6 : Int32) (hvx0 : gV θ 41 0 0), gSim true θ Gs U (f134 (Gs (pk 41 0 0)) x1 x3 x4 x5 x6) (k134 x1 x3 x4 x5 x6)) (x1 : Int32) (x3 : Int32) (x4 : Int32) (x6 : Int32) (hvx0 : gV θ 41 0 0) : gSim true θ Gs U (F_X11_undisturbed_217 f134 (Gs (pk 41 0 0)) x1 x3 x4 x6) (G_X11_undisturbed_217 θ k134 x1 x3 x4 x6) := by
  unfold F_X11_undisturbed_217 G_X11_undisturbed_217
  exact q_X11_undisturbed_218 θ Gs U f134 k134 hk134 x1 x3 x4 x6 (0 : Int32) hvx0
set_option maxHeartbeats 4000000 in
set_option maxRecDepth 100000 in
theorem q_X11_undisturbed_274 (θ : gT) (Gs U : gK → Nat) (f229 : Nat → Int32 → Int32 → Int32 → Int32 → Int32 → mo_M Int32) (k229 : Int32 → Int32 → Int32 → Int32 → Int32 → gM Int32) (hk229 : ∀  (x1 : Int32) (x3 : Int32) (x4 : Int32) (x5 : Int32) (x6 : Int32) (hvx0 : gV θ 41 0 0), gSim true θ Gs U (f229 (Gs (pk 41 0 0)) x1 x3 x4 x5 x6) (k229 x1 x3 x4 x5 x6)) (x1 : Int32) (x3 : Int32) (x4 : Int32) (x6 : Int32) (s0 : Int32) (hvx0 : gV θ 41 0 0) : gSim true θ Gs U (F_X11_undisturbed_274 f229 (Gs (pk 41 0 0)) x1 x3 x4 x6 s0) (G_X11_undisturbed_274 θ k229 x1 x3 x4 x6 s0) := by
  unfold F_X11_undisturbed_274 G_X11_undisturbed_274
  exact hk229  x1 x3 x4 s0 (x6 + (1 : Int32)) hvx0
set_option maxHeartbeats 4000000 in
set_option maxRecDepth 100000 in
theorem q_X11_undisturbed_273 (θ : gT) (Gs U : gK → Nat) (f229 : Nat → Int32 → Int32 → Int32 → Int32 → Int32 → mo_M Int32) (k229 : Int32 → Int32 → Int32 → Int32 → Int32 → gM Int32) (hk229 : ∀  (x1 : Int32) (x3 : Int32) (x4 : Int32) (x5 : Int32) (x6 : Int32) (hvx0 : gV θ 41 0 0), gSim true θ Gs U (f229 (Gs (pk 41 0 0)) x1 x3 x4 x5 x6) (k229 x1 x3 x4 x5 x6)) (x1 : Int32) (x3 : Int32) (x4 : Int32) (x6 : Int32) (hvx0 : gV θ 41 0 0) : gSim true θ Gs U (F_X11_undisturbed_273 f229 (Gs (pk 41 0 0)) x1 x3 x4 x6) (G_X11_undisturbed_273 θ k229 x1 x3 x4 x6) := by
  unfold F_X11_undisturbed_273 G_X11_undisturbed_273
  exact q_X11_undisturbed_274 θ Gs U f229 k229 hk229 x1 x3 x4 x6 (0 : Int32) hvx0
set_option maxHeartbeats 4000000 in
set_option maxRecDepth 100000 in
theorem q_X11_undisturbed_336 (θ : gT) (Gs U : gK → Nat) (f285 : Nat → Int32 → Int32 → Int32 → Int32 → Int32 → mo_M Int32) (k285 : Int32 → Int32 → Int32 → Int32 → Int32 → gM Int32) (hk285 : ∀  (x1 : Int32) (x3 : Int32) (x4 : Int32) (x5 : Int32) (x6 : Int32) (hvx0 : gV θ 41 0 0), gSim true θ Gs U (f285 (Gs (pk 41 0 0)) x1 x3 x4 x5 x6) (k285 x1 x3 x4 x5 x6)) (x1 : Int32) (x3 : Int32) (x4 : Int32) (x6 : Int32) (s0 : Int32) (hvx0 : gV θ 41 0 0) : gSim true θ Gs U (F_X11_undisturbed_336 f285 (Gs (pk 41 0 0)) x1 x3 x4 x6 s0) (G_X11_undisturbed_336 θ k285 x1 x3 x4 x6 s0) := by
  unfold F_X11_undisturbed_336 G_X11_undisturbed_336
  exact hk285  x1 x3 x4 s0 (x6 + (1 : Int32)) hvx0
set_option maxHeartbeats 4000000 in
set_option maxRecDepth 100000 in
theorem q_X11_undisturbed_335 (θ : gT) (Gs U : gK → Nat) (f285 : Nat → Int32 → Int32 → Int32 → Int32 → Int32 → mo_M Int32) (k285 : Int32 → Int32 → Int32 → Int32 → Int32 → gM Int32) (hk285 : ∀  (x1 : Int32) (x3 : Int32) (x4 : Int32) (x5 : Int32) (x6 : Int32) (hvx0 : gV θ 41 0 0), gSim true θ Gs U (f285 (Gs (pk 41 0 0)) x1 x3 x4 x5 x6) (k285 x1 x3 x4 x5 x6)) (x1 : Int32) (x3 : Int32) (x4 : Int32) (x6 : Int32) (hvx0 : gV θ 41 0 0) : gSim true θ Gs U (F_X11_undisturbed_335 f285 (Gs (pk 41 0 0)) x1 x3 x4 x6) (G_X11_undisturbed_335 θ k285 x1 x3 x4 x6) := by
  unfold F_X11_undisturbed_335 G_X11_undisturbed_335
  exact q_X11_undisturbed_336 θ Gs U f285 k285 hk285 x1 x3 x4 x6 (0 : Int32) hvx0
set_option maxHeartbeats 4000000 in
set_option maxRecDepth 100000 in
theorem q_X11_undisturbed_543 (θ : gT) (Gs U : gK → Nat) (f347 : Nat → Int32 → Int32 → Int32 → mo_M Int32) (f500 : Nat → Int32 → Int32 → Int32 → Int32 → Int32 → Int32 → mo_M Int32) (k347 : Int32 → Int32 → Int32 → gM Int32) (k500 : Int32 → Int32 → Int32 → Int32 → Int32 → Int32 → gM Int32) (hk347 : ∀  (x1 : Int32) (x5 : Int32) (x6 : Int32) (hvx0 : gV θ 41 0 0), gSim true θ Gs U (f347 (Gs (pk 41 0 0)) x1 x5 x6) (k347 x1 x5 x6)) (hk500 : ∀  (x1 : Int32) (x5 : Int32) (x6 : Int32) (x7 : Int32) (x8 : Int32) (x9 : Int32) (hvx0 : gV θ 41 0 0), gSim true θ Gs U (f500 (Gs (pk 41 0 0)) x1 x5 x6 x7 x8 x9) (k500 x1 x5 x6 x7 x8 x9)) (x1 : Int32) (x6 : Int32) (x7 : Int32) (x8 : Int32) (x9 : Int32) (s0 : Int32) (hvx0 : gV θ 41 0 0) : gSim true θ Gs U (F_X11_undisturbed_543 f347 f500 (Gs (pk 41 0 0)) x1 x6 x7 x8 x9 s0) (G_X11_undisturbed_543 θ k347 k500 x1 x6 x7 x8 x9 s0) := by
  unfold F_X11_undisturbed_543 G_X11_undisturbed_543
  exact hk500  x1 s0 x6 x7 x8 (x9 + (1 : Int32)) hvx0
set_option maxHeartbeats 4000000 in
set_option maxRecDepth 100000 in
theorem q_X11_undisturbed_542 (θ : gT) (Gs U : gK → Nat) (f347 : Nat → Int32 → Int32 → Int32 → mo_M Int32) (f500 : Nat → Int32 → Int32 → Int32 → Int32 → Int32 → Int32 → mo_M Int32) (k347 : Int32 → Int32 → Int32 → gM Int32) (k500 : Int32 → Int32 → Int32 → Int32 → Int32 → Int32 → gM Int32) (hk347 : ∀  (x1 : Int32) (x5 : Int32) (x6 : Int32) (hvx0 : gV θ 41 0 0), gSim true θ Gs U (f347 (Gs (pk 41 0 0)) x1 x5 x6) (k347 x1 x5 x6)) (hk500 : ∀  (x1 : Int32) (x5 : Int32) (x6 : Int32) (x7 : Int32) (x8 : Int32) (x9 : Int32) (hvx0 : gV θ 41 0 0), gSim true θ Gs U (f500 (Gs (pk 41 0 0)) x1 x5 x6 x7 x8 x9) (k500 x1 x5 x6 x7 x8 x9)) (x1 : Int32) (x6 : Int32) (x7 : Int32) (x8 : Int32) (x9 : Int32) (hvx0 : gV θ 41 0 0) : gSim true θ Gs U (F_X11_undisturbed_542 f347 f500 (Gs (pk 41 0 0)) x1 x6 x7 x8 x9) (G_X11_undisturbed_542 θ k347 k500 x1 x6 x7 x8 x9) := by
  unfold F_X11_undisturbed_542 G_X11_undisturbed_542
  exact q_X11_undisturbed_543 θ Gs U f347 f500 k347 k500 hk347 hk500 x1 x6 x7 x8 x9 (0 : Int32) hvx0
set_option maxHeartbeats 4000000 in
set_option maxRecDepth 100000 in
theorem q_X11_undisturbed_551 (θ : gT) (Gs U : gK → Nat) (f347 : Nat → Int32 → Int32 → Int32 → mo_M Int32) (k347 : Int32 → Int32 → Int32 → gM Int32) (hk347 : ∀  (x1 : Int32) (x5 : Int32) (x6 : Int32) (hvx0 : gV θ 41 0 0), gSim true θ Gs U (f347 (Gs (pk 41 0 0)) x1 x5 x6) (k347 x1 x5 x6)) (x1 : Int32) (x5 : Int32) (x6 : Int32) (hvx0 : gV θ 41 0 0) : gSim true θ Gs U (F_X11_undisturbed_551 f347 (Gs (pk 41 0 0)) x1 x5 x6) (G_X11_undisturbed_551 θ k347 x1 x5 x6) := by
  unfold F_X11_undisturbed_551 G_X11_undisturbed_551
  exact hk347  x1 x5 (x6 + (1 : Int32)) hvx0
set_option maxHeartbeats 4000000 in
set_option maxRecDepth 100000 in
theorem q_X11_undisturbed_500 (θ : gT) (Gs U : gK → Nat) (f347 : Nat → Int32 → Int32 → Int32 → mo_M Int32) (k347 : Int32 → Int32 → Int32 → gM Int32) (hk347 : ∀  (x1 : Int32) (x5 : Int32) (x6 : Int32) (hvx0 : gV θ 41 0 0), gSim true θ Gs U (f347 (Gs (pk 41 0 0)) x1 x5 x6) (k347 x1 x5 x6)) : ∀ (fu : Nat) (x1 : Int32) (x5 : Int32) (x6 : Int32) (x7 : Int32) (x8 : Int32) (x9 : Int32) (hvx0 : gV θ 41 0 0), gSim true θ Gs U (F_X11_undisturbed_500 f347 fu (Gs (pk 41 0 0)) x1 x5 x6 x7 x8 x9) (G_X11_undisturbed_500 θ k347 fu x1 x5 x6 x7 x8 x9) := by
  intro fu
  induction fu with
  | zero =>
    intro x1 x5 x6 x7 x8 x9 hvx0
    unfold G_X11_undisturbed_500
    exact gq_no
  | succ fu ih =>
    intro x1 x5 x6 x7 x8 x9 hvx0
    unfold F_X11_undisturbed_500 G_X11_undisturbed_500
    refine gq_if (fun _ => ?_) (fun _ => ?_)
    · exact q_X11_undisturbed_551 θ Gs U f347 k347 hk347 x1 x5 x6 hvx0
    · refine gq_if (fun _ => ?_) (fun _ => ?_)
      · exact q_X11_undisturbed_542 θ Gs U f347 (F_X11_undisturbed_500 f347 fu) k347 (G_X11_undisturbed_500 θ k347 fu) hk347 ih x1 x6 x7 x8 x9 hvx0
      · refine gq_R (k := 41) (w := 0) (i := 0) hvx0 rfl (fun _ _ => ⟨_, rfl, rfl⟩) ?_
        refine gq_la (k := 80) (w := 0) (i := 0) (gv_k0 80 rfl hvx0) rfl (fun _ _ => rfl) (fun v1 => ?_)
        refine gq_R (k := 41) (w := 0) (i := 0) hvx0 rfl (fun _ _ => ⟨_, rfl, rfl⟩) ?_
        refine gq_la (k := 80) (w := 0) (i := 0) (gv_k0 80 rfl hvx0) rfl (fun _ _ => rfl) (fun v2 => ?_)
        refine gq_if (fun _ => ?_) (fun _ => ?_)
        · exact q_X11_undisturbed_543 θ Gs U f347 (F_X11_undisturbed_500 f347 fu) k347 (G_X11_undisturbed_500 θ k347 fu) hk347 ih x1 x6 x7 x8 x9 (1 : Int32) hvx0
        · exact q_X11_undisturbed_542 θ Gs U f347 (F_X11_undisturbed_500 f347 fu) k347 (G_X11_undisturbed_500 θ k347 fu) hk347 ih x1 x6 x7 x8 x9 hvx0
set_option maxHeartbeats 4000000 in
set_option maxRecDepth 100000 in
theorem q_X11_undisturbed_495 (θ : gT) (Gs U : gK → Nat) (f347 : Nat → Int32 → Int32 → Int32 → mo_M Int32) (k347 : Int32 → Int32 → Int32 → gM Int32) (hk347 : ∀  (x1 : Int32) (x5 : Int32) (x6 : Int32) (hvx0 : gV θ 41 0 0), gSim true θ Gs U (f347 (Gs (pk 41 0 0)) x1 x5 x6) (k347 x1 x5 x6)) (x1 : Int32) (x6 : Int32) (x7 : Int32) (x8 : Int32) (s0 : Int32) (hvx0 : gV θ 41 0 0) : gSim true θ Gs U (F_X11_undisturbed_495 f347 (Gs (pk 41 0 0)) x1 x6 x7 x8 s0) (G_X11_undisturbed_495 θ k347 x1 x6 x7 x8 s0) := by
  unfold F_X11_undisturbed_495 G_X11_undisturbed_495
  exact q_X11_undisturbed_500 θ Gs U f347 k347 hk347 mo_fu x1 s0 x6 x7 x8 (0 : Int32) hvx0
set_option maxHeartbeats 4000000 in
set_option maxRecDepth 100000 in
theorem q_X11_undisturbed_494 (θ : gT) (Gs U : gK → Nat) (f347 : Nat → Int32 → Int32 → Int32 → mo_M Int32) (k347 : Int32 → Int32 → Int32 → gM Int32) (hk347 : ∀  (x1 : Int32) (x5 : Int32) (x6 : Int32) (hvx0 : gV θ 41 0 0), gSim true θ Gs U (f347 (Gs (pk 41 0 0)) x1 x5 x6) (k347 x1 x5 x6)) (x1 : Int32) (x6 : Int32) (x7 : Int32) (x8 : Int32) (hvx0 : gV θ 41 0 0) : gSim true θ Gs U (F_X11_undisturbed_494 f347 (Gs (pk 41 0 0)) x1 x6 x7 x8) (G_X11_undisturbed_494 θ k347 x1 x6 x7 x8) := by
  unfold F_X11_undisturbed_494 G_X11_undisturbed_494
  exact q_X11_undisturbed_495 θ Gs U f347 k347 hk347 x1 x6 x7 x8 (0 : Int32) hvx0
set_option maxHeartbeats 4000000 in
set_option maxRecDepth 100000 in
theorem q_X11_undisturbed_557 (θ : gT) (Gs U : gK → Nat)    (x5 : Int32)  : gSim true θ Gs U (F_X11_undisturbed_557 x5) (G_X11_undisturbed_557 θ x5) := by
  unfold F_X11_undisturbed_557 G_X11_undisturbed_557
  refine gq_if (fun _ => ?_) (fun _ => ?_)
  · exact gq_ret
  · exact gq_ret
set_option maxHeartbeats 4000000 in
set_option maxRecDepth 100000 in
theorem q_X11_undisturbed_347 (θ : gT) (Gs U : gK → Nat)    : ∀ (fu : Nat) (x1 : Int32) (x5 : Int32) (x6 : Int32) (hvx0 : gV θ 41 0 0), gSim true θ Gs U (F_X11_undisturbed_347 fu (Gs (pk 41 0 0)) x1 x5 x6) (G_X11_undisturbed_347 θ fu x1 x5 x6) := by
  intro fu
  induction fu with
  | zero =>
    intro x1 x5 x6 hvx0
    unfold G_X11_undisturbed_347
    exact gq_no
  | succ fu ih =>
    intro x1 x5 x6 hvx0
    unfold F_X11_undisturbed_347 G_X11_undisturbed_347
    refine gq_I (k := 41) (w := 0) (i := 0) hvx0 rfl (fun _ _ => ⟨_, rfl, rfl⟩) (fun v1 => ?_)
    refine gq_if (fun _ => ?_) (fun _ => ?_)
    · exact q_X11_undisturbed_557 θ Gs U x5
    · refine gq_if (fun _ => ?_) (fun _ => ?_)
      · exact q_X11_undisturbed_557 θ Gs U x5
      · refine gq_R (k := 41) (w := 0) (i := 0) hvx0 rfl (fun _ _ => ⟨_, rfl, rfl⟩) ?_
        refine gq_la (k := 46) (w := 0) (i := 0) (gv_k0 46 rfl hvx0) rfl (fun _ _ => rfl) (fun v2 => ?_)
        refine gq_if (fun _ => ?_) (fun _ => ?_)
        · refine gq_R (k := 41) (w := 0) (i := 0) hvx0 rfl (fun _ _ => ⟨_, rfl, rfl⟩) ?_
          refine gq_la (k := 74) (w := 0) (i := 0) (gv_k0 74 rfl hvx0) rfl (fun _ _ => rfl) (fun v3 => ?_)
          refine gq_R (k := 41) (w := 0) (i := 0) hvx0 rfl (fun _ _ => ⟨_, rfl, rfl⟩) ?_
          refine gq_la (k := 74) (w := 0) (i := 0) (gv_k0 74 rfl hvx0) rfl (fun _ _ => rfl) (fun v4 => ?_)
          refine gq_if (fun _ => ?_) (fun _ => ?_)
          · refine gq_R (k := 41) (w := 0) (i := 0) hvx0 rfl (fun _ _ => ⟨_, rfl, rfl⟩) ?_
            refine gq_la (k := 77) (w := 0) (i := 0) (gv_k0 77 rfl hvx0) rfl (fun _ _ => rfl) (fun v5 => ?_)
            refine gq_R (k := 41) (w := 0) (i := 0) hvx0 rfl (fun _ _ => ⟨_, rfl, rfl⟩) ?_
            refine gq_la (k := 77) (w := 0) (i := 0) (gv_k0 77 rfl hvx0) rfl (fun _ _ => rfl) (fun v6 => ?_)
            refine gq_if (fun _ => ?_) (fun _ => ?_)
            · refine gq_R (k := 41) (w := 0) (i := 0) hvx0 rfl (fun _ _ => ⟨_, rfl, rfl⟩) ?_
              refine gq_la (k := 72) (w := 0) (i := 0) (gv_k0 72 rfl hvx0) rfl (fun _ _ => rfl) (fun v7 => ?_)
              refine gq_R (k := 41) (w := 0) (i := 0) hvx0 rfl (fun _ _ => ⟨_, rfl, rfl⟩) ?_
              refine gq_la (k := 72) (w := 0) (i := 0) (gv_k0 72 rfl hvx0) rfl (fun _ _ => rfl) (fun v8 => ?_)
              refine gq_R (k := 41) (w := 0) (i := 0) hvx0 rfl (fun _ _ => ⟨_, rfl, rfl⟩) ?_
              refine gq_la (k := 74) (w := 0) (i := 0) (gv_k0 74 rfl hvx0) rfl (fun _ _ => rfl) (fun v9 => ?_)
              refine gq_call (q_X11_areAlike θ Gs U v7 v8 v9 hvx0) (fun v10 => ?_)
              refine gq_if (fun _ => ?_) (fun _ => ?_)
              · exact q_X11_undisturbed_494 θ Gs U (F_X11_undisturbed_347  fu) (G_X11_undisturbed_347 θ  fu) ih x1 x6 x6 ((24 : Int32) + x6) hvx0
              · refine gq_R (k := 41) (w := 0) (i := 0) hvx0 rfl (fun _ _ => ⟨_, rfl, rfl⟩) ?_
                refine gq_la (k := 75) (w := 0) (i := 0) (gv_k0 75 rfl hvx0) rfl (fun _ _ => rfl) (fun v11 => ?_)
                refine gq_R (k := 41) (w := 0) (i := 0) hvx0 rfl (fun _ _ => ⟨_, rfl, rfl⟩) ?_
                refine gq_la (k := 75) (w := 0) (i := 0) (gv_k0 75 rfl hvx0) rfl (fun _ _ => rfl) (fun v12 => ?_)
                refine gq_R (k := 41) (w := 0) (i := 0) hvx0 rfl (fun _ _ => ⟨_, rfl, rfl⟩) ?_
                refine gq_la (k := 77) (w := 0) (i := 0) (gv_k0 77 rfl hvx0) rfl (fun _ _ => rfl) (fun v13 => ?_)
                refine gq_call (q_X11_areAlike θ Gs U v11 v12 v13 hvx0) (fun v14 => ?_)
                refine gq_if (fun _ => ?_) (fun _ => ?_)
                · exact q_X11_undisturbed_494 θ Gs U (F_X11_undisturbed_347  fu) (G_X11_undisturbed_347 θ  fu) ih x1 x6 x6 ((24 : Int32) + x6) hvx0
                · refine gq_call (q_X11_ageOf θ Gs U (0 : Int32) x6 hvx0) (fun v15 => ?_)
                  refine gq_call (q_X11_ageOf θ Gs U (2 : Int32) ((24 : Int32) + x6) hvx0) (fun v16 => ?_)
                  refine gq_if (fun _ => ?_) (fun _ => ?_)
                  · exact q_X11_undisturbed_495 θ Gs U (F_X11_undisturbed_347  fu) (G_X11_undisturbed_347 θ  fu) ih x1 x6 x6 ((24 : Int32) + x6) (1 : Int32) hvx0
                  · exact q_X11_undisturbed_494 θ Gs U (F_X11_undisturbed_347  fu) (G_X11_undisturbed_347 θ  fu) ih x1 x6 x6 ((24 : Int32) + x6) hvx0
            · exact q_X11_undisturbed_494 θ Gs U (F_X11_undisturbed_347  fu) (G_X11_undisturbed_347 θ  fu) ih x1 x6 x6 ((24 : Int32) + x6) hvx0
          · exact q_X11_undisturbed_494 θ Gs U (F_X11_undisturbed_347  fu) (G_X11_undisturbed_347 θ  fu) ih x1 x6 x6 ((24 : Int32) + x6) hvx0
        · exact q_X11_undisturbed_551 θ Gs U (F_X11_undisturbed_347  fu) (G_X11_undisturbed_347 θ  fu) ih x1 x5 x6 hvx0
set_option maxHeartbeats 4000000 in
set_option maxRecDepth 100000 in
theorem q_X11_undisturbed_344 (θ : gT) (Gs U : gK → Nat)    (x1 : Int32) (x5 : Int32) (hvx0 : gV θ 41 0 0) : gSim true θ Gs U (F_X11_undisturbed_344 (Gs (pk 41 0 0)) x1 x5) (G_X11_undisturbed_344 θ x1 x5) := by
  unfold F_X11_undisturbed_344 G_X11_undisturbed_344
  exact q_X11_undisturbed_347 θ Gs U mo_fu x1 x5 (0 : Int32) hvx0
set_option maxHeartbeats 4000000 in
set_option maxRecDepth 100000 in
theorem q_X11_undisturbed_285 (θ : gT) (Gs U : gK → Nat)    : ∀ (fu : Nat) (x1 : Int32) (x3 : Int32) (x4 : Int32) (x5 : Int32) (x6 : Int32) (hvx0 : gV θ 41 0 0), gSim true θ Gs U (F_X11_undisturbed_285 fu (Gs (pk 41 0 0)) x1 x3 x4 x5 x6) (G_X11_undisturbed_285 θ fu x1 x3 x4 x5 x6) := by
  intro fu
  induction fu with
  | zero =>
    intro x1 x3 x4 x5 x6 hvx0
    unfold G_X11_undisturbed_285
    exact gq_no
  | succ fu ih =>
    intro x1 x3 x4 x5 x6 hvx0
    unfold F_X11_undisturbed_285 G_X11_undisturbed_285
    refine gq_R (k := 41) (w := 0) (i := 0) hvx0 rfl (fun _ _ => ⟨_, rfl, rfl⟩) ?_
    refine gq_la (k := 68) (w := 0) (i := 0) (gv_k0 68 rfl hvx0) rfl (fun _ _ => rfl) (fun v1 => ?_)
    refine gq_if (fun _ => ?_) (fun _ => ?_)
    · exact q_X11_undisturbed_344 θ Gs U x1 x5 hvx0
    · refine gq_if (fun _ => ?_) (fun _ => ?_)
      · exact q_X11_undisturbed_335 θ Gs U (F_X11_undisturbed_285  fu) (G_X11_undisturbed_285 θ  fu) ih x1 x3 x4 x6 hvx0
      · refine gq_R (k := 41) (w := 0) (i := 0) hvx0 rfl (fun _ _ => ⟨_, rfl, rfl⟩) ?_
        refine gq_la (k := 67) (w := 0) (i := 0) (gv_k0 67 rfl hvx0) rfl (fun _ _ => rfl) (fun v2 => ?_)
        refine gq_R (k := 41) (w := 0) (i := 0) hvx0 rfl (fun _ _ => ⟨_, rfl, rfl⟩) ?_
        refine gq_la (k := 67) (w := 0) (i := 0) (gv_k0 67 rfl hvx0) rfl (fun _ _ => rfl) (fun v3 => ?_)
        refine gq_if (fun _ => ?_) (fun _ => ?_)
        · exact q_X11_undisturbed_336 θ Gs U (F_X11_undisturbed_285  fu) (G_X11_undisturbed_285 θ  fu) ih x1 x3 x4 x6 (1 : Int32) hvx0
        · exact q_X11_undisturbed_335 θ Gs U (F_X11_undisturbed_285  fu) (G_X11_undisturbed_285 θ  fu) ih x1 x3 x4 x6 hvx0
set_option maxHeartbeats 4000000 in
set_option maxRecDepth 100000 in
theorem q_X11_undisturbed_282 (θ : gT) (Gs U : gK → Nat)    (x1 : Int32) (x3 : Int32) (x4 : Int32) (x5 : Int32) (hvx0 : gV θ 41 0 0) : gSim true θ Gs U (F_X11_undisturbed_282 (Gs (pk 41 0 0)) x1 x3 x4 x5) (G_X11_undisturbed_282 θ x1 x3 x4 x5) := by
  unfold F_X11_undisturbed_282 G_X11_undisturbed_282
  exact q_X11_undisturbed_285 θ Gs U mo_fu x1 x3 x4 x5 (0 : Int32) hvx0
set_option maxHeartbeats 4000000 in
set_option maxRecDepth 100000 in
theorem q_X11_undisturbed_229 (θ : gT) (Gs U : gK → Nat)    : ∀ (fu : Nat) (x1 : Int32) (x3 : Int32) (x4 : Int32) (x5 : Int32) (x6 : Int32) (hvx0 : gV θ 41 0 0), gSim true θ Gs U (F_X11_undisturbed_229 fu (Gs (pk 41 0 0)) x1 x3 x4 x5 x6) (G_X11_undisturbed_229 θ fu x1 x3 x4 x5 x6) := by
  intro fu
  induction fu with
  | zero =>
    intro x1 x3 x4 x5 x6 hvx0
    unfold G_X11_undisturbed_229
    exact gq_no
  | succ fu ih =>
    intro x1 x3 x4 x5 x6 hvx0
    unfold F_X11_undisturbed_229 G_X11_undisturbed_229
    refine gq_if (fun _ => ?_) (fun _ => ?_)
    · exact q_X11_undisturbed_282 θ Gs U x1 x3 x4 x5 hvx0
    · refine gq_if (fun _ => ?_) (fun _ => ?_)
      · exact q_X11_undisturbed_273 θ Gs U (F_X11_undisturbed_229  fu) (G_X11_undisturbed_229 θ  fu) ih x1 x3 x4 x6 hvx0
      · refine gq_R (k := 41) (w := 0) (i := 0) hvx0 rfl (fun _ _ => ⟨_, rfl, rfl⟩) ?_
        refine gq_la (k := 62) (w := 0) (i := 0) (gv_k0 62 rfl hvx0) rfl (fun _ _ => rfl) (fun v1 => ?_)
        refine gq_R (k := 41) (w := 0) (i := 0) hvx0 rfl (fun _ _ => ⟨_, rfl, rfl⟩) ?_
        refine gq_la (k := 62) (w := 0) (i := 0) (gv_k0 62 rfl hvx0) rfl (fun _ _ => rfl) (fun v2 => ?_)
        refine gq_if (fun _ => ?_) (fun _ => ?_)
        · exact q_X11_undisturbed_274 θ Gs U (F_X11_undisturbed_229  fu) (G_X11_undisturbed_229 θ  fu) ih x1 x3 x4 x6 (1 : Int32) hvx0
        · exact q_X11_undisturbed_273 θ Gs U (F_X11_undisturbed_229  fu) (G_X11_undisturbed_229 θ  fu) ih x1 x3 x4 x6 hvx0
set_option maxHeartbeats 4000000 in
set_option maxRecDepth 100000 in
theorem q_X11_undisturbed_226 (θ : gT) (Gs U : gK → Nat)    (x1 : Int32) (x3 : Int32) (x4 : Int32) (x5 : Int32) (hvx0 : gV θ 41 0 0) : gSim true θ Gs U (F_X11_undisturbed_226 (Gs (pk 41 0 0)) x1 x3 x4 x5) (G_X11_undisturbed_226 θ x1 x3 x4 x5) := by
  unfold F_X11_undisturbed_226 G_X11_undisturbed_226
  exact q_X11_undisturbed_229 θ Gs U mo_fu x1 x3 x4 x5 (0 : Int32) hvx0
set_option maxHeartbeats 4000000 in
set_option maxRecDepth 100000 in
theorem q_X11_undisturbed_134 (θ : gT) (Gs U : gK → Nat)    : ∀ (fu : Nat) (x1 : Int32) (x3 : Int32) (x4 : Int32) (x5 : Int32) (x6 : Int32) (hvx0 : gV θ 41 0 0), gSim true θ Gs U (F_X11_undisturbed_134 fu (Gs (pk 41 0 0)) x1 x3 x4 x5 x6) (G_X11_undisturbed_134 θ fu x1 x3 x4 x5 x6) := by
  intro fu
  induction fu with
  | zero =>
    intro x1 x3 x4 x5 x6 hvx0
    unfold G_X11_undisturbed_134
    exact gq_no
  | succ fu ih =>
    intro x1 x3 x4 x5 x6 hvx0
    unfold F_X11_undisturbed_134 G_X11_undisturbed_134
    refine gq_if (fun _ => ?_) (fun _ => ?_)
    · exact q_X11_undisturbed_226 θ Gs U x1 x3 x4 x5 hvx0
    · refine gq_if (fun _ => ?_) (fun _ => ?_)
      · exact q_X11_undisturbed_217 θ Gs U (F_X11_undisturbed_134  fu) (G_X11_undisturbed_134 θ  fu) ih x1 x3 x4 x6 hvx0
      · refine gq_R (k := 41) (w := 0) (i := 0) hvx0 rfl (fun _ _ => ⟨_, rfl, rfl⟩) ?_
        refine gq_la (k := 61) (w := 0) (i := 0) (gv_k0 61 rfl hvx0) rfl (fun _ _ => rfl) (fun v1 => ?_)
        refine gq_R (k := 41) (w := 0) (i := 0) hvx0 rfl (fun _ _ => ⟨_, rfl, rfl⟩) ?_
        refine gq_la (k := 61) (w := 0) (i := 0) (gv_k0 61 rfl hvx0) rfl (fun _ _ => rfl) (fun v2 => ?_)
        refine gq_if (fun _ => ?_) (fun _ => ?_)
        · refine gq_R (k := 41) (w := 0) (i := 0) hvx0 rfl (fun _ _ => ⟨_, rfl, rfl⟩) ?_
          refine gq_la (k := 66) (w := 0) (i := 0) (gv_k0 66 rfl hvx0) rfl (fun _ _ => rfl) (fun v3 => ?_)
          refine gq_if (fun _ => ?_) (fun _ => ?_)
          · exact q_X11_undisturbed_213 θ Gs U (F_X11_undisturbed_134  fu) (G_X11_undisturbed_134 θ  fu) ih x1 x3 x4 x6 hvx0
          · refine gq_R (k := 41) (w := 0) (i := 0) hvx0 rfl (fun _ _ => ⟨_, rfl, rfl⟩) ?_
            refine gq_la (k := 65) (w := 0) (i := 0) (gv_k0 65 rfl hvx0) rfl (fun _ _ => rfl) (fun v4 => ?_)
            refine gq_R (k := 41) (w := 0) (i := 0) hvx0 rfl (fun _ _ => ⟨_, rfl, rfl⟩) ?_
            refine gq_la (k := 65) (w := 0) (i := 0) (gv_k0 65 rfl hvx0) rfl (fun _ _ => rfl) (fun v5 => ?_)
            refine gq_if (fun _ => ?_) (fun _ => ?_)
            · exact q_X11_undisturbed_213 θ Gs U (F_X11_undisturbed_134  fu) (G_X11_undisturbed_134 θ  fu) ih x1 x3 x4 x6 hvx0
            · exact q_X11_undisturbed_217 θ Gs U (F_X11_undisturbed_134  fu) (G_X11_undisturbed_134 θ  fu) ih x1 x3 x4 x6 hvx0
        · exact q_X11_undisturbed_217 θ Gs U (F_X11_undisturbed_134  fu) (G_X11_undisturbed_134 θ  fu) ih x1 x3 x4 x6 hvx0
set_option maxHeartbeats 4000000 in
set_option maxRecDepth 100000 in
theorem q_X11_undisturbed_129 (θ : gT) (Gs U : gK → Nat)    (x1 : Int32) (x3 : Int32) (x4 : Int32) (s0 : Int32) (hvx0 : gV θ 41 0 0) : gSim true θ Gs U (F_X11_undisturbed_129 (Gs (pk 41 0 0)) x1 x3 x4 s0) (G_X11_undisturbed_129 θ x1 x3 x4 s0) := by
  unfold F_X11_undisturbed_129 G_X11_undisturbed_129
  exact q_X11_undisturbed_134 θ Gs U mo_fu x1 x3 x4 s0 (0 : Int32) hvx0
set_option maxHeartbeats 4000000 in
set_option maxRecDepth 100000 in
theorem q_X11_undisturbed_128 (θ : gT) (Gs U : gK → Nat)    (x1 : Int32) (x3 : Int32) (x4 : Int32) (hvx0 : gV θ 41 0 0) : gSim true θ Gs U (F_X11_undisturbed_128 (Gs (pk 41 0 0)) x1 x3 x4) (G_X11_undisturbed_128 θ x1 x3 x4) := by
  unfold F_X11_undisturbed_128 G_X11_undisturbed_128
  exact q_X11_undisturbed_129 θ Gs U x1 x3 x4 (0 : Int32) hvx0
set_option maxHeartbeats 4000000 in
set_option maxRecDepth 100000 in
theorem q_X11_undisturbed (θ : gT) (Gs U : gK → Nat) (x1 : Int32) (hvx0 : gV θ 41 0 0) : gSim true θ Gs U (F_X11_undisturbed (Gs (pk 41 0 0)) x1) (G_X11_undisturbed θ x1) := by
  unfold F_X11_undisturbed G_X11_undisturbed
  refine gq_ck (k := 41) (w := 0) (i := 0) hvx0 rfl (fun _ _ => ⟨_, rfl⟩) ?_
  refine gq_I (k := 41) (w := 0) (i := 0) hvx0 rfl (fun _ _ => ⟨_, rfl, rfl⟩) (fun v1 => ?_)
  refine gq_if (fun _ => ?_) (fun _ => ?_)
  · exact gq_ret
  · refine gq_call (q_X11_isDomain θ Gs U x1 hvx0) (fun v2 => ?_)
    refine gq_if (fun _ => ?_) (fun _ => ?_)
    · exact gq_ret
    · refine gq_R (k := 41) (w := 0) (i := 0) hvx0 rfl (fun _ _ => ⟨_, rfl, rfl⟩) ?_
      refine gq_call (q_X11_choose θ Gs U x1 95 0 0 hvx0 (gv_k0 95 rfl hvx0) gz_95) (fun v3 => ?_)
      refine gq_R (k := 41) (w := 0) (i := 0) hvx0 rfl (fun _ _ => ⟨_, rfl, rfl⟩) ?_
      refine gq_call (q_X11_again θ Gs U (2 : Int32) 95 0 0 hvx0 (gv_k0 95 rfl hvx0) gz_95) (fun v4 => ?_)
      refine gq_R (k := 41) (w := 0) (i := 0) hvx0 rfl (fun _ _ => ⟨_, rfl, rfl⟩) ?_
      refine gq_la (k := 63) (w := 0) (i := 0) (gv_k0 63 rfl hvx0) rfl (fun _ _ => rfl) (fun v5 => ?_)
      refine gq_R (k := 41) (w := 0) (i := 0) hvx0 rfl (fun _ _ => ⟨_, rfl, rfl⟩) ?_
      refine gq_la (k := 63) (w := 0) (i := 0) (gv_k0 63 rfl hvx0) rfl (fun _ _ => rfl) (fun v6 => ?_)
      refine gq_if (fun _ => ?_) (fun _ => ?_)
      · refine gq_R (k := 41) (w := 0) (i := 0) hvx0 rfl (fun _ _ => ⟨_, rfl, rfl⟩) ?_
        refine gq_la (k := 64) (w := 0) (i := 0) (gv_k0 64 rfl hvx0) rfl (fun _ _ => rfl) (fun v7 => ?_)
        refine gq_R (k := 41) (w := 0) (i := 0) hvx0 rfl (fun _ _ => ⟨_, rfl, rfl⟩) ?_
        refine gq_la (k := 64) (w := 0) (i := 0) (gv_k0 64 rfl hvx0) rfl (fun _ _ => rfl) (fun v8 => ?_)
        refine gq_if (fun _ => ?_) (fun _ => ?_)
        · refine gq_R (k := 41) (w := 0) (i := 0) hvx0 rfl (fun _ _ => ⟨_, rfl, rfl⟩) ?_
          refine gq_la (k := 66) (w := 0) (i := 0) (gv_k0 66 rfl hvx0) rfl (fun _ _ => rfl) (fun v9 => ?_)
          refine gq_R (k := 41) (w := 0) (i := 0) hvx0 rfl (fun _ _ => ⟨_, rfl, rfl⟩) ?_
          refine gq_la (k := 66) (w := 0) (i := 0) (gv_k0 66 rfl hvx0) rfl (fun _ _ => rfl) (fun v10 => ?_)
          refine gq_if (fun _ => ?_) (fun _ => ?_)
          · refine gq_R (k := 41) (w := 0) (i := 0) hvx0 rfl (fun _ _ => ⟨_, rfl, rfl⟩) ?_
            refine gq_la (k := 68) (w := 0) (i := 0) (gv_k0 68 rfl hvx0) rfl (fun _ _ => rfl) (fun v11 => ?_)
            refine gq_R (k := 41) (w := 0) (i := 0) hvx0 rfl (fun _ _ => ⟨_, rfl, rfl⟩) ?_
            refine gq_la (k := 68) (w := 0) (i := 0) (gv_k0 68 rfl hvx0) rfl (fun _ _ => rfl) (fun v12 => ?_)
            refine gq_if (fun _ => ?_) (fun _ => ?_)
            · refine gq_R (k := 41) (w := 0) (i := 0) hvx0 rfl (fun _ _ => ⟨_, rfl, rfl⟩) ?_
              refine gq_la (k := 69) (w := 0) (i := 0) (gv_k0 69 rfl hvx0) rfl (fun _ _ => rfl) (fun v13 => ?_)
              refine gq_R (k := 41) (w := 0) (i := 0) hvx0 rfl (fun _ _ => ⟨_, rfl, rfl⟩) ?_
              refine gq_la (k := 69) (w := 0) (i := 0) (gv_k0 69 rfl hvx0) rfl (fun _ _ => rfl) (fun v14 => ?_)
              refine gq_if (fun _ => ?_) (fun _ => ?_)
              · exact q_X11_undisturbed_129 θ Gs U x1 x1 ((12 : Int32) + x1) (1 : Int32) hvx0
              · exact q_X11_undisturbed_128 θ Gs U x1 x1 ((12 : Int32) + x1) hvx0
            · exact q_X11_undisturbed_128 θ Gs U x1 x1 ((12 : Int32) + x1) hvx0
          · exact q_X11_undisturbed_128 θ Gs U x1 x1 ((12 : Int32) + x1) hvx0
        · exact q_X11_undisturbed_128 θ Gs U x1 x1 ((12 : Int32) + x1) hvx0
      · exact q_X11_undisturbed_128 θ Gs U x1 x1 ((12 : Int32) + x1) hvx0
