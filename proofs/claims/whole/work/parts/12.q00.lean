set_option maxHeartbeats 4000000 in
set_option maxRecDepth 100000 in
theorem q_X0_count (θ : gT) (Gs U : gK → Nat)  (hvx0 : gV θ 32 0 0) : gSim true θ Gs U (F_X0_count (Gs (pk 32 0 0))) (G_X0_count θ ) := by
  unfold F_X0_count G_X0_count
  refine gq_ck (k := 32) (w := 0) (i := 0) hvx0 rfl (fun _ _ => ⟨_, rfl⟩) ?_
  refine gq_R (k := 32) (w := 0) (i := 0) hvx0 rfl (fun _ _ => ⟨_, rfl, rfl⟩) ?_
  refine gq_I (k := 33) (w := 0) (i := 2) (gv_ar hvx0 (by decide)) (gA_row gr_33) (fun _ _ => ⟨_, gC_row gr_33, rfl⟩) (fun v1 => ?_)
  exact gq_ret
set_option maxHeartbeats 4000000 in
set_option maxRecDepth 100000 in
theorem q_X9_add_29 (θ : gT) (Gs U : gK → Nat)    (kx0 : Nat) (wx0 : Nat) (ix0 : Nat) (x1 : Int32) (hvx0 : gV θ kx0 wx0 ix0) (hkx0 : gRowK kx0) : gSim false θ Gs U (F_X9_add_29 (Gs (pk kx0 wx0 ix0)) x1) (G_X9_add_29 θ kx0 wx0 ix0 x1) := by
  unfold F_X9_add_29 G_X9_add_29
  refine gq_R (k := kx0) (w := wx0) (i := ix0) hvx0 (gA_row hkx0) (fun _ _ => ⟨_, gC_row hkx0, rfl⟩) ?_
  refine gq_I (k := kx0) (w := wx0) (i := ix0) hvx0 (gA_row hkx0) (fun _ _ => ⟨_, gC_row hkx0, rfl⟩) (fun v1 => ?_)
  refine gq_sa (k := (kx0 + 1)) (w := wx0) (i := ix0) (gV_rowI hkx0 hvx0) (gA_rowI hkx0) (fun _ _ => gC_rowI hkx0) ?_
  refine gq_I (k := kx0) (w := wx0) (i := ix0) hvx0 (gA_row hkx0) (fun _ _ => ⟨_, gC_row hkx0, rfl⟩) (fun v2 => ?_)
  refine gq_p (k := kx0) (w := wx0) (i := ix0) hvx0 (gA_row hkx0) (fun f n => ⟨_, gC_row hkx0, by simp, by rw [gC_row hkx0]; rfl⟩) ?_
  exact gq_ret
theorem q_X9_add (θ : gT) (Gs U : gK → Nat) (kx0 wx0 ix0 : Nat) (x1 : Int32) (hvx0 : gV θ kx0 wx0 ix0) (hkx0 : gRowK kx0) : gSim false θ Gs U (F_X9_add (Gs (pk kx0 wx0 ix0)) x1) (G_X9_add θ kx0 wx0 ix0 x1) := by
  unfold F_X9_add G_X9_add
  refine gq_ck (k := kx0) (w := wx0) (i := ix0) hvx0 (gA_row hkx0) (fun _ _ => ⟨_, gC_row hkx0⟩) ?_
  refine gq_I (k := kx0) (w := wx0) (i := ix0) hvx0 (gA_row hkx0) (fun _ _ => ⟨_, gC_row hkx0, rfl⟩) (fun v4 => ?_)
  refine gq_R (k := kx0) (w := wx0) (i := ix0) hvx0 (gA_row hkx0) (fun _ _ => ⟨_, gC_row hkx0, rfl⟩) ?_
  refine gq_ln (k := (kx0 + 1)) (w := wx0) (i := ix0) (gV_rowI hkx0 hvx0) (gA_rowI hkx0) (fun _ _ => gC_rowI hkx0) (by decide) (fun v6 => ?_)
  refine gq_if (fun _ => ?_) (fun _ => ?_)
  · refine gq_R (k := kx0) (w := wx0) (i := ix0) hvx0 (gA_row hkx0) (fun _ _ => ⟨_, gC_row hkx0, rfl⟩) ?_
    refine gq_I (k := kx0) (w := wx0) (i := ix0) hvx0 (gA_row hkx0) (fun _ _ => ⟨_, gC_row hkx0, rfl⟩) (fun v9 => ?_)
    exact gq_grow (k := kx0) (w := wx0) (i := ix0) (tl := fun f => [.int (f 1)]) hvx0 (gV_rowI hkx0 hvx0) (gA_row hkx0) (gA_rowI hkx0) (by rcases hkx0 with rfl | rfl | rfl | rfl | rfl | rfl <;> rfl) (by rcases hkx0 with rfl | rfl | rfl | rfl | rfl | rfl <;> (intro k' hk'; simp [gOw] at hk'; exact hk')) (fun _ _ _ => gC_row hkx0) (fun _ _ _ => gC_rowI hkx0) (fun U => q_X9_add_29 θ Gs U kx0 wx0 ix0 x1 hvx0 hkx0)
  · exact q_X9_add_29 θ Gs U kx0 wx0 ix0 x1 hvx0 hkx0
set_option maxHeartbeats 4000000 in
set_option maxRecDepth 100000 in
theorem q_X0_add_21 (θ : gT) (Gs U : gK → Nat)    (x3 : Int32) (x4 : Int32) (is0 : Nat) (s1 : Int32) (hvx0 : gV θ 32 0 0) (hvs0 : gV θ 33 0 is0) : gSim false θ Gs U (F_X0_add_21 (Gs (pk 32 0 0)) x3 x4 (Gs (pk 33 0 is0)) s1) (G_X0_add_21 θ x3 x4 is0 s1) := by
  unfold F_X0_add_21 G_X0_add_21
  refine gq_cal (q_X9_add θ Gs U 33 0 is0 s1 hvs0 gr_33) (fun v1 U => ?_)
  refine gq_R (k := 32) (w := 0) (i := 0) hvx0 rfl (fun _ _ => ⟨_, rfl, rfl⟩) ?_
  refine gq_cal (q_X9_add θ Gs U 33 0 2 x3 (gv_ar hvx0 (by decide)) gr_33) (fun v2 U => ?_)
  refine gq_R (k := 32) (w := 0) (i := 0) hvx0 rfl (fun _ _ => ⟨_, rfl, rfl⟩) ?_
  refine gq_cal (q_X9_add θ Gs U 33 0 3 x4 (gv_ar hvx0 (by decide)) gr_33) (fun v3 U => ?_)
  exact gq_ret
set_option maxHeartbeats 4000000 in
set_option maxRecDepth 100000 in
theorem q_X0_add (θ : gT) (Gs U : gK → Nat) (x1 : Int32) (x2 : Int32) (x3 : Int32) (x4 : Int32) (hvx0 : gV θ 32 0 0) : gSim false θ Gs U (F_X0_add (Gs (pk 32 0 0)) x1 x2 x3 x4) (G_X0_add θ x1 x2 x3 x4) := by
  unfold F_X0_add G_X0_add
  refine gq_ck (k := 32) (w := 0) (i := 0) hvx0 rfl (fun _ _ => ⟨_, rfl⟩) ?_
  refine gq_R (k := 32) (w := 0) (i := 0) hvx0 rfl (fun _ _ => ⟨_, rfl, rfl⟩) ?_
  refine gq_cal (q_X9_add θ Gs U 33 0 0 x1 (gv_ar hvx0 (by decide)) gr_33) (fun v1 U => ?_)
  refine gq_R (k := 32) (w := 0) (i := 0) hvx0 rfl (fun _ _ => ⟨_, rfl, rfl⟩) ?_
  refine gq_if (fun _ => ?_) (fun _ => ?_)
  · exact q_X0_add_21 θ Gs U x3 x4 1 (0 : Int32) hvx0 (gv_ar hvx0 (by decide))
  · exact q_X0_add_21 θ Gs U x3 x4 1 (1 : Int32) hvx0 (gv_ar hvx0 (by decide))
set_option maxHeartbeats 4000000 in
set_option maxRecDepth 100000 in
theorem q_J7_fill_53178_5 (θ : gT) (Gs U : gK → Nat)    : ∀ (fu : Nat) (kx0 : Nat) (wx0 : Nat) (ix0 : Nat) (x1 : Int32) (x2 : Int32) (x3 : Int32) (hvx0 : gV θ kx0 wx0 ix0) (hkx0 : gArK kx0), gSim true θ Gs U (F_J7_fill_53178_5 fu (Gs (pk kx0 wx0 ix0)) x1 x2 x3) (G_J7_fill_53178_5 θ fu kx0 wx0 ix0 x1 x2 x3) := by
  intro fu
  induction fu with
  | zero =>
    intro kx0 wx0 ix0 x1 x2 x3 hvx0 hkx0
    unfold G_J7_fill_53178_5
    exact gq_no
  | succ fu ih =>
    intro kx0 wx0 ix0 x1 x2 x3 hvx0 hkx0
    unfold F_J7_fill_53178_5 G_J7_fill_53178_5
    refine gq_if (fun _ => ?_) (fun _ => ?_)
    · exact gq_ret
    · refine gq_sa (k := kx0) (w := wx0) (i := ix0) hvx0 (gA_arr hkx0) (fun _ _ => gC_arr hkx0) ?_
      exact ih  kx0 wx0 ix0 x1 (x2 + (1 : Int32)) x3 hvx0 hkx0
set_option maxHeartbeats 4000000 in
set_option maxRecDepth 100000 in
theorem q_J7_fill_53178 (θ : gT) (Gs U : gK → Nat) (kx0 : Nat) (wx0 : Nat) (ix0 : Nat) (x1 : Int32) (hvx0 : gV θ kx0 wx0 ix0) (hkx0 : gArK kx0) : gSim true θ Gs U (F_J7_fill_53178 (Gs (pk kx0 wx0 ix0)) x1) (G_J7_fill_53178 θ kx0 wx0 ix0 x1) := by
  unfold F_J7_fill_53178 G_J7_fill_53178
  refine gq_ln (k := kx0) (w := wx0) (i := ix0) hvx0 (gA_arr hkx0) (fun _ _ => gC_arr hkx0) (by decide) (fun v1 => ?_)
  exact q_J7_fill_53178_5 θ Gs U mo_fu kx0 wx0 ix0 x1 (0 : Int32) v1 hvx0 hkx0
set_option maxHeartbeats 4000000 in
set_option maxRecDepth 100000 in
theorem q_X6_clear (θ : gT) (Gs U : gK → Nat) (kx0 : Nat) (wx0 : Nat) (ix0 : Nat) (hvx0 : gV θ kx0 wx0 ix0) (hkx0 : gMsgK kx0) : gSim true θ Gs U (F_X6_clear (U (pk kx0 wx0 ix0))) (G_X6_clear θ kx0 wx0 ix0) := by
  unfold F_X6_clear G_X6_clear
  refine gq_ck (k := kx0) (w := wx0) (i := ix0) hvx0 (gA_msg hkx0) (fun _ _ => ⟨_, gC_msg hkx0⟩) ?_
  refine gq_p (k := kx0) (w := wx0) (i := ix0) hvx0 (gA_msg hkx0) (fun f n => ⟨_, gC_msg hkx0, by simp, by rw [gC_msg hkx0]; rfl⟩) ?_
  refine gq_p (k := kx0) (w := wx0) (i := ix0) hvx0 (gA_msg hkx0) (fun f n => ⟨_, gC_msg hkx0, by simp, by rw [gC_msg hkx0]; rfl⟩) ?_
  exact gq_ret
set_option maxHeartbeats 4000000 in
set_option maxRecDepth 100000 in
theorem q_X1_reset (θ : gT) (Gs U : gK → Nat) (wx0 : Nat) (ix0 : Nat) (hvx0 : gV θ 26 wx0 ix0) : gSim true θ Gs U (F_X1_reset (Gs (pk 26 wx0 ix0))) (G_X1_reset θ wx0 ix0) := by
  unfold F_X1_reset G_X1_reset
  refine gq_ck (k := 26) (w := wx0) (i := ix0) hvx0 rfl (fun _ _ => ⟨_, rfl⟩) ?_
  refine gq_R (k := 26) (w := wx0) (i := ix0) hvx0 rfl (fun _ _ => ⟨_, rfl, rfl⟩) ?_
  refine gq_call (q_X6_clear θ Gs U 27 wx0 ix0 hvx0 gm_27) (fun v1 => ?_)
  refine gq_R (k := 26) (w := wx0) (i := ix0) hvx0 rfl (fun _ _ => ⟨_, rfl, rfl⟩) ?_
  refine gq_call (q_X6_clear θ Gs U 29 wx0 ix0 hvx0 gm_29) (fun v2 => ?_)
  refine gq_p (k := 26) (w := wx0) (i := ix0) hvx0 rfl (fun _ _ => ⟨_, rfl, by simp, rfl⟩) ?_
  refine gq_p (k := 26) (w := wx0) (i := ix0) hvx0 rfl (fun _ _ => ⟨_, rfl, by simp, rfl⟩) ?_
  refine gq_R (k := 26) (w := wx0) (i := ix0) hvx0 rfl (fun _ _ => ⟨_, rfl, rfl⟩) ?_
  refine gq_call (q_J7_fill_53178 θ Gs U 31 wx0 ix0 (0 : Int32) hvx0 ga_31) (fun v3 => ?_)
  refine gq_p (k := 26) (w := wx0) (i := ix0) hvx0 rfl (fun _ _ => ⟨_, rfl, by simp, rfl⟩) ?_
  refine gq_p (k := 26) (w := wx0) (i := ix0) hvx0 rfl (fun _ _ => ⟨_, rfl, by simp, rfl⟩) ?_
  exact gq_ret
set_option maxHeartbeats 4000000 in
set_option maxRecDepth 100000 in
theorem q_X6_left (θ : gT) (Gs U : gK → Nat) (kx0 : Nat) (wx0 : Nat) (ix0 : Nat) (hvx0 : gV θ kx0 wx0 ix0) (hkx0 : gMsgK kx0) : gSim true θ Gs U (F_X6_left (U (pk kx0 wx0 ix0))) (G_X6_left θ kx0 wx0 ix0) := by
  unfold F_X6_left G_X6_left
  refine gq_ck (k := kx0) (w := wx0) (i := ix0) hvx0 (gA_msg hkx0) (fun _ _ => ⟨_, gC_msg hkx0⟩) ?_
  refine gq_I (k := kx0) (w := wx0) (i := ix0) hvx0 (gA_msg hkx0) (fun _ _ => ⟨_, gC_msg hkx0, rfl⟩) (fun v1 => ?_)
  refine gq_I (k := kx0) (w := wx0) (i := ix0) hvx0 (gA_msg hkx0) (fun _ _ => ⟨_, gC_msg hkx0, rfl⟩) (fun v2 => ?_)
  exact gq_ret
theorem q_X1_handOver (θ : gT) (Gs U : gK → Nat) (wx0 ix0 : Nat) (hvx0 : gV θ 26 wx0 ix0) : gSim false θ Gs U (F_X1_handOver (Gs (pk 26 wx0 ix0))) (G_X1_handOver θ wx0 ix0) := by
  unfold F_X1_handOver G_X1_handOver
  refine gq_ck (k := 26) (w := wx0) (i := ix0) hvx0 rfl (fun _ _ => ⟨_, rfl⟩) ?_
  refine gq_I (k := 26) (w := wx0) (i := ix0) hvx0 rfl (fun _ _ => ⟨_, rfl, rfl⟩) (fun v1 => ?_)
  refine gq_R (k := 26) (w := wx0) (i := ix0) hvx0 rfl (fun _ _ => ⟨_, rfl, rfl⟩) ?_
  refine gq_call (q_X6_left θ Gs U 27 wx0 ix0 hvx0 gm_27) (fun v3 => ?_)
  refine gq_p (k := 26) (w := wx0) (i := ix0) hvx0 rfl (fun _ _ => ⟨_, rfl, by simp, rfl⟩) ?_
  refine gq_R (k := 26) (w := wx0) (i := ix0) hvx0 rfl (fun _ _ => ⟨_, rfl, rfl⟩) ?_
  refine gq_call (q_X6_clear θ Gs U 27 wx0 ix0 hvx0 gm_27) (fun v5 => ?_)
  refine gq_R (k := 26) (w := wx0) (i := ix0) hvx0 rfl (fun _ _ => ⟨_, rfl, rfl⟩) ?_
  exact gq_swap hvx0
set_option maxHeartbeats 4000000 in
set_option maxRecDepth 100000 in
theorem q_X1_age (θ : gT) (Gs U : gK → Nat) (wx0 : Nat) (ix0 : Nat) (x1 : Int32) (hvx0 : gV θ 26 wx0 ix0) : gSim true θ Gs U (F_X1_age (Gs (pk 26 wx0 ix0)) x1) (G_X1_age θ wx0 ix0 x1) := by
  unfold F_X1_age G_X1_age
  refine gq_ck (k := 26) (w := wx0) (i := ix0) hvx0 rfl (fun _ _ => ⟨_, rfl⟩) ?_
  refine gq_I (k := 26) (w := wx0) (i := ix0) hvx0 rfl (fun _ _ => ⟨_, rfl, rfl⟩) (fun v1 => ?_)
  refine gq_if (fun _ => ?_) (fun _ => ?_)
  · exact gq_ret
  · refine gq_I (k := 26) (w := wx0) (i := ix0) hvx0 rfl (fun _ _ => ⟨_, rfl, rfl⟩) (fun v2 => ?_)
    exact gq_ret
set_option maxHeartbeats 4000000 in
set_option maxRecDepth 100000 in
theorem q_X6_isSameRecord_3 (θ : gT) (Gs U : gK → Nat)    : ∀ (fu : Nat) (kx0 : Nat) (wx0 : Nat) (ix0 : Nat) (x1 : Int32) (kx2 : Nat) (wx2 : Nat) (ix2 : Nat) (x3 : Int32) (x4 : Int32) (hvx0 : gV θ kx0 wx0 ix0) (hkx0 : gMsgK kx0) (hvx2 : gV θ kx2 wx2 ix2) (hkx2 : gMsgK kx2), gSim true θ Gs U (F_X6_isSameRecord_3 fu (U (pk kx0 wx0 ix0)) x1 (U (pk kx2 wx2 ix2)) x3 x4) (G_X6_isSameRecord_3 θ fu kx0 wx0 ix0 x1 kx2 wx2 ix2 x3 x4) := by
  intro fu
  induction fu with
  | zero =>
    intro kx0 wx0 ix0 x1 kx2 wx2 ix2 x3 x4 hvx0 hkx0 hvx2 hkx2
    unfold G_X6_isSameRecord_3
    exact gq_no
  | succ fu ih =>
    intro kx0 wx0 ix0 x1 kx2 wx2 ix2 x3 x4 hvx0 hkx0 hvx2 hkx2
    unfold F_X6_isSameRecord_3 G_X6_isSameRecord_3
    refine gq_R (k := kx0) (w := wx0) (i := ix0) hvx0 (gA_msg hkx0) (fun _ _ => ⟨_, gC_msg hkx0, rfl⟩) ?_
    refine gq_la (k := (kx0 + 1)) (w := wx0) (i := ix0) (gV_msgR hkx0 hvx0) (gA_msgR hkx0) (fun _ _ => gC_msgR hkx0) (fun v1 => ?_)
    refine gq_if (fun _ => ?_) (fun _ => ?_)
    · exact gq_rz
    · refine gq_R (k := kx0) (w := wx0) (i := ix0) hvx0 (gA_msg hkx0) (fun _ _ => ⟨_, gC_msg hkx0, rfl⟩) ?_
      refine gq_la (k := (kx0 + 1)) (w := wx0) (i := ix0) (gV_msgR hkx0 hvx0) (gA_msgR hkx0) (fun _ _ => gC_msgR hkx0) (fun v2 => ?_)
      refine gq_R (k := kx2) (w := wx2) (i := ix2) hvx2 (gA_msg hkx2) (fun _ _ => ⟨_, gC_msg hkx2, rfl⟩) ?_
      refine gq_la (k := (kx2 + 1)) (w := wx2) (i := ix2) (gV_msgR hkx2 hvx2) (gA_msgR hkx2) (fun _ _ => gC_msgR hkx2) (fun v3 => ?_)
      refine gq_if (fun _ => ?_) (fun _ => ?_)
      · exact ih  kx0 wx0 ix0 x1 kx2 wx2 ix2 x3 (x4 + (1 : Int32)) hvx0 hkx0 hvx2 hkx2
      · exact gq_rz
set_option maxHeartbeats 4000000 in
set_option maxRecDepth 100000 in
theorem q_X6_isSameRecord (θ : gT) (Gs U : gK → Nat) (kx0 : Nat) (wx0 : Nat) (ix0 : Nat) (x1 : Int32) (kx2 : Nat) (wx2 : Nat) (ix2 : Nat) (x3 : Int32) (hvx0 : gV θ kx0 wx0 ix0) (hkx0 : gMsgK kx0) (hvx2 : gV θ kx2 wx2 ix2) (hkx2 : gMsgK kx2) : gSim true θ Gs U (F_X6_isSameRecord (U (pk kx0 wx0 ix0)) x1 (U (pk kx2 wx2 ix2)) x3) (G_X6_isSameRecord θ kx0 wx0 ix0 x1 kx2 wx2 ix2 x3) := by
  unfold F_X6_isSameRecord G_X6_isSameRecord
  refine gq_ck (k := kx0) (w := wx0) (i := ix0) hvx0 (gA_msg hkx0) (fun _ _ => ⟨_, gC_msg hkx0⟩) ?_
  exact q_X6_isSameRecord_3 θ Gs U mo_fu kx0 wx0 ix0 x1 kx2 wx2 ix2 x3 (0 : Int32) hvx0 hkx0 hvx2 hkx2
set_option maxHeartbeats 4000000 in
set_option maxRecDepth 100000 in
theorem q_X6_isSame_15 (θ : gT) (Gs U : gK → Nat)    : ∀ (fu : Nat) (kx0 : Nat) (wx0 : Nat) (ix0 : Nat) (kx1 : Nat) (wx1 : Nat) (ix1 : Nat) (x2 : Int32) (hvx0 : gV θ kx0 wx0 ix0) (hkx0 : gMsgK kx0) (hvx1 : gV θ kx1 wx1 ix1) (hkx1 : gMsgK kx1), gSim true θ Gs U (F_X6_isSame_15 fu (U (pk kx0 wx0 ix0)) (U (pk kx1 wx1 ix1)) x2) (G_X6_isSame_15 θ fu kx0 wx0 ix0 kx1 wx1 ix1 x2) := by
  intro fu
  induction fu with
  | zero =>
    intro kx0 wx0 ix0 kx1 wx1 ix1 x2 hvx0 hkx0 hvx1 hkx1
    unfold G_X6_isSame_15
    exact gq_no
  | succ fu ih =>
    intro kx0 wx0 ix0 kx1 wx1 ix1 x2 hvx0 hkx0 hvx1 hkx1
    unfold F_X6_isSame_15 G_X6_isSame_15
    refine gq_call (q_X6_left θ Gs U kx0 wx0 ix0 hvx0 hkx0) (fun v1 => ?_)
    refine gq_if (fun _ => ?_) (fun _ => ?_)
    · exact gq_rz
    · refine gq_I (k := kx0) (w := wx0) (i := ix0) hvx0 (gA_msg hkx0) (fun _ _ => ⟨_, gC_msg hkx0, rfl⟩) (fun v2 => ?_)
      refine gq_I (k := kx1) (w := wx1) (i := ix1) hvx1 (gA_msg hkx1) (fun _ _ => ⟨_, gC_msg hkx1, rfl⟩) (fun v3 => ?_)
      refine gq_call (q_X6_isSameRecord θ Gs U kx0 wx0 ix0 ((5 : Int32) * (v2 + x2)) kx1 wx1 ix1 ((5 : Int32) * (v3 + x2)) hvx0 hkx0 hvx1 hkx1) (fun v4 => ?_)
      refine gq_if (fun _ => ?_) (fun _ => ?_)
      · exact gq_rz
      · exact ih  kx0 wx0 ix0 kx1 wx1 ix1 (x2 + (1 : Int32)) hvx0 hkx0 hvx1 hkx1
set_option maxHeartbeats 4000000 in
set_option maxRecDepth 100000 in
theorem q_X6_isSame (θ : gT) (Gs U : gK → Nat) (kx0 : Nat) (wx0 : Nat) (ix0 : Nat) (kx1 : Nat) (wx1 : Nat) (ix1 : Nat) (hvx0 : gV θ kx0 wx0 ix0) (hkx0 : gMsgK kx0) (hvx1 : gV θ kx1 wx1 ix1) (hkx1 : gMsgK kx1) : gSim true θ Gs U (F_X6_isSame (U (pk kx0 wx0 ix0)) (U (pk kx1 wx1 ix1))) (G_X6_isSame θ kx0 wx0 ix0 kx1 wx1 ix1) := by
  unfold F_X6_isSame G_X6_isSame
  refine gq_ck (k := kx0) (w := wx0) (i := ix0) hvx0 (gA_msg hkx0) (fun _ _ => ⟨_, gC_msg hkx0⟩) ?_
  refine gq_call (q_X6_left θ Gs U kx0 wx0 ix0 hvx0 hkx0) (fun v1 => ?_)
  refine gq_call (q_X6_left θ Gs U kx1 wx1 ix1 hvx1 hkx1) (fun v2 => ?_)
  refine gq_if (fun _ => ?_) (fun _ => ?_)
  · exact q_X6_isSame_15 θ Gs U mo_fu kx0 wx0 ix0 kx1 wx1 ix1 (0 : Int32) hvx0 hkx0 hvx1 hkx1
  · exact gq_rz
set_option maxHeartbeats 4000000 in
set_option maxRecDepth 100000 in
theorem q_X1_looksSame_78 (θ : gT) (Gs U : gK → Nat)    (wx0 : Nat) (ix0 : Nat) (wx1 : Nat) (ix1 : Nat) (x2 : Int32) (hvx0 : gV θ 26 wx0 ix0) (hvx1 : gV θ 26 wx1 ix1) : gSim true θ Gs U (F_X1_looksSame_78 (Gs (pk 26 wx0 ix0)) (Gs (pk 26 wx1 ix1)) x2) (G_X1_looksSame_78 θ wx0 ix0 wx1 ix1 x2) := by
  unfold F_X1_looksSame_78 G_X1_looksSame_78
  refine gq_call (q_X1_age θ Gs U wx0 ix0 x2 hvx0) (fun v1 => ?_)
  refine gq_call (q_X1_age θ Gs U wx1 ix1 x2 hvx1) (fun v2 => ?_)
  refine gq_if (fun _ => ?_) (fun _ => ?_)
  · exact gq_rz
  · exact gq_rz
set_option maxHeartbeats 4000000 in
set_option maxRecDepth 100000 in
theorem q_X1_looksSame_46 (θ : gT) (Gs U : gK → Nat)    : ∀ (fu : Nat) (wx0 : Nat) (ix0 : Nat) (wx1 : Nat) (ix1 : Nat) (x2 : Int32) (x3 : Int32) (hvx0 : gV θ 26 wx0 ix0) (hvx1 : gV θ 26 wx1 ix1), gSim true θ Gs U (F_X1_looksSame_46 fu (Gs (pk 26 wx0 ix0)) (Gs (pk 26 wx1 ix1)) x2 x3) (G_X1_looksSame_46 θ fu wx0 ix0 wx1 ix1 x2 x3) := by
  intro fu
  induction fu with
  | zero =>
    intro wx0 ix0 wx1 ix1 x2 x3 hvx0 hvx1
    unfold G_X1_looksSame_46
    exact gq_no
  | succ fu ih =>
    intro wx0 ix0 wx1 ix1 x2 x3 hvx0 hvx1
    unfold F_X1_looksSame_46 G_X1_looksSame_46
    refine gq_R (k := 26) (w := wx0) (i := ix0) hvx0 rfl (fun _ _ => ⟨_, rfl, rfl⟩) ?_
    refine gq_ln (k := 31) (w := wx0) (i := ix0) hvx0 rfl (fun _ _ => rfl) (by decide) (fun v1 => ?_)
    refine gq_if (fun _ => ?_) (fun _ => ?_)
    · exact q_X1_looksSame_78 θ Gs U wx0 ix0 wx1 ix1 x2 hvx0 hvx1
    · refine gq_R (k := 26) (w := wx0) (i := ix0) hvx0 rfl (fun _ _ => ⟨_, rfl, rfl⟩) ?_
      refine gq_la (k := 31) (w := wx0) (i := ix0) hvx0 rfl (fun _ _ => rfl) (fun v2 => ?_)
      refine gq_R (k := 26) (w := wx1) (i := ix1) hvx1 rfl (fun _ _ => ⟨_, rfl, rfl⟩) ?_
      refine gq_la (k := 31) (w := wx1) (i := ix1) hvx1 rfl (fun _ _ => rfl) (fun v3 => ?_)
      refine gq_if (fun _ => ?_) (fun _ => ?_)
      · exact ih  wx0 ix0 wx1 ix1 x2 (x3 + (1 : Int32)) hvx0 hvx1
      · exact gq_rz
set_option maxHeartbeats 4000000 in
set_option maxRecDepth 100000 in
theorem q_X1_looksSame (θ : gT) (Gs U : gK → Nat) (wx0 : Nat) (ix0 : Nat) (wx1 : Nat) (ix1 : Nat) (x2 : Int32) (hvx0 : gV θ 26 wx0 ix0) (hvx1 : gV θ 26 wx1 ix1) : gSim true θ Gs U (F_X1_looksSame (Gs (pk 26 wx0 ix0)) (Gs (pk 26 wx1 ix1)) x2) (G_X1_looksSame θ wx0 ix0 wx1 ix1 x2) := by
  unfold F_X1_looksSame G_X1_looksSame
  refine gq_ck (k := 26) (w := wx0) (i := ix0) hvx0 rfl (fun _ _ => ⟨_, rfl⟩) ?_
  refine gq_R (k := 26) (w := wx0) (i := ix0) hvx0 rfl (fun _ _ => ⟨_, rfl, rfl⟩) ?_
  refine gq_I (k := 4) (w := 0) (i := ix0) (gv_link hvx0) rfl (fun _ _ => ⟨_, rfl, rfl⟩) (fun v1 => ?_)
  refine gq_if (fun _ => ?_) (fun _ => ?_)
  · refine gq_R (k := 26) (w := wx0) (i := ix0) hvx0 rfl (fun _ _ => ⟨_, rfl, rfl⟩) ?_
    refine gq_R (k := 26) (w := wx1) (i := ix1) hvx1 rfl (fun _ _ => ⟨_, rfl, rfl⟩) ?_
    refine gq_call (q_X6_isSame θ Gs U 27 wx0 ix0 27 wx1 ix1 hvx0 gm_27 hvx1 gm_27) (fun v2 => ?_)
    refine gq_if (fun _ => ?_) (fun _ => ?_)
    · exact gq_rz
    · refine gq_R (k := 26) (w := wx0) (i := ix0) hvx0 rfl (fun _ _ => ⟨_, rfl, rfl⟩) ?_
      refine gq_R (k := 26) (w := wx1) (i := ix1) hvx1 rfl (fun _ _ => ⟨_, rfl, rfl⟩) ?_
      refine gq_call (q_X6_isSame θ Gs U 29 wx0 ix0 29 wx1 ix1 hvx0 gm_29 hvx1 gm_29) (fun v3 => ?_)
      refine gq_if (fun _ => ?_) (fun _ => ?_)
      · exact gq_rz
      · exact gq_rz
  · exact q_X1_looksSame_46 θ Gs U mo_fu wx0 ix0 wx1 ix1 x2 (0 : Int32) hvx0 hvx1
set_option maxHeartbeats 4000000 in
set_option maxRecDepth 100000 in
theorem q_X9_get (θ : gT) (Gs U : gK → Nat) (kx0 : Nat) (wx0 : Nat) (ix0 : Nat) (x1 : Int32) (hvx0 : gV θ kx0 wx0 ix0) (hkx0 : gRowK kx0) : gSim true θ Gs U (F_X9_get (Gs (pk kx0 wx0 ix0)) x1) (G_X9_get θ kx0 wx0 ix0 x1) := by
  unfold F_X9_get G_X9_get
  refine gq_ck (k := kx0) (w := wx0) (i := ix0) hvx0 (gA_row hkx0) (fun _ _ => ⟨_, gC_row hkx0⟩) ?_
  refine gq_if (fun _ => ?_) (fun _ => ?_)
  · exact gq_ret
  · refine gq_I (k := kx0) (w := wx0) (i := ix0) hvx0 (gA_row hkx0) (fun _ _ => ⟨_, gC_row hkx0, rfl⟩) (fun v1 => ?_)
    refine gq_if (fun _ => ?_) (fun _ => ?_)
    · exact gq_ret
    · refine gq_R (k := kx0) (w := wx0) (i := ix0) hvx0 (gA_row hkx0) (fun _ _ => ⟨_, gC_row hkx0, rfl⟩) ?_
      refine gq_la (k := (kx0 + 1)) (w := wx0) (i := ix0) (gV_rowI hkx0 hvx0) (gA_rowI hkx0) (fun _ _ => gC_rowI hkx0) (fun v2 => ?_)
      exact gq_ret
set_option maxHeartbeats 4000000 in
set_option maxRecDepth 100000 in
theorem q_X2_start (θ : gT) (Gs U : gK → Nat) (wx0 : Nat) (hvx0 : gV θ 18 wx0 0) : gSim true θ Gs U (F_X2_start (Gs (pk 18 wx0 0))) (G_X2_start θ wx0) := by
  unfold F_X2_start G_X2_start
  refine gq_ck (k := 18) (w := wx0) (i := 0) hvx0 rfl (fun _ _ => ⟨_, rfl⟩) ?_
  refine gq_p (k := 18) (w := wx0) (i := 0) hvx0 rfl (fun _ _ => ⟨_, rfl, by simp, rfl⟩) ?_
  refine gq_p (k := 18) (w := wx0) (i := 0) hvx0 rfl (fun _ _ => ⟨_, rfl, by simp, rfl⟩) ?_
  refine gq_p (k := 18) (w := wx0) (i := 0) hvx0 rfl (fun _ _ => ⟨_, rfl, by simp, rfl⟩) ?_
  refine gq_R (k := 18) (w := wx0) (i := 0) hvx0 rfl (fun _ _ => ⟨_, rfl, rfl⟩) ?_
  refine gq_R (k := 1) (w := 0) (i := 0) (gv_plan hvx0) rfl (fun _ _ => ⟨_, rfl, rfl⟩) ?_
  refine gq_lq (k := 12) (w := 0) (i := 0) (gv_k0 12 rfl (gv_plan hvx0)) rfl (fun _ _ => rfl) (Nat.le_refl _) (fun j hj => if_pos hj) (fun j1 hj1 => ?_)
  refine gq_call (q_X9_get θ Gs U 13 0 j1 (0 : Int32) (gv_st (gv_k0 12 rfl (gv_plan hvx0)) hj1) gr_13) (fun v2 => ?_)
  refine gq_p (k := 18) (w := wx0) (i := 0) hvx0 rfl (fun _ _ => ⟨_, rfl, by simp, rfl⟩) ?_
  refine gq_p (k := 18) (w := wx0) (i := 0) hvx0 rfl (fun _ _ => ⟨_, rfl, by simp, rfl⟩) ?_
  exact gq_ret
set_option maxHeartbeats 4000000 in
set_option maxRecDepth 100000 in
theorem q_X2_slotDomain (θ : gT) (Gs U : gK → Nat) (wx0 : Nat) (hvx0 : gV θ 18 wx0 0) : gSim true θ Gs U (F_X2_slotDomain (Gs (pk 18 wx0 0))) (G_X2_slotDomain θ wx0) := by
  unfold F_X2_slotDomain G_X2_slotDomain
  refine gq_ck (k := 18) (w := wx0) (i := 0) hvx0 rfl (fun _ _ => ⟨_, rfl⟩) ?_
  refine gq_R (k := 18) (w := wx0) (i := 0) hvx0 rfl (fun _ _ => ⟨_, rfl, rfl⟩) ?_
  refine gq_R (k := 1) (w := 0) (i := 0) (gv_plan hvx0) rfl (fun _ _ => ⟨_, rfl, rfl⟩) ?_
  refine gq_I (k := 18) (w := wx0) (i := 0) hvx0 rfl (fun _ _ => ⟨_, rfl, rfl⟩) (fun v1 => ?_)
  refine gq_lq (k := 9) (w := 0) (i := 0) (gv_k0 9 rfl (gv_plan hvx0)) rfl (fun _ _ => rfl) (Nat.le_refl _) (fun j hj => if_pos hj) (fun j2 hj2 => ?_)
  refine gq_I (k := 18) (w := wx0) (i := 0) hvx0 rfl (fun _ _ => ⟨_, rfl, rfl⟩) (fun v3 => ?_)
  refine gq_call (q_X9_get θ Gs U 10 0 j2 v3 (gv_sd (gv_k0 9 rfl (gv_plan hvx0)) hj2) gr_10) (fun v4 => ?_)
  exact gq_ret
set_option maxHeartbeats 4000000 in
set_option maxRecDepth 100000 in
theorem q_X2_beginsSlot (θ : gT) (Gs U : gK → Nat) (wx0 : Nat) (hvx0 : gV θ 18 wx0 0) : gSim true θ Gs U (F_X2_beginsSlot (Gs (pk 18 wx0 0))) (G_X2_beginsSlot θ wx0) := by
  unfold F_X2_beginsSlot G_X2_beginsSlot
  refine gq_ck (k := 18) (w := wx0) (i := 0) hvx0 rfl (fun _ _ => ⟨_, rfl⟩) ?_
  refine gq_I (k := 18) (w := wx0) (i := 0) hvx0 rfl (fun _ _ => ⟨_, rfl, rfl⟩) (fun v1 => ?_)
  refine gq_R (k := 18) (w := wx0) (i := 0) hvx0 rfl (fun _ _ => ⟨_, rfl, rfl⟩) ?_
  refine gq_R (k := 1) (w := 0) (i := 0) (gv_plan hvx0) rfl (fun _ _ => ⟨_, rfl, rfl⟩) ?_
  refine gq_I (k := 18) (w := wx0) (i := 0) hvx0 rfl (fun _ _ => ⟨_, rfl, rfl⟩) (fun v2 => ?_)
  refine gq_lq (k := 12) (w := 0) (i := 0) (gv_k0 12 rfl (gv_plan hvx0)) rfl (fun _ _ => rfl) (Nat.le_refl _) (fun j hj => if_pos hj) (fun j3 hj3 => ?_)
  refine gq_I (k := 18) (w := wx0) (i := 0) hvx0 rfl (fun _ _ => ⟨_, rfl, rfl⟩) (fun v4 => ?_)
  refine gq_call (q_X9_get θ Gs U 13 0 j3 v4 (gv_st (gv_k0 12 rfl (gv_plan hvx0)) hj3) gr_13) (fun v5 => ?_)
  refine gq_if (fun _ => ?_) (fun _ => ?_)
  · exact gq_rz
  · exact gq_rz
set_option maxHeartbeats 4000000 in
set_option maxRecDepth 100000 in
theorem q_X2_advance_95 (θ : gT) (Gs U : gK → Nat)    (wx0 : Nat) (hvx0 : gV θ 18 wx0 0) : gSim true θ Gs U (F_X2_advance_95 (Gs (pk 18 wx0 0))) (G_X2_advance_95 θ wx0) := by
  unfold F_X2_advance_95 G_X2_advance_95
  refine gq_R (k := 18) (w := wx0) (i := 0) hvx0 rfl (fun _ _ => ⟨_, rfl, rfl⟩) ?_
  refine gq_R (k := 1) (w := 0) (i := 0) (gv_plan hvx0) rfl (fun _ _ => ⟨_, rfl, rfl⟩) ?_
  refine gq_I (k := 18) (w := wx0) (i := 0) hvx0 rfl (fun _ _ => ⟨_, rfl, rfl⟩) (fun v1 => ?_)
  refine gq_lq (k := 12) (w := 0) (i := 0) (gv_k0 12 rfl (gv_plan hvx0)) rfl (fun _ _ => rfl) (Nat.le_refl _) (fun j hj => if_pos hj) (fun j2 hj2 => ?_)
  refine gq_I (k := 18) (w := wx0) (i := 0) hvx0 rfl (fun _ _ => ⟨_, rfl, rfl⟩) (fun v3 => ?_)
  refine gq_call (q_X9_get θ Gs U 13 0 j2 v3 (gv_st (gv_k0 12 rfl (gv_plan hvx0)) hj2) gr_13) (fun v4 => ?_)
  refine gq_p (k := 18) (w := wx0) (i := 0) hvx0 rfl (fun _ _ => ⟨_, rfl, by simp, rfl⟩) ?_
  exact gq_ret
set_option maxHeartbeats 4000000 in
set_option maxRecDepth 100000 in
theorem q_X2_advance_87 (θ : gT) (Gs U : gK → Nat)    (wx0 : Nat) (ws0 : Nat) (s1 : Int32) (hvx0 : gV θ 18 wx0 0) (hvs0 : gV θ 18 ws0 0) : gSim true θ Gs U (F_X2_advance_87 (Gs (pk 18 wx0 0)) (Gs (pk 18 ws0 0)) s1) (G_X2_advance_87 θ wx0 ws0 s1) := by
  unfold F_X2_advance_87 G_X2_advance_87
  refine gq_p (k := 18) (w := ws0) (i := 0) hvs0 rfl (fun _ _ => ⟨_, rfl, by simp, rfl⟩) ?_
  refine gq_p (k := 18) (w := wx0) (i := 0) hvx0 rfl (fun _ _ => ⟨_, rfl, by simp, rfl⟩) ?_
  exact q_X2_advance_95 θ Gs U wx0 hvx0
set_option maxHeartbeats 4000000 in
set_option maxRecDepth 100000 in
theorem q_X2_advance (θ : gT) (Gs U : gK → Nat) (wx0 : Nat) (hvx0 : gV θ 18 wx0 0) : gSim true θ Gs U (F_X2_advance (Gs (pk 18 wx0 0))) (G_X2_advance θ wx0) := by
  unfold F_X2_advance G_X2_advance
  refine gq_ck (k := 18) (w := wx0) (i := 0) hvx0 rfl (fun _ _ => ⟨_, rfl⟩) ?_
  refine gq_I (k := 18) (w := wx0) (i := 0) hvx0 rfl (fun _ _ => ⟨_, rfl, rfl⟩) (fun v1 => ?_)
  refine gq_p (k := 18) (w := wx0) (i := 0) hvx0 rfl (fun _ _ => ⟨_, rfl, by simp, rfl⟩) ?_
  refine gq_I (k := 18) (w := wx0) (i := 0) hvx0 rfl (fun _ _ => ⟨_, rfl, rfl⟩) (fun v2 => ?_)
  refine gq_p (k := 18) (w := wx0) (i := 0) hvx0 rfl (fun _ _ => ⟨_, rfl, by simp, rfl⟩) ?_
  refine gq_I (k := 18) (w := wx0) (i := 0) hvx0 rfl (fun _ _ => ⟨_, rfl, rfl⟩) (fun v3 => ?_)
  refine gq_if (fun _ => ?_) (fun _ => ?_)
  · refine gq_I (k := 18) (w := wx0) (i := 0) hvx0 rfl (fun _ _ => ⟨_, rfl, rfl⟩) (fun v4 => ?_)
    refine gq_p (k := 18) (w := wx0) (i := 0) hvx0 rfl (fun _ _ => ⟨_, rfl, by simp, rfl⟩) ?_
    refine gq_I (k := 18) (w := wx0) (i := 0) hvx0 rfl (fun _ _ => ⟨_, rfl, rfl⟩) (fun v5 => ?_)
    refine gq_R (k := 18) (w := wx0) (i := 0) hvx0 rfl (fun _ _ => ⟨_, rfl, rfl⟩) ?_
    refine gq_R (k := 1) (w := 0) (i := 0) (gv_plan hvx0) rfl (fun _ _ => ⟨_, rfl, rfl⟩) ?_
    refine gq_I (k := 18) (w := wx0) (i := 0) hvx0 rfl (fun _ _ => ⟨_, rfl, rfl⟩) (fun v6 => ?_)
    refine gq_lq (k := 12) (w := 0) (i := 0) (gv_k0 12 rfl (gv_plan hvx0)) rfl (fun _ _ => rfl) (Nat.le_refl _) (fun j hj => if_pos hj) (fun j7 hj7 => ?_)
    refine gq_I (k := 13) (w := 0) (i := j7) (gv_st (gv_k0 12 rfl (gv_plan hvx0)) hj7) (gA_row gr_13) (fun _ _ => ⟨_, gC_row gr_13, rfl⟩) (fun v8 => ?_)
    refine gq_if (fun _ => ?_) (fun _ => ?_)
    · exact q_X2_advance_95 θ Gs U wx0 hvx0
    · refine gq_R (k := 18) (w := wx0) (i := 0) hvx0 rfl (fun _ _ => ⟨_, rfl, rfl⟩) ?_
      refine gq_R (k := 1) (w := 0) (i := 0) (gv_plan hvx0) rfl (fun _ _ => ⟨_, rfl, rfl⟩) ?_
      refine gq_I (k := 18) (w := wx0) (i := 0) hvx0 rfl (fun _ _ => ⟨_, rfl, rfl⟩) (fun v9 => ?_)
      refine gq_lq (k := 12) (w := 0) (i := 0) (gv_k0 12 rfl (gv_plan hvx0)) rfl (fun _ _ => rfl) (Nat.le_refl _) (fun j hj => if_pos hj) (fun j10 hj10 => ?_)
      refine gq_I (k := 13) (w := 0) (i := j10) (gv_st (gv_k0 12 rfl (gv_plan hvx0)) hj10) (gA_row gr_13) (fun _ _ => ⟨_, gC_row gr_13, rfl⟩) (fun v11 => ?_)
      refine gq_if (fun _ => ?_) (fun _ => ?_)
      · exact q_X2_advance_87 θ Gs U wx0 wx0 (0 : Int32) hvx0 hvx0
      · refine gq_I (k := 18) (w := wx0) (i := 0) hvx0 rfl (fun _ _ => ⟨_, rfl, rfl⟩) (fun v12 => ?_)
        exact q_X2_advance_87 θ Gs U wx0 wx0 v12 hvx0 hvx0
  · exact gq_ret
set_option maxHeartbeats 4000000 in
set_option maxRecDepth 100000 in
theorem q_X3_clearMemory (θ : gT) (Gs U : gK → Nat) (wx0 : Nat) (ix0 : Nat) (hvx0 : gV θ 19 wx0 ix0) : gSim true θ Gs U (F_X3_clearMemory (Gs (pk 19 wx0 ix0))) (G_X3_clearMemory θ wx0 ix0) := by
  unfold F_X3_clearMemory G_X3_clearMemory
  refine gq_ck (k := 19) (w := wx0) (i := ix0) hvx0 rfl (fun _ _ => ⟨_, rfl⟩) ?_
  refine gq_p (k := 19) (w := wx0) (i := ix0) hvx0 rfl (fun _ _ => ⟨_, rfl, by simp, rfl⟩) ?_
  refine gq_R (k := 19) (w := wx0) (i := ix0) hvx0 rfl (fun _ _ => ⟨_, rfl, rfl⟩) ?_
  refine gq_call (q_J7_fill_53178 θ Gs U 20 wx0 ix0 (0 : Int32) hvx0 ga_20) (fun v1 => ?_)
  refine gq_R (k := 19) (w := wx0) (i := ix0) hvx0 rfl (fun _ _ => ⟨_, rfl, rfl⟩) ?_
  refine gq_call (q_J7_fill_53178 θ Gs U 21 wx0 ix0 (0 : Int32) hvx0 ga_21) (fun v2 => ?_)
  exact gq_ret
set_option maxHeartbeats 4000000 in
set_option maxRecDepth 100000 in
theorem q_X9_clear (θ : gT) (Gs U : gK → Nat) (kx0 : Nat) (wx0 : Nat) (ix0 : Nat) (hvx0 : gV θ kx0 wx0 ix0) (hkx0 : gRowK kx0) : gSim true θ Gs U (F_X9_clear (Gs (pk kx0 wx0 ix0))) (G_X9_clear θ kx0 wx0 ix0) := by
  unfold F_X9_clear G_X9_clear
  refine gq_ck (k := kx0) (w := wx0) (i := ix0) hvx0 (gA_row hkx0) (fun _ _ => ⟨_, gC_row hkx0⟩) ?_
  refine gq_p (k := kx0) (w := wx0) (i := ix0) hvx0 (gA_row hkx0) (fun f n => ⟨_, gC_row hkx0, by simp, by rw [gC_row hkx0]; rfl⟩) ?_
  exact gq_ret
set_option maxHeartbeats 4000000 in
set_option maxRecDepth 100000 in
theorem q_X3_reset (θ : gT) (Gs U : gK → Nat) (wx0 : Nat) (ix0 : Nat) (hvx0 : gV θ 19 wx0 ix0) : gSim true θ Gs U (F_X3_reset (Gs (pk 19 wx0 ix0))) (G_X3_reset θ wx0 ix0) := by
  unfold F_X3_reset G_X3_reset
  refine gq_ck (k := 19) (w := wx0) (i := ix0) hvx0 rfl (fun _ _ => ⟨_, rfl⟩) ?_
  refine gq_call (q_X3_clearMemory θ Gs U wx0 ix0 hvx0) (fun v1 => ?_)
  refine gq_R (k := 19) (w := wx0) (i := ix0) hvx0 rfl (fun _ _ => ⟨_, rfl, rfl⟩) ?_
  refine gq_call (q_X9_clear θ Gs U 22 wx0 ix0 hvx0 gr_22) (fun v2 => ?_)
  refine gq_R (k := 19) (w := wx0) (i := ix0) hvx0 rfl (fun _ _ => ⟨_, rfl, rfl⟩) ?_
  refine gq_call (q_X9_clear θ Gs U 24 wx0 ix0 hvx0 gr_24) (fun v3 => ?_)
  refine gq_p (k := 19) (w := wx0) (i := ix0) hvx0 rfl (fun _ _ => ⟨_, rfl, by simp, rfl⟩) ?_
  refine gq_p (k := 19) (w := wx0) (i := ix0) hvx0 rfl (fun _ _ => ⟨_, rfl, by simp, rfl⟩) ?_
  refine gq_p (k := 19) (w := wx0) (i := ix0) hvx0 rfl (fun _ _ => ⟨_, rfl, by simp, rfl⟩) ?_
  refine gq_p (k := 19) (w := wx0) (i := ix0) hvx0 rfl (fun _ _ => ⟨_, rfl, by simp, rfl⟩) ?_
  exact gq_ret
set_option maxHeartbeats 4000000 in
set_option maxRecDepth 100000 in
theorem q_X3_registerOrZero (θ : gT) (Gs U : gK → Nat) (wx0 : Nat) (ix0 : Nat) (x1 : Int32) (hvx0 : gV θ 19 wx0 ix0) : gSim true θ Gs U (F_X3_registerOrZero (Gs (pk 19 wx0 ix0)) x1) (G_X3_registerOrZero θ wx0 ix0 x1) := by
  unfold F_X3_registerOrZero G_X3_registerOrZero
  refine gq_ck (k := 19) (w := wx0) (i := ix0) hvx0 rfl (fun _ _ => ⟨_, rfl⟩) ?_
  refine gq_if (fun _ => ?_) (fun _ => ?_)
  · exact gq_ret
  · refine gq_if (fun _ => ?_) (fun _ => ?_)
    · exact gq_ret
    · refine gq_R (k := 19) (w := wx0) (i := ix0) hvx0 rfl (fun _ _ => ⟨_, rfl, rfl⟩) ?_
      refine gq_la (k := 20) (w := wx0) (i := ix0) hvx0 rfl (fun _ _ => rfl) (fun v1 => ?_)
      exact gq_ret
set_option maxHeartbeats 4000000 in
set_option maxRecDepth 100000 in
theorem q_X3_hasCells (θ : gT) (Gs U : gK → Nat) (x0 : Int32) (x1 : Int32)  : gSim true θ Gs U (F_X3_hasCells x0 x1) (G_X3_hasCells θ x0 x1) := by
  unfold F_X3_hasCells G_X3_hasCells
  refine gq_if (fun _ => ?_) (fun _ => ?_)
  · exact gq_rz
  · refine gq_if (fun _ => ?_) (fun _ => ?_)
    · exact gq_rz
    · exact gq_rz
set_option maxHeartbeats 4000000 in
set_option maxRecDepth 100000 in
theorem q_X3_cellOrZero (θ : gT) (Gs U : gK → Nat) (wx0 : Nat) (ix0 : Nat) (x1 : Int32) (hvx0 : gV θ 19 wx0 ix0) : gSim true θ Gs U (F_X3_cellOrZero (Gs (pk 19 wx0 ix0)) x1) (G_X3_cellOrZero θ wx0 ix0 x1) := by
  unfold F_X3_cellOrZero G_X3_cellOrZero
  refine gq_ck (k := 19) (w := wx0) (i := ix0) hvx0 rfl (fun _ _ => ⟨_, rfl⟩) ?_
  refine gq_call (q_X3_hasCells θ Gs U x1 (1 : Int32) ) (fun v1 => ?_)
  refine gq_if (fun _ => ?_) (fun _ => ?_)
  · exact gq_ret
  · refine gq_R (k := 19) (w := wx0) (i := ix0) hvx0 rfl (fun _ _ => ⟨_, rfl, rfl⟩) ?_
    refine gq_la (k := 21) (w := wx0) (i := ix0) hvx0 rfl (fun _ _ => rfl) (fun v2 => ?_)
    exact gq_ret
set_option maxHeartbeats 4000000 in
set_option maxRecDepth 100000 in
theorem q_X3_read (θ : gT) (Gs U : gK → Nat) (wx0 : Nat) (ix0 : Nat) (x1 : Int32) (hvx0 : gV θ 19 wx0 ix0) : gSim true θ Gs U (F_X3_read (Gs (pk 19 wx0 ix0)) x1) (G_X3_read θ wx0 ix0 x1) := by
  unfold F_X3_read G_X3_read
  refine gq_ck (k := 19) (w := wx0) (i := ix0) hvx0 rfl (fun _ _ => ⟨_, rfl⟩) ?_
  refine gq_R (k := 19) (w := wx0) (i := ix0) hvx0 rfl (fun _ _ => ⟨_, rfl, rfl⟩) ?_
  refine gq_la (k := 20) (w := wx0) (i := ix0) hvx0 rfl (fun _ _ => rfl) (fun v1 => ?_)
  exact gq_ret
set_option maxHeartbeats 4000000 in
set_option maxRecDepth 100000 in
theorem q_X3_write (θ : gT) (Gs U : gK → Nat) (wx0 : Nat) (ix0 : Nat) (x1 : Int32) (x2 : Int32) (hvx0 : gV θ 19 wx0 ix0) : gSim true θ Gs U (F_X3_write (Gs (pk 19 wx0 ix0)) x1 x2) (G_X3_write θ wx0 ix0 x1 x2) := by
  unfold F_X3_write G_X3_write
  refine gq_ck (k := 19) (w := wx0) (i := ix0) hvx0 rfl (fun _ _ => ⟨_, rfl⟩) ?_
  refine gq_R (k := 19) (w := wx0) (i := ix0) hvx0 rfl (fun _ _ => ⟨_, rfl, rfl⟩) ?_
  refine gq_sa (k := 20) (w := wx0) (i := ix0) hvx0 rfl (fun _ _ => rfl) ?_
  exact gq_ret
set_option maxHeartbeats 4000000 in
set_option maxRecDepth 100000 in
theorem q_X3_report (θ : gT) (Gs U : gK → Nat) (wx0 : Nat) (ix0 : Nat) (x1 : Int32) (hvx0 : gV θ 19 wx0 ix0) : gSim true θ Gs U (F_X3_report (Gs (pk 19 wx0 ix0)) x1) (G_X3_report θ wx0 ix0 x1) := by
  unfold F_X3_report G_X3_report
  refine gq_ck (k := 19) (w := wx0) (i := ix0) hvx0 rfl (fun _ _ => ⟨_, rfl⟩) ?_
  refine gq_R (k := 19) (w := wx0) (i := ix0) hvx0 rfl (fun _ _ => ⟨_, rfl, rfl⟩) ?_
  refine gq_sa (k := 20) (w := wx0) (i := ix0) hvx0 rfl (fun _ _ => rfl) ?_
  exact gq_ret
set_option maxHeartbeats 4000000 in
set_option maxRecDepth 100000 in
theorem q_X10_operation (θ : gT) (Gs U : gK → Nat) (x0 : Int32)  : gSim true θ Gs U (F_X10_operation x0) (G_X10_operation θ x0) := by
  unfold F_X10_operation G_X10_operation
  exact gq_ret
set_option maxHeartbeats 4000000 in
set_option maxRecDepth 100000 in
theorem q_X10_partA (θ : gT) (Gs U : gK → Nat) (x0 : Int32)  : gSim true θ Gs U (F_X10_partA x0) (G_X10_partA θ x0) := by
  unfold F_X10_partA G_X10_partA
  exact gq_ret
set_option maxHeartbeats 4000000 in
set_option maxRecDepth 100000 in
theorem q_X10_partB (θ : gT) (Gs U : gK → Nat) (x0 : Int32)  : gSim true θ Gs U (F_X10_partB x0) (G_X10_partB θ x0) := by
  unfold F_X10_partB G_X10_partB
  exact gq_ret
set_option maxHeartbeats 4000000 in
set_option maxRecDepth 100000 in
theorem q_X10_partC (θ : gT) (Gs U : gK → Nat) (x0 : Int32)  : gSim true θ Gs U (F_X10_partC x0) (G_X10_partC θ x0) := by
  unfold F_X10_partC G_X10_partC
  exact gq_ret
set_option maxHeartbeats 4000000 in
set_option maxRecDepth 100000 in
theorem q_X3_computed (θ : gT) (Gs U : gK → Nat) (wx0 : Nat) (ix0 : Nat) (x1 : Int32) (hvx0 : gV θ 19 wx0 ix0) : gSim true θ Gs U (F_X3_computed (Gs (pk 19 wx0 ix0)) x1) (G_X3_computed θ wx0 ix0 x1) := by
  unfold F_X3_computed G_X3_computed
  refine gq_ck (k := 19) (w := wx0) (i := ix0) hvx0 rfl (fun _ _ => ⟨_, rfl⟩) ?_
  refine gq_call (q_X10_partB θ Gs U x1 ) (fun v1 => ?_)
  refine gq_call (q_X3_read θ Gs U wx0 ix0 v1 hvx0) (fun v2 => ?_)
  refine gq_call (q_X10_partC θ Gs U x1 ) (fun v3 => ?_)
  refine gq_call (q_X3_read θ Gs U wx0 ix0 v3 hvx0) (fun v4 => ?_)
  refine gq_call (q_X10_operation θ Gs U x1 ) (fun v5 => ?_)
  refine gq_if (fun _ => ?_) (fun _ => ?_)
  · exact gq_ret
  refine gq_if (fun _ => ?_) (fun _ => ?_)
  · exact gq_ret
  refine gq_if (fun _ => ?_) (fun _ => ?_)
  · exact gq_ret
  refine gq_if (fun _ => ?_) (fun _ => ?_)
  · exact gq_ret
  refine gq_if (fun _ => ?_) (fun _ => ?_)
  · exact gq_ret
  refine gq_if (fun _ => ?_) (fun _ => ?_)
  · exact gq_ret
  refine gq_if (fun _ => ?_) (fun _ => ?_)
  · exact gq_ret
  refine gq_if (fun _ => ?_) (fun _ => ?_)
  · exact gq_ret
  · exact gq_ret
set_option maxHeartbeats 4000000 in
set_option maxRecDepth 100000 in
theorem q_X3_load (θ : gT) (Gs U : gK → Nat) (wx0 : Nat) (ix0 : Nat) (x1 : Int32) (x2 : Int32) (hvx0 : gV θ 19 wx0 ix0) : gSim true θ Gs U (F_X3_load (Gs (pk 19 wx0 ix0)) x1 x2) (G_X3_load θ wx0 ix0 x1 x2) := by
  unfold F_X3_load G_X3_load
  refine gq_ck (k := 19) (w := wx0) (i := ix0) hvx0 rfl (fun _ _ => ⟨_, rfl⟩) ?_
  refine gq_call (q_X3_hasCells θ Gs U x2 (1 : Int32) ) (fun v1 => ?_)
  refine gq_if (fun _ => ?_) (fun _ => ?_)
  · exact gq_rz
  · refine gq_R (k := 19) (w := wx0) (i := ix0) hvx0 rfl (fun _ _ => ⟨_, rfl, rfl⟩) ?_
    refine gq_la (k := 21) (w := wx0) (i := ix0) hvx0 rfl (fun _ _ => rfl) (fun v2 => ?_)
    refine gq_call (q_X3_write θ Gs U wx0 ix0 x1 v2 hvx0) (fun v3 => ?_)
    exact gq_rz
set_option maxHeartbeats 4000000 in
set_option maxRecDepth 100000 in
theorem q_X3_putOut (θ : gT) (Gs U : gK → Nat) (wx0 : Nat) (ix0 : Nat) (x1 : Int32) (hvx0 : gV θ 19 wx0 ix0) : gSim false θ Gs U (F_X3_putOut (Gs (pk 19 wx0 ix0)) x1) (G_X3_putOut θ wx0 ix0 x1) := by
  unfold F_X3_putOut G_X3_putOut
  refine gq_ck (k := 19) (w := wx0) (i := ix0) hvx0 rfl (fun _ _ => ⟨_, rfl⟩) ?_
  refine gq_R (k := 19) (w := wx0) (i := ix0) hvx0 rfl (fun _ _ => ⟨_, rfl, rfl⟩) ?_
  refine gq_I (k := 24) (w := wx0) (i := ix0) hvx0 (gA_row gr_24) (fun _ _ => ⟨_, gC_row gr_24, rfl⟩) (fun v1 => ?_)
  refine gq_if (fun _ => ?_) (fun _ => ?_)
  · exact gq_rz
  · refine gq_R (k := 19) (w := wx0) (i := ix0) hvx0 rfl (fun _ _ => ⟨_, rfl, rfl⟩) ?_
    refine gq_cal (q_X9_add θ Gs U 24 wx0 ix0 x1 hvx0 gr_24) (fun v2 U => ?_)
    exact gq_rz
set_option maxHeartbeats 4000000 in
set_option maxRecDepth 100000 in
theorem q_X3_store (θ : gT) (Gs U : gK → Nat) (wx0 : Nat) (ix0 : Nat) (x1 : Int32) (x2 : Int32) (hvx0 : gV θ 19 wx0 ix0) : gSim true θ Gs U (F_X3_store (Gs (pk 19 wx0 ix0)) x1 x2) (G_X3_store θ wx0 ix0 x1 x2) := by
  unfold F_X3_store G_X3_store
  refine gq_ck (k := 19) (w := wx0) (i := ix0) hvx0 rfl (fun _ _ => ⟨_, rfl⟩) ?_
  refine gq_call (q_X3_hasCells θ Gs U x1 (1 : Int32) ) (fun v1 => ?_)
  refine gq_if (fun _ => ?_) (fun _ => ?_)
  · exact gq_rz
  · refine gq_R (k := 19) (w := wx0) (i := ix0) hvx0 rfl (fun _ _ => ⟨_, rfl, rfl⟩) ?_
    refine gq_sa (k := 21) (w := wx0) (i := ix0) hvx0 rfl (fun _ _ => rfl) ?_
    exact gq_rz
set_option maxHeartbeats 4000000 in
set_option maxRecDepth 100000 in
theorem q_X9_removeFirst (θ : gT) (Gs U : gK → Nat) (kx0 : Nat) (wx0 : Nat) (ix0 : Nat) (hvx0 : gV θ kx0 wx0 ix0) (hkx0 : gRowK kx0) : gSim true θ Gs U (F_X9_removeFirst (Gs (pk kx0 wx0 ix0))) (G_X9_removeFirst θ kx0 wx0 ix0) := by
  unfold F_X9_removeFirst G_X9_removeFirst
  refine gq_ck (k := kx0) (w := wx0) (i := ix0) hvx0 (gA_row hkx0) (fun _ _ => ⟨_, gC_row hkx0⟩) ?_
  refine gq_I (k := kx0) (w := wx0) (i := ix0) hvx0 (gA_row hkx0) (fun _ _ => ⟨_, gC_row hkx0, rfl⟩) (fun v1 => ?_)
  refine gq_if (fun _ => ?_) (fun _ => ?_)
  · exact gq_ret
  · refine gq_R (k := kx0) (w := wx0) (i := ix0) hvx0 (gA_row hkx0) (fun _ _ => ⟨_, gC_row hkx0, rfl⟩) ?_
    refine gq_R (k := kx0) (w := wx0) (i := ix0) hvx0 (gA_row hkx0) (fun _ _ => ⟨_, gC_row hkx0, rfl⟩) ?_
    refine gq_I (k := kx0) (w := wx0) (i := ix0) hvx0 (gA_row hkx0) (fun _ _ => ⟨_, gC_row hkx0, rfl⟩) (fun v2 => ?_)
    refine gq_cp (k2 := (kx0 + 1)) (w2 := wx0) (i2 := ix0) (gV_rowI hkx0 hvx0) (gA_rowI hkx0) (fun _ _ => gC_rowI hkx0) (k := (kx0 + 1)) (w := wx0) (i := ix0) (gV_rowI hkx0 hvx0) (gA_rowI hkx0) (fun _ _ => gC_rowI hkx0) ?_
    refine gq_I (k := kx0) (w := wx0) (i := ix0) hvx0 (gA_row hkx0) (fun _ _ => ⟨_, gC_row hkx0, rfl⟩) (fun v3 => ?_)
    refine gq_p (k := kx0) (w := wx0) (i := ix0) hvx0 (gA_row hkx0) (fun f n => ⟨_, gC_row hkx0, by simp, by rw [gC_row hkx0]; rfl⟩) ?_
    exact gq_ret
set_option maxHeartbeats 4000000 in
set_option maxRecDepth 100000 in
theorem q_X3_takeInput (θ : gT) (Gs U : gK → Nat) (wx0 : Nat) (ix0 : Nat) (x1 : Int32) (hvx0 : gV θ 19 wx0 ix0) : gSim true θ Gs U (F_X3_takeInput (Gs (pk 19 wx0 ix0)) x1) (G_X3_takeInput θ wx0 ix0 x1) := by
  unfold F_X3_takeInput G_X3_takeInput
  refine gq_ck (k := 19) (w := wx0) (i := ix0) hvx0 rfl (fun _ _ => ⟨_, rfl⟩) ?_
  refine gq_R (k := 19) (w := wx0) (i := ix0) hvx0 rfl (fun _ _ => ⟨_, rfl, rfl⟩) ?_
  refine gq_I (k := 22) (w := wx0) (i := ix0) hvx0 (gA_row gr_22) (fun _ _ => ⟨_, gC_row gr_22, rfl⟩) (fun v1 => ?_)
  refine gq_if (fun _ => ?_) (fun _ => ?_)
  · refine gq_call (q_X3_report θ Gs U wx0 ix0 (0 : Int32) hvx0) (fun v6 => ?_)
    exact gq_ret
  · refine gq_R (k := 19) (w := wx0) (i := ix0) hvx0 rfl (fun _ _ => ⟨_, rfl, rfl⟩) ?_
    refine gq_call (q_X9_get θ Gs U 22 wx0 ix0 (0 : Int32) hvx0 gr_22) (fun v2 => ?_)
    refine gq_call (q_X3_write θ Gs U wx0 ix0 x1 v2 hvx0) (fun v3 => ?_)
    refine gq_R (k := 19) (w := wx0) (i := ix0) hvx0 rfl (fun _ _ => ⟨_, rfl, rfl⟩) ?_
    refine gq_call (q_X9_removeFirst θ Gs U 22 wx0 ix0 hvx0 gr_22) (fun v4 => ?_)
    refine gq_call (q_X3_report θ Gs U wx0 ix0 (1 : Int32) hvx0) (fun v5 => ?_)
    exact gq_ret
set_option maxHeartbeats 4000000 in
set_option maxRecDepth 100000 in
theorem q_X3_performAlone (θ : gT) (Gs U : gK → Nat) (wx0 : Nat) (ix0 : Nat) (x1 : Int32) (hvx0 : gV θ 19 wx0 ix0) : gSim false θ Gs U (F_X3_performAlone (Gs (pk 19 wx0 ix0)) x1) (G_X3_performAlone θ wx0 ix0 x1) := by
  unfold F_X3_performAlone G_X3_performAlone
  refine gq_ck (k := 19) (w := wx0) (i := ix0) hvx0 rfl (fun _ _ => ⟨_, rfl⟩) ?_
  refine gq_call (q_X10_partA θ Gs U x1 ) (fun v1 => ?_)
  refine gq_call (q_X10_partB θ Gs U x1 ) (fun v2 => ?_)
  refine gq_call (q_X3_read θ Gs U wx0 ix0 v2 hvx0) (fun v3 => ?_)
  refine gq_call (q_X10_operation θ Gs U x1 ) (fun v4 => ?_)
  refine gq_if (fun _ => ?_) (fun _ => ?_)
  · refine gq_p (k := 19) (w := wx0) (i := ix0) hvx0 rfl (fun _ _ => ⟨_, rfl, by simp, rfl⟩) ?_
    exact gq_rz
  refine gq_if (fun _ => ?_) (fun _ => ?_)
  · exact gq_rz
  refine gq_if (fun _ => ?_) (fun _ => ?_)
  · exact gq_rz
  refine gq_if (fun _ => ?_) (fun _ => ?_)
  · exact gq_rz
  refine gq_if (fun _ => ?_) (fun _ => ?_)
  · refine gq_call (q_X3_load θ Gs U wx0 ix0 v1 v3 hvx0) (fun v5 => ?_)
    exact gq_rz
  refine gq_if (fun _ => ?_) (fun _ => ?_)
  · refine gq_call (q_X3_read θ Gs U wx0 ix0 v1 hvx0) (fun v6 => ?_)
    refine gq_call (q_X3_store θ Gs U wx0 ix0 v3 v6 hvx0) (fun v7 => ?_)
    exact gq_rz
  refine gq_if (fun _ => ?_) (fun _ => ?_)
  · refine gq_call (q_X3_read θ Gs U wx0 ix0 v1 hvx0) (fun v8 => ?_)
    refine gq_cal (q_X3_putOut θ Gs U wx0 ix0 v8 hvx0) (fun v9 U => ?_)
    exact gq_rz
  refine gq_if (fun _ => ?_) (fun _ => ?_)
  · refine gq_call (q_X3_takeInput θ Gs U wx0 ix0 v1 hvx0) (fun v10 => ?_)
    exact gq_rz
  refine gq_call (q_X3_computed θ Gs U wx0 ix0 x1 hvx0) (fun v11 => ?_)
  refine gq_call (q_X3_write θ Gs U wx0 ix0 v1 v11 hvx0) (fun v12 => ?_)
  exact gq_rz
set_option maxHeartbeats 4000000 in
set_option maxRecDepth 100000 in
theorem q_X3_placeAfter (θ : gT) (Gs U : gK → Nat) (wx0 : Nat) (ix0 : Nat) (x1 : Int32) (hvx0 : gV θ 19 wx0 ix0) : gSim true θ Gs U (F_X3_placeAfter (Gs (pk 19 wx0 ix0)) x1) (G_X3_placeAfter θ wx0 ix0 x1) := by
  unfold F_X3_placeAfter G_X3_placeAfter
  refine gq_ck (k := 19) (w := wx0) (i := ix0) hvx0 rfl (fun _ _ => ⟨_, rfl⟩) ?_
  refine gq_call (q_X10_partA θ Gs U x1 ) (fun v1 => ?_)
  refine gq_call (q_X3_read θ Gs U wx0 ix0 v1 hvx0) (fun v2 => ?_)
  refine gq_call (q_X10_partB θ Gs U x1 ) (fun v3 => ?_)
  refine gq_call (q_X10_operation θ Gs U x1 ) (fun v4 => ?_)
  refine gq_if (fun _ => ?_) (fun _ => ?_)
  · refine gq_I (k := 19) (w := wx0) (i := ix0) hvx0 rfl (fun _ _ => ⟨_, rfl, rfl⟩) (fun v5 => ?_)
    exact gq_ret
  refine gq_if (fun _ => ?_) (fun _ => ?_)
  · exact gq_ret
  refine gq_if (fun _ => ?_) (fun _ => ?_)
  · refine gq_if (fun _ => ?_) (fun _ => ?_)
    · exact gq_ret
    · refine gq_I (k := 19) (w := wx0) (i := ix0) hvx0 rfl (fun _ _ => ⟨_, rfl, rfl⟩) (fun v6 => ?_)
      exact gq_ret
  refine gq_if (fun _ => ?_) (fun _ => ?_)
  · refine gq_if (fun _ => ?_) (fun _ => ?_)
    · refine gq_I (k := 19) (w := wx0) (i := ix0) hvx0 rfl (fun _ _ => ⟨_, rfl, rfl⟩) (fun v7 => ?_)
      exact gq_ret
    · exact gq_ret
  refine gq_I (k := 19) (w := wx0) (i := ix0) hvx0 rfl (fun _ _ => ⟨_, rfl, rfl⟩) (fun v8 => ?_)
  exact gq_ret
set_option maxHeartbeats 4000000 in
set_option maxRecDepth 100000 in
theorem q_X3_fail (θ : gT) (Gs U : gK → Nat) (wx0 : Nat) (ix0 : Nat) (x1 : Int32) (hvx0 : gV θ 19 wx0 ix0) : gSim true θ Gs U (F_X3_fail (Gs (pk 19 wx0 ix0)) x1) (G_X3_fail θ wx0 ix0 x1) := by
  unfold F_X3_fail G_X3_fail
  refine gq_ck (k := 19) (w := wx0) (i := ix0) hvx0 rfl (fun _ _ => ⟨_, rfl⟩) ?_
  refine gq_I (k := 19) (w := wx0) (i := ix0) hvx0 rfl (fun _ _ => ⟨_, rfl, rfl⟩) (fun v1 => ?_)
  refine gq_p (k := 19) (w := wx0) (i := ix0) hvx0 rfl (fun _ _ => ⟨_, rfl, by simp, rfl⟩) ?_
  refine gq_if (fun _ => ?_) (fun _ => ?_)
  · refine gq_call (q_X3_clearMemory θ Gs U wx0 ix0 hvx0) (fun v3 => ?_)
    exact gq_ret
  · refine gq_if (fun _ => ?_) (fun _ => ?_)
    · refine gq_I (k := 19) (w := wx0) (i := ix0) hvx0 rfl (fun _ _ => ⟨_, rfl, rfl⟩) (fun v2 => ?_)
      refine gq_p (k := 19) (w := wx0) (i := ix0) hvx0 rfl (fun _ _ => ⟨_, rfl, by simp, rfl⟩) ?_
      exact gq_ret
    · refine gq_p (k := 19) (w := wx0) (i := ix0) hvx0 rfl (fun _ _ => ⟨_, rfl, by simp, rfl⟩) ?_
      exact gq_ret
set_option maxHeartbeats 4000000 in
set_option maxRecDepth 100000 in
theorem q_X9_isSame_15 (θ : gT) (Gs U : gK → Nat)    : ∀ (fu : Nat) (kx0 : Nat) (wx0 : Nat) (ix0 : Nat) (kx1 : Nat) (wx1 : Nat) (ix1 : Nat) (x2 : Int32) (hvx0 : gV θ kx0 wx0 ix0) (hkx0 : gRowK kx0) (hvx1 : gV θ kx1 wx1 ix1) (hkx1 : gRowK kx1), gSim true θ Gs U (F_X9_isSame_15 fu (Gs (pk kx0 wx0 ix0)) (Gs (pk kx1 wx1 ix1)) x2) (G_X9_isSame_15 θ fu kx0 wx0 ix0 kx1 wx1 ix1 x2) := by
  intro fu
  induction fu with
  | zero =>
    intro kx0 wx0 ix0 kx1 wx1 ix1 x2 hvx0 hkx0 hvx1 hkx1
    unfold G_X9_isSame_15
    exact gq_no
  | succ fu ih =>
    intro kx0 wx0 ix0 kx1 wx1 ix1 x2 hvx0 hkx0 hvx1 hkx1
    unfold F_X9_isSame_15 G_X9_isSame_15
    refine gq_I (k := kx0) (w := wx0) (i := ix0) hvx0 (gA_row hkx0) (fun _ _ => ⟨_, gC_row hkx0, rfl⟩) (fun v1 => ?_)
    refine gq_if (fun _ => ?_) (fun _ => ?_)
    · exact gq_rz
    · refine gq_R (k := kx0) (w := wx0) (i := ix0) hvx0 (gA_row hkx0) (fun _ _ => ⟨_, gC_row hkx0, rfl⟩) ?_
      refine gq_la (k := (kx0 + 1)) (w := wx0) (i := ix0) (gV_rowI hkx0 hvx0) (gA_rowI hkx0) (fun _ _ => gC_rowI hkx0) (fun v2 => ?_)
      refine gq_R (k := kx1) (w := wx1) (i := ix1) hvx1 (gA_row hkx1) (fun _ _ => ⟨_, gC_row hkx1, rfl⟩) ?_
      refine gq_la (k := (kx1 + 1)) (w := wx1) (i := ix1) (gV_rowI hkx1 hvx1) (gA_rowI hkx1) (fun _ _ => gC_rowI hkx1) (fun v3 => ?_)
      refine gq_if (fun _ => ?_) (fun _ => ?_)
      · exact ih  kx0 wx0 ix0 kx1 wx1 ix1 (x2 + (1 : Int32)) hvx0 hkx0 hvx1 hkx1
      · exact gq_rz
set_option maxHeartbeats 4000000 in
set_option maxRecDepth 100000 in
theorem q_X9_isSame (θ : gT) (Gs U : gK → Nat) (kx0 : Nat) (wx0 : Nat) (ix0 : Nat) (kx1 : Nat) (wx1 : Nat) (ix1 : Nat) (hvx0 : gV θ kx0 wx0 ix0) (hkx0 : gRowK kx0) (hvx1 : gV θ kx1 wx1 ix1) (hkx1 : gRowK kx1) : gSim true θ Gs U (F_X9_isSame (Gs (pk kx0 wx0 ix0)) (Gs (pk kx1 wx1 ix1))) (G_X9_isSame θ kx0 wx0 ix0 kx1 wx1 ix1) := by
  unfold F_X9_isSame G_X9_isSame
  refine gq_ck (k := kx0) (w := wx0) (i := ix0) hvx0 (gA_row hkx0) (fun _ _ => ⟨_, gC_row hkx0⟩) ?_
  refine gq_I (k := kx0) (w := wx0) (i := ix0) hvx0 (gA_row hkx0) (fun _ _ => ⟨_, gC_row hkx0, rfl⟩) (fun v1 => ?_)
  refine gq_I (k := kx1) (w := wx1) (i := ix1) hvx1 (gA_row hkx1) (fun _ _ => ⟨_, gC_row hkx1, rfl⟩) (fun v2 => ?_)
  refine gq_if (fun _ => ?_) (fun _ => ?_)
  · exact q_X9_isSame_15 θ Gs U mo_fu kx0 wx0 ix0 kx1 wx1 ix1 (0 : Int32) hvx0 hkx0 hvx1 hkx1
  · exact gq_rz
set_option maxHeartbeats 4000000 in
set_option maxRecDepth 100000 in
theorem q_X3_isSame_97 (θ : gT) (Gs U : gK → Nat)    (wx0 : Nat) (ix0 : Nat) (wx1 : Nat) (ix1 : Nat) (hvx0 : gV θ 19 wx0 ix0) (hvx1 : gV θ 19 wx1 ix1) : gSim true θ Gs U (F_X3_isSame_97 (Gs (pk 19 wx0 ix0)) (Gs (pk 19 wx1 ix1))) (G_X3_isSame_97 θ wx0 ix0 wx1 ix1) := by
  unfold F_X3_isSame_97 G_X3_isSame_97
  refine gq_R (k := 19) (w := wx0) (i := ix0) hvx0 rfl (fun _ _ => ⟨_, rfl, rfl⟩) ?_
  refine gq_R (k := 19) (w := wx1) (i := ix1) hvx1 rfl (fun _ _ => ⟨_, rfl, rfl⟩) ?_
  refine gq_call (q_X9_isSame θ Gs U 22 wx0 ix0 22 wx1 ix1 hvx0 gr_22 hvx1 gr_22) (fun v1 => ?_)
  refine gq_if (fun _ => ?_) (fun _ => ?_)
  · exact gq_rz
  · refine gq_R (k := 19) (w := wx0) (i := ix0) hvx0 rfl (fun _ _ => ⟨_, rfl, rfl⟩) ?_
    refine gq_R (k := 19) (w := wx1) (i := ix1) hvx1 rfl (fun _ _ => ⟨_, rfl, rfl⟩) ?_
    refine gq_call (q_X9_isSame θ Gs U 24 wx0 ix0 24 wx1 ix1 hvx0 gr_24 hvx1 gr_24) (fun v2 => ?_)
    refine gq_if (fun _ => ?_) (fun _ => ?_)
    · exact gq_rz
    · exact gq_rz
set_option maxHeartbeats 4000000 in
set_option maxRecDepth 100000 in
theorem q_X3_isSame_68 (θ : gT) (Gs U : gK → Nat)    : ∀ (fu : Nat) (wx0 : Nat) (ix0 : Nat) (wx1 : Nat) (ix1 : Nat) (x2 : Int32) (hvx0 : gV θ 19 wx0 ix0) (hvx1 : gV θ 19 wx1 ix1), gSim true θ Gs U (F_X3_isSame_68 fu (Gs (pk 19 wx0 ix0)) (Gs (pk 19 wx1 ix1)) x2) (G_X3_isSame_68 θ fu wx0 ix0 wx1 ix1 x2) := by
  intro fu
  induction fu with
  | zero =>
    intro wx0 ix0 wx1 ix1 x2 hvx0 hvx1
    unfold G_X3_isSame_68
    exact gq_no
  | succ fu ih =>
    intro wx0 ix0 wx1 ix1 x2 hvx0 hvx1
    unfold F_X3_isSame_68 G_X3_isSame_68
    refine gq_if (fun _ => ?_) (fun _ => ?_)
    · exact q_X3_isSame_97 θ Gs U wx0 ix0 wx1 ix1 hvx0 hvx1
    · refine gq_R (k := 19) (w := wx0) (i := ix0) hvx0 rfl (fun _ _ => ⟨_, rfl, rfl⟩) ?_
      refine gq_la (k := 21) (w := wx0) (i := ix0) hvx0 rfl (fun _ _ => rfl) (fun v1 => ?_)
      refine gq_R (k := 19) (w := wx1) (i := ix1) hvx1 rfl (fun _ _ => ⟨_, rfl, rfl⟩) ?_
      refine gq_la (k := 21) (w := wx1) (i := ix1) hvx1 rfl (fun _ _ => rfl) (fun v2 => ?_)
      refine gq_if (fun _ => ?_) (fun _ => ?_)
      · exact ih  wx0 ix0 wx1 ix1 (x2 + (1 : Int32)) hvx0 hvx1
      · exact gq_rz
set_option maxHeartbeats 4000000 in
set_option maxRecDepth 100000 in
theorem q_X3_isSame_66 (θ : gT) (Gs U : gK → Nat)    (wx0 : Nat) (ix0 : Nat) (wx1 : Nat) (ix1 : Nat) (hvx0 : gV θ 19 wx0 ix0) (hvx1 : gV θ 19 wx1 ix1) : gSim true θ Gs U (F_X3_isSame_66 (Gs (pk 19 wx0 ix0)) (Gs (pk 19 wx1 ix1))) (G_X3_isSame_66 θ wx0 ix0 wx1 ix1) := by
  unfold F_X3_isSame_66 G_X3_isSame_66
  exact q_X3_isSame_68 θ Gs U mo_fu wx0 ix0 wx1 ix1 (0 : Int32) hvx0 hvx1
set_option maxHeartbeats 4000000 in
set_option maxRecDepth 100000 in
theorem q_X3_isSame_37 (θ : gT) (Gs U : gK → Nat)    : ∀ (fu : Nat) (wx0 : Nat) (ix0 : Nat) (wx1 : Nat) (ix1 : Nat) (x2 : Int32) (hvx0 : gV θ 19 wx0 ix0) (hvx1 : gV θ 19 wx1 ix1), gSim true θ Gs U (F_X3_isSame_37 fu (Gs (pk 19 wx0 ix0)) (Gs (pk 19 wx1 ix1)) x2) (G_X3_isSame_37 θ fu wx0 ix0 wx1 ix1 x2) := by
  intro fu
  induction fu with
  | zero =>
    intro wx0 ix0 wx1 ix1 x2 hvx0 hvx1
    unfold G_X3_isSame_37
    exact gq_no
  | succ fu ih =>
    intro wx0 ix0 wx1 ix1 x2 hvx0 hvx1
    unfold F_X3_isSame_37 G_X3_isSame_37
    refine gq_if (fun _ => ?_) (fun _ => ?_)
    · exact q_X3_isSame_66 θ Gs U wx0 ix0 wx1 ix1 hvx0 hvx1
    · refine gq_R (k := 19) (w := wx0) (i := ix0) hvx0 rfl (fun _ _ => ⟨_, rfl, rfl⟩) ?_
      refine gq_la (k := 20) (w := wx0) (i := ix0) hvx0 rfl (fun _ _ => rfl) (fun v1 => ?_)
      refine gq_R (k := 19) (w := wx1) (i := ix1) hvx1 rfl (fun _ _ => ⟨_, rfl, rfl⟩) ?_
      refine gq_la (k := 20) (w := wx1) (i := ix1) hvx1 rfl (fun _ _ => rfl) (fun v2 => ?_)
      refine gq_if (fun _ => ?_) (fun _ => ?_)
      · exact ih  wx0 ix0 wx1 ix1 (x2 + (1 : Int32)) hvx0 hvx1
      · exact gq_rz
set_option maxHeartbeats 4000000 in
set_option maxRecDepth 100000 in
theorem q_X3_isSame (θ : gT) (Gs U : gK → Nat) (wx0 : Nat) (ix0 : Nat) (wx1 : Nat) (ix1 : Nat) (hvx0 : gV θ 19 wx0 ix0) (hvx1 : gV θ 19 wx1 ix1) : gSim true θ Gs U (F_X3_isSame (Gs (pk 19 wx0 ix0)) (Gs (pk 19 wx1 ix1))) (G_X3_isSame θ wx0 ix0 wx1 ix1) := by
  unfold F_X3_isSame G_X3_isSame
  refine gq_ck (k := 19) (w := wx0) (i := ix0) hvx0 rfl (fun _ _ => ⟨_, rfl⟩) ?_
  refine gq_I (k := 19) (w := wx0) (i := ix0) hvx0 rfl (fun _ _ => ⟨_, rfl, rfl⟩) (fun v1 => ?_)
  refine gq_I (k := 19) (w := wx1) (i := ix1) hvx1 rfl (fun _ _ => ⟨_, rfl, rfl⟩) (fun v2 => ?_)
  refine gq_if (fun _ => ?_) (fun _ => ?_)
  · refine gq_I (k := 19) (w := wx0) (i := ix0) hvx0 rfl (fun _ _ => ⟨_, rfl, rfl⟩) (fun v3 => ?_)
    refine gq_I (k := 19) (w := wx1) (i := ix1) hvx1 rfl (fun _ _ => ⟨_, rfl, rfl⟩) (fun v4 => ?_)
    refine gq_if (fun _ => ?_) (fun _ => ?_)
    · refine gq_I (k := 19) (w := wx0) (i := ix0) hvx0 rfl (fun _ _ => ⟨_, rfl, rfl⟩) (fun v5 => ?_)
      refine gq_I (k := 19) (w := wx1) (i := ix1) hvx1 rfl (fun _ _ => ⟨_, rfl, rfl⟩) (fun v6 => ?_)
      refine gq_if (fun _ => ?_) (fun _ => ?_)
      · exact q_X3_isSame_37 θ Gs U mo_fu wx0 ix0 wx1 ix1 (0 : Int32) hvx0 hvx1
      · exact gq_rz
    · exact gq_rz
  · exact gq_rz
set_option maxHeartbeats 4000000 in
set_option maxRecDepth 100000 in
theorem q_X5_reset_56 (θ : gT) (Gs U : gK → Nat)    (wx0 : Nat) (hvx0 : gV θ 15 wx0 0) : gSim true θ Gs U (F_X5_reset_56 (Gs (pk 15 wx0 0))) (G_X5_reset_56 θ wx0) := by
  unfold F_X5_reset_56 G_X5_reset_56
  refine gq_R (k := 15) (w := wx0) (i := 0) hvx0 rfl (fun _ _ => ⟨_, rfl, rfl⟩) ?_
  refine gq_call (q_X2_start θ Gs U wx0 hvx0) (fun v1 => ?_)
  refine gq_pz (k := 15) (w := wx0) (i := 0) hvx0 rfl (fun _ _ => ⟨_, rfl, by simp, rfl⟩) ?_
  exact gq_ret
set_option maxHeartbeats 4000000 in
set_option maxRecDepth 100000 in
theorem q_X5_reset_30 (θ : gT) (Gs U : gK → Nat)    : ∀ (fu : Nat) (wx0 : Nat) (x1 : Int32) (hvx0 : gV θ 15 wx0 0), gSim true θ Gs U (F_X5_reset_30 fu (Gs (pk 15 wx0 0)) x1) (G_X5_reset_30 θ fu wx0 x1) := by
  intro fu
  induction fu with
  | zero =>
    intro wx0 x1 hvx0
    unfold G_X5_reset_30
    exact gq_no
  | succ fu ih =>
    intro wx0 x1 hvx0
    unfold F_X5_reset_30 G_X5_reset_30
    refine gq_R (k := 15) (w := wx0) (i := 0) hvx0 rfl (fun _ _ => ⟨_, rfl, rfl⟩) ?_
    refine gq_I (k := 1) (w := 0) (i := 0) (gv_plan hvx0) rfl (fun _ _ => ⟨_, rfl, rfl⟩) (fun v1 => ?_)
    refine gq_if (fun _ => ?_) (fun _ => ?_)
    · exact q_X5_reset_56 θ Gs U wx0 hvx0
    · refine gq_R (k := 15) (w := wx0) (i := 0) hvx0 rfl (fun _ _ => ⟨_, rfl, rfl⟩) ?_
      refine gq_lq (k := 17) (w := wx0) (i := 0) hvx0 rfl (fun _ _ => rfl) hvx0.2.2 (fun j hj => if_pos hj) (fun j2 hj2 => ?_)
      refine gq_call (q_X1_reset θ Gs U wx0 j2 (gv_chan hvx0 hj2)) (fun v3 => ?_)
      exact ih  wx0 (x1 + (1 : Int32)) hvx0
set_option maxHeartbeats 4000000 in
set_option maxRecDepth 100000 in
theorem q_X5_reset_28 (θ : gT) (Gs U : gK → Nat)    (wx0 : Nat) (hvx0 : gV θ 15 wx0 0) : gSim true θ Gs U (F_X5_reset_28 (Gs (pk 15 wx0 0))) (G_X5_reset_28 θ wx0) := by
  unfold F_X5_reset_28 G_X5_reset_28
  exact q_X5_reset_30 θ Gs U mo_fu wx0 (0 : Int32) hvx0
set_option maxHeartbeats 4000000 in
set_option maxRecDepth 100000 in
theorem q_X5_reset_2 (θ : gT) (Gs U : gK → Nat)    : ∀ (fu : Nat) (wx0 : Nat) (x1 : Int32) (hvx0 : gV θ 15 wx0 0), gSim true θ Gs U (F_X5_reset_2 fu (Gs (pk 15 wx0 0)) x1) (G_X5_reset_2 θ fu wx0 x1) := by
  intro fu
  induction fu with
  | zero =>
    intro wx0 x1 hvx0
    unfold G_X5_reset_2
    exact gq_no
  | succ fu ih =>
    intro wx0 x1 hvx0
    unfold F_X5_reset_2 G_X5_reset_2
    refine gq_R (k := 15) (w := wx0) (i := 0) hvx0 rfl (fun _ _ => ⟨_, rfl, rfl⟩) ?_
    refine gq_I (k := 1) (w := 0) (i := 0) (gv_plan hvx0) rfl (fun _ _ => ⟨_, rfl, rfl⟩) (fun v1 => ?_)
    refine gq_if (fun _ => ?_) (fun _ => ?_)
    · exact q_X5_reset_28 θ Gs U wx0 hvx0
    · refine gq_R (k := 15) (w := wx0) (i := 0) hvx0 rfl (fun _ _ => ⟨_, rfl, rfl⟩) ?_
      refine gq_lq (k := 16) (w := wx0) (i := 0) hvx0 rfl (fun _ _ => rfl) (Nat.le_refl _) (fun j hj => if_pos hj) (fun j2 hj2 => ?_)
      refine gq_call (q_X3_reset θ Gs U wx0 j2 (gv_dom hvx0 hj2)) (fun v3 => ?_)
      exact ih  wx0 (x1 + (1 : Int32)) hvx0
set_option maxHeartbeats 4000000 in
set_option maxRecDepth 100000 in
theorem q_X5_reset (θ : gT) (Gs U : gK → Nat) (wx0 : Nat) (hvx0 : gV θ 15 wx0 0) : gSim true θ Gs U (F_X5_reset (Gs (pk 15 wx0 0))) (G_X5_reset θ wx0) := by
  unfold F_X5_reset G_X5_reset
  refine gq_ck (k := 15) (w := wx0) (i := 0) hvx0 rfl (fun _ _ => ⟨_, rfl⟩) ?_
  exact q_X5_reset_2 θ Gs U mo_fu wx0 (0 : Int32) hvx0
set_option maxHeartbeats 4000000 in
set_option maxRecDepth 100000 in
theorem q_X5_stepIsDue_22 (θ : gT) (Gs U : gK → Nat)    (wx0 : Nat) (s0 : Int32) (hvx0 : gV θ 15 wx0 0) : gSim true θ Gs U (F_X5_stepIsDue_22 (Gs (pk 15 wx0 0)) s0) (G_X5_stepIsDue_22 θ wx0 s0) := by
  unfold F_X5_stepIsDue_22 G_X5_stepIsDue_22
  refine gq_R (k := 15) (w := wx0) (i := 0) hvx0 rfl (fun _ _ => ⟨_, rfl, rfl⟩) ?_
  refine gq_R (k := 15) (w := wx0) (i := 0) hvx0 rfl (fun _ _ => ⟨_, rfl, rfl⟩) ?_
  refine gq_call (q_X2_slotDomain θ Gs U wx0 hvx0) (fun v1 => ?_)
  refine gq_lq (k := 16) (w := wx0) (i := 0) hvx0 rfl (fun _ _ => rfl) (Nat.le_refl _) (fun j hj => if_pos hj) (fun j2 hj2 => ?_)
  refine gq_I (k := 19) (w := wx0) (i := j2) (gv_dom hvx0 hj2) rfl (fun _ _ => ⟨_, rfl, rfl⟩) (fun v3 => ?_)
  refine gq_if (fun _ => ?_) (fun _ => ?_)
  · refine gq_if (fun _ => ?_) (fun _ => ?_)
    · exact gq_rz
    · exact gq_rz
  · exact gq_rz
set_option maxHeartbeats 4000000 in
set_option maxRecDepth 100000 in
theorem q_X5_stepIsDue_21 (θ : gT) (Gs U : gK → Nat)    (wx0 : Nat) (hvx0 : gV θ 15 wx0 0) : gSim true θ Gs U (F_X5_stepIsDue_21 (Gs (pk 15 wx0 0))) (G_X5_stepIsDue_21 θ wx0) := by
  unfold F_X5_stepIsDue_21 G_X5_stepIsDue_21
  exact q_X5_stepIsDue_22 θ Gs U wx0 (0 : Int32) hvx0
set_option maxHeartbeats 4000000 in
set_option maxRecDepth 100000 in
theorem q_X5_stepIsDue (θ : gT) (Gs U : gK → Nat) (wx0 : Nat) (hvx0 : gV θ 15 wx0 0) : gSim true θ Gs U (F_X5_stepIsDue (Gs (pk 15 wx0 0))) (G_X5_stepIsDue θ wx0) := by
  unfold F_X5_stepIsDue G_X5_stepIsDue
  refine gq_ck (k := 15) (w := wx0) (i := 0) hvx0 rfl (fun _ _ => ⟨_, rfl⟩) ?_
  refine gq_I (k := 15) (w := wx0) (i := 0) hvx0 rfl (fun _ _ => ⟨_, rfl, rfl⟩) (fun v1 => ?_)
  refine gq_if (fun _ => ?_) (fun _ => ?_)
  · exact q_X5_stepIsDue_21 θ Gs U wx0 hvx0
  · refine gq_R (k := 15) (w := wx0) (i := 0) hvx0 rfl (fun _ _ => ⟨_, rfl, rfl⟩) ?_
    refine gq_call (q_X2_beginsSlot θ Gs U wx0 hvx0) (fun v2 => ?_)
    refine gq_if (fun _ => ?_) (fun _ => ?_)
    · exact q_X5_stepIsDue_22 θ Gs U wx0 (1 : Int32) hvx0
    · exact q_X5_stepIsDue_21 θ Gs U wx0 hvx0
set_option maxHeartbeats 4000000 in
set_option maxRecDepth 100000 in
theorem q_X5_dueInstruction (θ : gT) (Gs U : gK → Nat) (wx0 : Nat) (hvx0 : gV θ 15 wx0 0) : gSim true θ Gs U (F_X5_dueInstruction (Gs (pk 15 wx0 0))) (G_X5_dueInstruction θ wx0) := by
  unfold F_X5_dueInstruction G_X5_dueInstruction
  refine gq_ck (k := 15) (w := wx0) (i := 0) hvx0 rfl (fun _ _ => ⟨_, rfl⟩) ?_
  refine gq_R (k := 15) (w := wx0) (i := 0) hvx0 rfl (fun _ _ => ⟨_, rfl, rfl⟩) ?_
  refine gq_call (q_X2_slotDomain θ Gs U wx0 hvx0) (fun v1 => ?_)
  refine gq_R (k := 15) (w := wx0) (i := 0) hvx0 rfl (fun _ _ => ⟨_, rfl, rfl⟩) ?_
  refine gq_R (k := 1) (w := 0) (i := 0) (gv_plan hvx0) rfl (fun _ _ => ⟨_, rfl, rfl⟩) ?_
  refine gq_lq (k := 5) (w := 0) (i := 0) (gv_k0 5 rfl (gv_plan hvx0)) rfl (fun _ _ => rfl) (Nat.le_refl _) (fun j hj => if_pos hj) (fun j2 hj2 => ?_)
  refine gq_R (k := 15) (w := wx0) (i := 0) hvx0 rfl (fun _ _ => ⟨_, rfl, rfl⟩) ?_
  refine gq_lq (k := 16) (w := wx0) (i := 0) hvx0 rfl (fun _ _ => rfl) (Nat.le_refl _) (fun j hj => if_pos hj) (fun j3 hj3 => ?_)
  refine gq_I (k := 19) (w := wx0) (i := j3) (gv_dom hvx0 hj3) rfl (fun _ _ => ⟨_, rfl, rfl⟩) (fun v4 => ?_)
  refine gq_call (q_X9_get θ Gs U 6 0 j2 v4 (gv_prog (gv_k0 5 rfl (gv_plan hvx0)) hj2) gr_6) (fun v5 => ?_)
  exact gq_ret
set_option maxHeartbeats 4000000 in
set_option maxRecDepth 100000 in
theorem q_X5_beginTick_75 (θ : gT) (Gs U : gK → Nat) (f26 : Nat → Int32 → Int32 → mo_M Unit) (k26 : Nat → Int32 → Int32 → gM Unit) (hk26 : ∀ (U : gK → Nat) (wx0 : Nat) (x1 : Int32) (x2 : Int32) (hvx0 : gV θ 15 wx0 0), gSim false θ Gs U (f26 (Gs (pk 15 wx0 0)) x1 x2) (k26 wx0 x1 x2)) (wx0 : Nat) (x1 : Int32) (x2 : Int32) (hvx0 : gV θ 15 wx0 0) : gSim false θ Gs U (F_X5_beginTick_75 f26 (Gs (pk 15 wx0 0)) x1 x2) (G_X5_beginTick_75 θ k26 wx0 x1 x2) := by
  unfold F_X5_beginTick_75 G_X5_beginTick_75
  exact hk26 U wx0 x1 (x2 + (1 : Int32)) hvx0
set_option maxHeartbeats 4000000 in
set_option maxRecDepth 100000 in
theorem q_X5_beginTick_60 (θ : gT) (Gs U : gK → Nat) (f26 : Nat → Int32 → Int32 → mo_M Unit) (k26 : Nat → Int32 → Int32 → gM Unit) (hk26 : ∀ (U : gK → Nat) (wx0 : Nat) (x1 : Int32) (x2 : Int32) (hvx0 : gV θ 15 wx0 0), gSim false θ Gs U (f26 (Gs (pk 15 wx0 0)) x1 x2) (k26 wx0 x1 x2)) (wx0 : Nat) (x1 : Int32) (x2 : Int32) (wx3 : Nat) (ix3 : Nat) (hvx0 : gV θ 15 wx0 0) (hvx3 : gV θ 26 wx3 ix3) : gSim false θ Gs U (F_X5_beginTick_60 f26 (Gs (pk 15 wx0 0)) x1 x2 (Gs (pk 26 wx3 ix3))) (G_X5_beginTick_60 θ k26 wx0 x1 x2 wx3 ix3) := by
  unfold F_X5_beginTick_60 G_X5_beginTick_60
  refine gq_R (k := 26) (w := wx3) (i := ix3) hvx3 rfl (fun _ _ => ⟨_, rfl, rfl⟩) ?_
  refine gq_I (k := 4) (w := 0) (i := ix3) (gv_link hvx3) rfl (fun _ _ => ⟨_, rfl, rfl⟩) (fun v1 => ?_)
  refine gq_if (fun _ => ?_) (fun _ => ?_)
  · refine gq_cal (q_X1_handOver θ Gs U wx3 ix3 hvx3) (fun v2 U => ?_)
    exact q_X5_beginTick_75 θ Gs U f26 k26 hk26 wx0 x1 x2 hvx0
  · exact q_X5_beginTick_75 θ Gs U f26 k26 hk26 wx0 x1 x2 hvx0
set_option maxHeartbeats 4000000 in
set_option maxRecDepth 100000 in
theorem q_X5_beginTick_26 (θ : gT) (Gs U0 : gK → Nat)    : ∀ (fu : Nat) (wx0 : Nat) (x1 : Int32) (x2 : Int32) (hvx0 : gV θ 15 wx0 0), gSim false θ Gs U0 (F_X5_beginTick_26 fu (Gs (pk 15 wx0 0)) x1 x2) (G_X5_beginTick_26 θ fu wx0 x1 x2) := by
  intro fu
  revert U0
  induction fu with
  | zero =>
    intro U wx0 x1 x2 hvx0
    unfold G_X5_beginTick_26
    exact gq_no
  | succ fu ih =>
    intro U wx0 x1 x2 hvx0
    unfold F_X5_beginTick_26 G_X5_beginTick_26
    refine gq_R (k := 15) (w := wx0) (i := 0) hvx0 rfl (fun _ _ => ⟨_, rfl, rfl⟩) ?_
    refine gq_I (k := 1) (w := 0) (i := 0) (gv_plan hvx0) rfl (fun _ _ => ⟨_, rfl, rfl⟩) (fun v1 => ?_)
    refine gq_if (fun _ => ?_) (fun _ => ?_)
    · exact gq_ret
    · refine gq_R (k := 15) (w := wx0) (i := 0) hvx0 rfl (fun _ _ => ⟨_, rfl, rfl⟩) ?_
      refine gq_lq (k := 17) (w := wx0) (i := 0) hvx0 rfl (fun _ _ => rfl) hvx0.2.2 (fun j hj => if_pos hj) (fun j2 hj2 => ?_)
      refine gq_R (k := 26) (w := wx0) (i := j2) (gv_chan hvx0 hj2) rfl (fun _ _ => ⟨_, rfl, rfl⟩) ?_
      refine gq_I (k := 4) (w := 0) (i := j2) (gv_link (gv_chan hvx0 hj2)) rfl (fun _ _ => ⟨_, rfl, rfl⟩) (fun v3 => ?_)
      refine gq_if (fun _ => ?_) (fun _ => ?_)
      · refine gq_p (k := 26) (w := wx0) (i := j2) (gv_chan hvx0 hj2) rfl (fun _ _ => ⟨_, rfl, by simp, rfl⟩) ?_
        exact q_X5_beginTick_60 θ Gs U (F_X5_beginTick_26  fu) (G_X5_beginTick_26 θ  fu) ih wx0 x1 x2 wx0 j2 hvx0 (gv_chan hvx0 hj2)
      · exact q_X5_beginTick_60 θ Gs U (F_X5_beginTick_26  fu) (G_X5_beginTick_26 θ  fu) ih wx0 x1 x2 wx0 j2 hvx0 (gv_chan hvx0 hj2)
set_option maxHeartbeats 4000000 in
set_option maxRecDepth 100000 in
theorem q_X5_beginTick (θ : gT) (Gs U : gK → Nat) (wx0 : Nat) (hvx0 : gV θ 15 wx0 0) : gSim false θ Gs U (F_X5_beginTick (Gs (pk 15 wx0 0))) (G_X5_beginTick θ wx0) := by
  unfold F_X5_beginTick G_X5_beginTick
  refine gq_ck (k := 15) (w := wx0) (i := 0) hvx0 rfl (fun _ _ => ⟨_, rfl⟩) ?_
  refine gq_R (k := 15) (w := wx0) (i := 0) hvx0 rfl (fun _ _ => ⟨_, rfl, rfl⟩) ?_
  refine gq_call (q_X2_beginsSlot θ Gs U wx0 hvx0) (fun v1 => ?_)
  refine gq_if (fun _ => ?_) (fun _ => ?_)
  · exact gq_ret
  · refine gq_pz (k := 15) (w := wx0) (i := 0) hvx0 rfl (fun _ _ => ⟨_, rfl, by simp, rfl⟩) ?_
    refine gq_R (k := 15) (w := wx0) (i := 0) hvx0 rfl (fun _ _ => ⟨_, rfl, rfl⟩) ?_
    refine gq_call (q_X2_slotDomain θ Gs U wx0 hvx0) (fun v2 => ?_)
    exact q_X5_beginTick_26 θ Gs U mo_fu wx0 v2 (0 : Int32) hvx0
set_option maxHeartbeats 4000000 in
set_option maxRecDepth 100000 in
theorem q_X5_endTick (θ : gT) (Gs U : gK → Nat) (wx0 : Nat) (hvx0 : gV θ 15 wx0 0) : gSim true θ Gs U (F_X5_endTick (Gs (pk 15 wx0 0))) (G_X5_endTick θ wx0) := by
  unfold F_X5_endTick G_X5_endTick
  refine gq_ck (k := 15) (w := wx0) (i := 0) hvx0 rfl (fun _ _ => ⟨_, rfl⟩) ?_
  refine gq_R (k := 15) (w := wx0) (i := 0) hvx0 rfl (fun _ _ => ⟨_, rfl, rfl⟩) ?_
  refine gq_R (k := 15) (w := wx0) (i := 0) hvx0 rfl (fun _ _ => ⟨_, rfl, rfl⟩) ?_
  refine gq_call (q_X2_slotDomain θ Gs U wx0 hvx0) (fun v1 => ?_)
  refine gq_lq (k := 16) (w := wx0) (i := 0) hvx0 rfl (fun _ _ => rfl) (Nat.le_refl _) (fun j hj => if_pos hj) (fun j2 hj2 => ?_)
  refine gq_I (k := 19) (w := wx0) (i := j2) (gv_dom hvx0 hj2) rfl (fun _ _ => ⟨_, rfl, rfl⟩) (fun v3 => ?_)
  refine gq_p (k := 19) (w := wx0) (i := j2) (gv_dom hvx0 hj2) rfl (fun _ _ => ⟨_, rfl, by simp, rfl⟩) ?_
  refine gq_R (k := 15) (w := wx0) (i := 0) hvx0 rfl (fun _ _ => ⟨_, rfl, rfl⟩) ?_
  refine gq_call (q_X2_advance θ Gs U wx0 hvx0) (fun v4 => ?_)
  exact gq_ret
set_option maxHeartbeats 4000000 in
set_option maxRecDepth 100000 in
theorem q_X5_isAlone_18 (θ : gT) (Gs U : gK → Nat)      : gSim true θ Gs U (F_X5_isAlone_18) (G_X5_isAlone_18 θ) := by
  unfold F_X5_isAlone_18 G_X5_isAlone_18
  exact gq_rz
set_option maxHeartbeats 4000000 in
set_option maxRecDepth 100000 in
theorem q_X5_isAlone (θ : gT) (Gs U : gK → Nat) (x0 : Int32)  : gSim true θ Gs U (F_X5_isAlone x0) (G_X5_isAlone θ x0) := by
  unfold F_X5_isAlone G_X5_isAlone
  refine gq_if (fun _ => ?_) (fun _ => ?_)
  · exact q_X5_isAlone_18 θ Gs U
  · refine gq_if (fun _ => ?_) (fun _ => ?_)
    · exact q_X5_isAlone_18 θ Gs U
    · refine gq_if (fun _ => ?_) (fun _ => ?_)
      · exact q_X5_isAlone_18 θ Gs U
      · exact gq_rz
set_option maxHeartbeats 4000000 in
set_option maxRecDepth 100000 in
theorem q_X10_isSchedule (θ : gT) (Gs U : gK → Nat) (x0 : Int32)  : gSim true θ Gs U (F_X10_isSchedule x0) (G_X10_isSchedule θ x0) := by
  unfold F_X10_isSchedule G_X10_isSchedule
  refine gq_if (fun _ => ?_) (fun _ => ?_)
  · exact gq_rz
  · refine gq_if (fun _ => ?_) (fun _ => ?_)
    · exact gq_rz
    · exact gq_rz
set_option maxHeartbeats 4000000 in
set_option maxRecDepth 100000 in
theorem q_X7_reigns (θ : gT) (Gs U : gK → Nat) (x1 : Int32) (hvx0 : gV θ 1 0 0) : gSim true θ Gs U (F_X7_reigns (Gs (pk 1 0 0)) x1) (G_X7_reigns θ x1) := by
  unfold F_X7_reigns G_X7_reigns
  refine gq_ck (k := 1) (w := 0) (i := 0) hvx0 rfl (fun _ _ => ⟨_, rfl⟩) ?_
  refine gq_R (k := 1) (w := 0) (i := 0) hvx0 rfl (fun _ _ => ⟨_, rfl, rfl⟩) ?_
  refine gq_la (k := 2) (w := 0) (i := 0) (gv_k0 2 rfl hvx0) rfl (fun _ _ => rfl) (fun v1 => ?_)
  refine gq_I (k := 1) (w := 0) (i := 0) hvx0 rfl (fun _ _ => ⟨_, rfl, rfl⟩) (fun v2 => ?_)
  refine gq_if (fun _ => ?_) (fun _ => ?_)
  · exact gq_rz
  · exact gq_rz
set_option maxHeartbeats 4000000 in
set_option maxRecDepth 100000 in
theorem q_X5_ask (θ : gT) (Gs U : gK → Nat) (wx0 : Nat) (x1 : Int32) (x2 : Int32) (hvx0 : gV θ 15 wx0 0) : gSim true θ Gs U (F_X5_ask (Gs (pk 15 wx0 0)) x1 x2) (G_X5_ask θ wx0 x1 x2) := by
  unfold F_X5_ask G_X5_ask
  refine gq_ck (k := 15) (w := wx0) (i := 0) hvx0 rfl (fun _ _ => ⟨_, rfl⟩) ?_
  refine gq_call (q_X10_isSchedule θ Gs U x2 ) (fun v1 => ?_)
  refine gq_if (fun _ => ?_) (fun _ => ?_)
  · exact gq_rz
  · refine gq_R (k := 15) (w := wx0) (i := 0) hvx0 rfl (fun _ _ => ⟨_, rfl, rfl⟩) ?_
    refine gq_call (q_X7_reigns θ Gs U x1 (gv_plan hvx0)) (fun v2 => ?_)
    refine gq_if (fun _ => ?_) (fun _ => ?_)
    · exact gq_rz
    · refine gq_R (k := 15) (w := wx0) (i := 0) hvx0 rfl (fun _ _ => ⟨_, rfl, rfl⟩) ?_
      refine gq_p (k := 18) (w := wx0) (i := 0) hvx0 rfl (fun _ _ => ⟨_, rfl, by simp, rfl⟩) ?_
      exact gq_rz
set_option maxHeartbeats 4000000 in
set_option maxRecDepth 100000 in
theorem q_X7_hasDomain (θ : gT) (Gs U : gK → Nat) (x1 : Int32) (hvx0 : gV θ 1 0 0) : gSim true θ Gs U (F_X7_hasDomain (Gs (pk 1 0 0)) x1) (G_X7_hasDomain θ x1) := by
  unfold F_X7_hasDomain G_X7_hasDomain
  refine gq_ck (k := 1) (w := 0) (i := 0) hvx0 rfl (fun _ _ => ⟨_, rfl⟩) ?_
  refine gq_if (fun _ => ?_) (fun _ => ?_)
  · exact gq_rz
  · refine gq_I (k := 1) (w := 0) (i := 0) hvx0 rfl (fun _ _ => ⟨_, rfl, rfl⟩) (fun v1 => ?_)
    refine gq_if (fun _ => ?_) (fun _ => ?_)
    · exact gq_rz
    · exact gq_rz
set_option maxHeartbeats 4000000 in
set_option maxRecDepth 100000 in
theorem q_X7_mayFlow (θ : gT) (Gs U : gK → Nat) (x1 : Int32) (x2 : Int32) (hvx0 : gV θ 1 0 0) : gSim true θ Gs U (F_X7_mayFlow (Gs (pk 1 0 0)) x1 x2) (G_X7_mayFlow θ x1 x2) := by
  unfold F_X7_mayFlow G_X7_mayFlow
  refine gq_ck (k := 1) (w := 0) (i := 0) hvx0 rfl (fun _ _ => ⟨_, rfl⟩) ?_
  refine gq_R (k := 1) (w := 0) (i := 0) hvx0 rfl (fun _ _ => ⟨_, rfl, rfl⟩) ?_
  refine gq_la (k := 2) (w := 0) (i := 0) (gv_k0 2 rfl hvx0) rfl (fun _ _ => rfl) (fun v1 => ?_)
  refine gq_if (fun _ => ?_) (fun _ => ?_)
  · exact gq_rz
  · exact gq_rz
set_option maxHeartbeats 4000000 in
set_option maxRecDepth 100000 in
theorem q_X5_look (θ : gT) (Gs U : gK → Nat) (wx0 : Nat) (x1 : Int32) (x2 : Int32) (hvx0 : gV θ 15 wx0 0) : gSim true θ Gs U (F_X5_look (Gs (pk 15 wx0 0)) x1 x2) (G_X5_look θ wx0 x1 x2) := by
  unfold F_X5_look G_X5_look
  refine gq_ck (k := 15) (w := wx0) (i := 0) hvx0 rfl (fun _ _ => ⟨_, rfl⟩) ?_
  refine gq_call (q_X10_partB θ Gs U x2 ) (fun v1 => ?_)
  refine gq_R (k := 15) (w := wx0) (i := 0) hvx0 rfl (fun _ _ => ⟨_, rfl, rfl⟩) ?_
  refine gq_lq (k := 16) (w := wx0) (i := 0) hvx0 rfl (fun _ _ => rfl) (Nat.le_refl _) (fun j hj => if_pos hj) (fun j2 hj2 => ?_)
  refine gq_call (q_X10_partC θ Gs U x2 ) (fun v3 => ?_)
  refine gq_call (q_X3_read θ Gs U wx0 j2 v3 (gv_dom hvx0 hj2)) (fun v4 => ?_)
  refine gq_R (k := 15) (w := wx0) (i := 0) hvx0 rfl (fun _ _ => ⟨_, rfl, rfl⟩) ?_
  refine gq_call (q_X7_hasDomain θ Gs U v1 (gv_plan hvx0)) (fun v5 => ?_)
  refine gq_if (fun _ => ?_) (fun _ => ?_)
  · exact gq_rz
  · refine gq_R (k := 15) (w := wx0) (i := 0) hvx0 rfl (fun _ _ => ⟨_, rfl, rfl⟩) ?_
    refine gq_call (q_X7_mayFlow θ Gs U v1 x1 (gv_plan hvx0)) (fun v6 => ?_)
    refine gq_if (fun _ => ?_) (fun _ => ?_)
    · exact gq_rz
    · refine gq_call (q_X3_hasCells θ Gs U v4 (1 : Int32) ) (fun v7 => ?_)
      refine gq_if (fun _ => ?_) (fun _ => ?_)
      · exact gq_rz
      · refine gq_R (k := 15) (w := wx0) (i := 0) hvx0 rfl (fun _ _ => ⟨_, rfl, rfl⟩) ?_
        refine gq_lq (k := 16) (w := wx0) (i := 0) hvx0 rfl (fun _ _ => rfl) (Nat.le_refl _) (fun j hj => if_pos hj) (fun j8 hj8 => ?_)
        refine gq_call (q_X10_partA θ Gs U x2 ) (fun v9 => ?_)
        refine gq_R (k := 15) (w := wx0) (i := 0) hvx0 rfl (fun _ _ => ⟨_, rfl, rfl⟩) ?_
        refine gq_lq (k := 16) (w := wx0) (i := 0) hvx0 rfl (fun _ _ => rfl) (Nat.le_refl _) (fun j hj => if_pos hj) (fun j10 hj10 => ?_)
        refine gq_R (k := 19) (w := wx0) (i := j10) (gv_dom hvx0 hj10) rfl (fun _ _ => ⟨_, rfl, rfl⟩) ?_
        refine gq_la (k := 21) (w := wx0) (i := j10) (gv_dom hvx0 hj10) rfl (fun _ _ => rfl) (fun v11 => ?_)
        refine gq_call (q_X3_write θ Gs U wx0 j8 v9 v11 (gv_dom hvx0 hj8)) (fun v12 => ?_)
        exact gq_rz
