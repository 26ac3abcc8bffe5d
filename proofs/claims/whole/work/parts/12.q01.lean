theorem q_X5_channelOfKind (θ : gT) (Gs U : gK → Nat) (wx0 : Nat) (x1 x2 : Int32) (hvx0 : gV θ 15 wx0 0) : gSimC θ Gs U wx0 (F_X5_channelOfKind (Gs (pk 15 wx0 0)) x1 x2) (G_X5_channelOfKind θ wx0 x1 x2) := fun h s H r s' e => by
  have c15 := (H.1 15 wx0 0 hvx0).1
  have c1 := (H.1 1 0 0 (gv_plan hvx0)).1
  have c3 := (H.1 3 0 0 (gv_k0 3 rfl hvx0)).1
  have c17 := (H.1 17 wx0 0 hvx0).1
  unfold G_X5_channelOfKind at e
  obtain ⟨v3, s1, e1, e⟩ := gbE e
  have e1 : some (s.1 (pk 1 0 0) 3, s) = some (v3, s1) := e1
  cases e1
  unfold F_X5_channelOfKind
  rw [rn_ck (a := Gs (pk 15 wx0 0)) c15, rn_gR (a := Gs (pk 15 wx0 0)) c15 rfl, rn_gI (a := Gs (pk 1 0 0)) c1 rfl]
  unfold gif at e
  by_cases hc : s.1 (pk 1 0 0) 3 ≤ x1
  · rw [if_pos hc] at e ⊢
    have e : some ((none : Option Nat), s) = some (r, s') := e
    cases e
    exact ⟨h, rfl, H, fun j hj => by cases hj⟩
  · rw [if_neg hc] at e ⊢
    obtain ⟨j, s1, e1, e⟩ := gbE e
    unfold gx at e1
    split at e1
    · cases e1
    rename_i hx
    cases e1
    have hj : x1.toNatClampNeg < θ.2.1 := Nat.not_le.mp fun q => hx (Or.inr q)
    have c4 := (H.1 4 0 x1.toNatClampNeg (gv_lnk hvx0 hj)).1
    have hx2 : ¬ (x1 < 0 ∨ 12 ≤ x1.toNatClampNeg) := fun q => q.elim (fun q => hx (Or.inl q)) (fun q => by have := hvx0.2.2; omega)
    obtain ⟨v8, s1, e1, e⟩ := gbE e
    have e1 : some (s.1 (pk 4 0 x1.toNatClampNeg) 2, s) = some (v8, s1) := e1
    cases e1
    rw [rn_gR (a := Gs (pk 15 wx0 0)) c15 rfl, rn_gR (a := Gs (pk 1 0 0)) c1 rfl, rn_lq (a := Gs (pk 3 0 0)) c3 hx2 (if_pos hj), rn_gI (a := Gs (pk 4 0 x1.toNatClampNeg)) c4 rfl]
    by_cases hd : s.1 (pk 4 0 x1.toNatClampNeg) 2 = x2
    · rw [if_pos hd] at e ⊢
      obtain ⟨j2, s1, e1, e⟩ := gbE e
      unfold gx at e1
      rw [if_neg hx] at e1
      cases e1
      have e : some (some x1.toNatClampNeg, s) = some (r, s') := e
      cases e
      rw [rn_gR (a := Gs (pk 15 wx0 0)) c15 rfl, rn_lq (a := Gs (pk 17 wx0 0)) c17 hx2 (if_pos hj)]
      exact ⟨h, rfl, H, fun j hj2 => by cases hj2; exact hj⟩
    · rw [if_neg hd] at e ⊢
      have e : some ((none : Option Nat), s) = some (r, s') := e
      cases e
      exact ⟨h, rfl, H, fun j hj => by cases hj⟩
set_option maxHeartbeats 4000000 in
set_option maxRecDepth 100000 in
theorem q_X5_seeBoard (θ : gT) (Gs U : gK → Nat) (wx0 : Nat) (x1 : Int32) (x2 : Int32) (hvx0 : gV θ 15 wx0 0) : gSim true θ Gs U (F_X5_seeBoard (Gs (pk 15 wx0 0)) x1 x2) (G_X5_seeBoard θ wx0 x1 x2) := by
  unfold F_X5_seeBoard G_X5_seeBoard
  refine gq_ck (k := 15) (w := wx0) (i := 0) hvx0 rfl (fun _ _ => ⟨_, rfl⟩) ?_
  refine gq_R (k := 15) (w := wx0) (i := 0) hvx0 rfl (fun _ _ => ⟨_, rfl, rfl⟩) ?_
  refine gq_lq (k := 16) (w := wx0) (i := 0) hvx0 rfl (fun _ _ => rfl) (Nat.le_refl _) (fun j hj => if_pos hj) (fun j1 hj1 => ?_)
  refine gq_call (q_X10_partA θ Gs U x2 ) (fun v2 => ?_)
  refine gq_chan (q_X5_channelOfKind θ Gs U wx0 v2 (1 : Int32) hvx0) (fun v3 hC => ?_)
  refine gq_call (q_X10_partB θ Gs U x2 ) (fun v4 => ?_)
  refine gq_call (q_X3_read θ Gs U wx0 j1 v4 (gv_dom hvx0 hj1)) (fun v5 => ?_)
  rcases v3 with _ | j6
  · exact gq_rz
  · have hC := hC _ rfl
    refine gq_R (k := 26) (w := wx0) (i := j6) (gv_chan15 hvx0 hC) rfl (fun _ _ => ⟨_, rfl, rfl⟩) ?_
    refine gq_I (k := 4) (w := 0) (i := j6) (gv_link (gv_chan15 hvx0 hC)) rfl (fun _ _ => ⟨_, rfl, rfl⟩) (fun v7 => ?_)
    refine gq_if (fun _ => ?_) (fun _ => ?_)
    · refine gq_R (k := 26) (w := wx0) (i := j6) (gv_chan15 hvx0 hC) rfl (fun _ _ => ⟨_, rfl, rfl⟩) ?_
      refine gq_I (k := 4) (w := 0) (i := j6) (gv_link (gv_chan15 hvx0 hC)) rfl (fun _ _ => ⟨_, rfl, rfl⟩) (fun v8 => ?_)
      refine gq_call (q_X3_hasCells θ Gs U v5 v8 ) (fun v9 => ?_)
      refine gq_if (fun _ => ?_) (fun _ => ?_)
      · exact gq_rz
      · refine gq_R (k := 26) (w := wx0) (i := j6) (gv_chan15 hvx0 hC) rfl (fun _ _ => ⟨_, rfl, rfl⟩) ?_
        refine gq_R (k := 19) (w := wx0) (i := j1) (gv_dom hvx0 hj1) rfl (fun _ _ => ⟨_, rfl, rfl⟩) ?_
        refine gq_R (k := 26) (w := wx0) (i := j6) (gv_chan15 hvx0 hC) rfl (fun _ _ => ⟨_, rfl, rfl⟩) ?_
        refine gq_I (k := 4) (w := 0) (i := j6) (gv_link (gv_chan15 hvx0 hC)) rfl (fun _ _ => ⟨_, rfl, rfl⟩) (fun v10 => ?_)
        refine gq_cp (k2 := 31) (w2 := wx0) (i2 := j6) (gv_chan15 hvx0 hC) rfl (fun _ _ => rfl) (k := 21) (w := wx0) (i := j1) (gv_dom hvx0 hj1) rfl (fun _ _ => rfl) ?_
        refine gq_R (k := 15) (w := wx0) (i := 0) hvx0 rfl (fun _ _ => ⟨_, rfl, rfl⟩) ?_
        refine gq_I (k := 18) (w := wx0) (i := 0) hvx0 rfl (fun _ _ => ⟨_, rfl, rfl⟩) (fun v11 => ?_)
        refine gq_call (q_X1_age θ Gs U wx0 j6 v11 (gv_chan15 hvx0 hC)) (fun v12 => ?_)
        refine gq_call (q_X3_report θ Gs U wx0 j1 v12 (gv_dom hvx0 hj1)) (fun v13 => ?_)
        exact gq_rz
    · exact gq_rz
set_option maxHeartbeats 4000000 in
set_option maxRecDepth 100000 in
theorem q_X6_add_33 (θ : gT) (Gs U : gK → Nat)    (kx0 : Nat) (wx0 : Nat) (ix0 : Nat) (kx1 : Nat) (wx1 : Nat) (ix1 : Nat) (x2 : Int32) (x3 : Int32) (x4 : Int32) (hvx0 : gV θ kx0 wx0 ix0) (hkx0 : gMsgK kx0) (hvx1 : gV θ kx1 wx1 ix1) (hkx1 : gArK kx1) : gSim false θ Gs U (F_X6_add_33 (U (pk kx0 wx0 ix0)) (Gs (pk kx1 wx1 ix1)) x2 x3 x4) (G_X6_add_33 θ kx0 wx0 ix0 kx1 wx1 ix1 x2 x3 x4) := by
  unfold F_X6_add_33 G_X6_add_33
  refine gq_R (k := kx0) (w := wx0) (i := ix0) hvx0 (gA_msg hkx0) (fun _ _ => ⟨_, gC_msg hkx0, rfl⟩) ?_
  refine gq_sa (k := (kx0 + 1)) (w := wx0) (i := ix0) (gV_msgR hkx0 hvx0) (gA_msgR hkx0) (fun _ _ => gC_msgR hkx0) ?_
  refine gq_R (k := kx0) (w := wx0) (i := ix0) hvx0 (gA_msg hkx0) (fun _ _ => ⟨_, gC_msg hkx0, rfl⟩) ?_
  refine gq_cp (k2 := kx1) (w2 := wx1) (i2 := ix1) hvx1 (gA_arr hkx1) (fun _ _ => gC_arr hkx1) (k := (kx0 + 1)) (w := wx0) (i := ix0) (gV_msgR hkx0 hvx0) (gA_msgR hkx0) (fun _ _ => gC_msgR hkx0) ?_
  refine gq_I (k := kx0) (w := wx0) (i := ix0) hvx0 (gA_msg hkx0) (fun _ _ => ⟨_, gC_msg hkx0, rfl⟩) (fun v1 => ?_)
  refine gq_p (k := kx0) (w := wx0) (i := ix0) hvx0 (gA_msg hkx0) (fun f n => ⟨_, gC_msg hkx0, by simp, by rw [gC_msg hkx0]; rfl⟩) ?_
  exact gq_ret
theorem q_X6_add (θ : gT) (Gs U : gK → Nat) (kx0 wx0 ix0 kx1 wx1 ix1 : Nat) (x2 x3 : Int32) (hvx0 : gV θ kx0 wx0 ix0) (hkx0 : gMsgK kx0) (hvx1 : gV θ kx1 wx1 ix1) (hkx1 : gArK kx1) : gSim false θ Gs U (F_X6_add (U (pk kx0 wx0 ix0)) (Gs (pk kx1 wx1 ix1)) x2 x3) (G_X6_add θ kx0 wx0 ix0 kx1 wx1 ix1 x2 x3) := by
  unfold F_X6_add G_X6_add
  refine gq_ck (k := kx0) (w := wx0) (i := ix0) hvx0 (gA_msg hkx0) (fun _ _ => ⟨_, gC_msg hkx0⟩) ?_
  refine gq_I (k := kx0) (w := wx0) (i := ix0) hvx0 (gA_msg hkx0) (fun _ _ => ⟨_, gC_msg hkx0, rfl⟩) (fun v4 => ?_)
  refine gq_R (k := kx0) (w := wx0) (i := ix0) hvx0 (gA_msg hkx0) (fun _ _ => ⟨_, gC_msg hkx0, rfl⟩) ?_
  refine gq_ln (k := (kx0 + 1)) (w := wx0) (i := ix0) (gV_msgR hkx0 hvx0) (gA_msgR hkx0) (fun _ _ => gC_msgR hkx0) (by decide) (fun v6 => ?_)
  refine gq_if (fun _ => ?_) (fun _ => ?_)
  · refine gq_R (k := kx0) (w := wx0) (i := ix0) hvx0 (gA_msg hkx0) (fun _ _ => ⟨_, gC_msg hkx0, rfl⟩) ?_
    have hg := gq_growm (θ := θ) (Gs := Gs) (U := U) (k := kx0) (w := wx0) (i := ix0) (ci := 6) (n := (2 : Int32) * ((5 : Int32) * v4)) (K := fun V => F_X6_add_33 (V (pk kx0 wx0 ix0)) (Gs (pk kx1 wx1 ix1)) x2 x3 ((5 : Int32) * v4)) (k' := G_X6_add_33 θ kx0 wx0 ix0 kx1 wx1 ix1 x2 x3 ((5 : Int32) * v4)) (tl := fun f => [.int (f 1), .int (f 2)]) hvx0 (gV_msgR hkx0 hvx0) (gA_msg hkx0) (gA_msgR hkx0) (by rcases hkx0 with rfl | rfl <;> rfl) (by rcases hkx0 with rfl | rfl <;> (intro k' hk'; simp [gOw] at hk'; exact hk')) (fun _ _ _ => gC_msg hkx0) (fun _ _ _ => gC_msgR hkx0) (fun U _ => q_X6_add_33 θ Gs U kx0 wx0 ix0 kx1 wx1 ix1 x2 x3 ((5 : Int32) * v4) hvx0 hkx0 hvx1 hkx1) (fun V V' h => by show F_X6_add_33 (V (pk kx0 wx0 ix0)) _ _ _ _ = F_X6_add_33 (V' (pk kx0 wx0 ix0)) _ _ _ _; rw [h])
    exact hg
  · exact q_X6_add_33 θ Gs U kx0 wx0 ix0 kx1 wx1 ix1 x2 x3 ((5 : Int32) * v4) hvx0 hkx0 hvx1 hkx1
set_option maxHeartbeats 4000000 in
set_option maxRecDepth 100000 in
theorem q_X5_send (θ : gT) (Gs U : gK → Nat) (wx0 : Nat) (x1 : Int32) (x2 : Int32) (hvx0 : gV θ 15 wx0 0) : gSim false θ Gs U (F_X5_send (Gs (pk 15 wx0 0)) x1 x2) (G_X5_send θ wx0 x1 x2) := by
  unfold F_X5_send G_X5_send
  refine gq_ck (k := 15) (w := wx0) (i := 0) hvx0 rfl (fun _ _ => ⟨_, rfl⟩) ?_
  refine gq_R (k := 15) (w := wx0) (i := 0) hvx0 rfl (fun _ _ => ⟨_, rfl, rfl⟩) ?_
  refine gq_lq (k := 16) (w := wx0) (i := 0) hvx0 rfl (fun _ _ => rfl) (Nat.le_refl _) (fun j hj => if_pos hj) (fun j1 hj1 => ?_)
  refine gq_call (q_X10_partA θ Gs U x2 ) (fun v2 => ?_)
  refine gq_chan (q_X5_channelOfKind θ Gs U wx0 v2 (0 : Int32) hvx0) (fun v3 hC => ?_)
  rcases v3 with _ | j4
  · exact gq_rz
  · have hC := hC _ rfl
    refine gq_R (k := 26) (w := wx0) (i := j4) (gv_chan15 hvx0 hC) rfl (fun _ _ => ⟨_, rfl, rfl⟩) ?_
    refine gq_I (k := 4) (w := 0) (i := j4) (gv_link (gv_chan15 hvx0 hC)) rfl (fun _ _ => ⟨_, rfl, rfl⟩) (fun v5 => ?_)
    refine gq_if (fun _ => ?_) (fun _ => ?_)
    · refine gq_call (q_X10_partB θ Gs U x2 ) (fun v6 => ?_)
      refine gq_call (q_X3_read θ Gs U wx0 j1 v6 (gv_dom hvx0 hj1)) (fun v7 => ?_)
      refine gq_call (q_X10_partC θ Gs U x2 ) (fun v8 => ?_)
      refine gq_call (q_X3_read θ Gs U wx0 j1 v8 (gv_dom hvx0 hj1)) (fun v9 => ?_)
      refine gq_if (fun _ => ?_) (fun _ => ?_)
      · exact gq_rz
      · refine gq_if (fun _ => ?_) (fun _ => ?_)
        · exact gq_rz
        · refine gq_call (q_X3_hasCells θ Gs U v7 v9 ) (fun v10 => ?_)
          refine gq_if (fun _ => ?_) (fun _ => ?_)
          · exact gq_rz
          · refine gq_I (k := 26) (w := wx0) (i := j4) (gv_chan15 hvx0 hC) rfl (fun _ _ => ⟨_, rfl, rfl⟩) (fun v11 => ?_)
            refine gq_R (k := 26) (w := wx0) (i := j4) (gv_chan15 hvx0 hC) rfl (fun _ _ => ⟨_, rfl, rfl⟩) ?_
            refine gq_I (k := 4) (w := 0) (i := j4) (gv_link (gv_chan15 hvx0 hC)) rfl (fun _ _ => ⟨_, rfl, rfl⟩) (fun v12 => ?_)
            refine gq_if (fun _ => ?_) (fun _ => ?_)
            · refine gq_call (q_X3_report θ Gs U wx0 j1 (0 : Int32) (gv_dom hvx0 hj1)) (fun v16 => ?_)
              exact gq_rz
            · refine gq_I (k := 26) (w := wx0) (i := j4) (gv_chan15 hvx0 hC) rfl (fun _ _ => ⟨_, rfl, rfl⟩) (fun v13 => ?_)
              refine gq_p (k := 26) (w := wx0) (i := j4) (gv_chan15 hvx0 hC) rfl (fun _ _ => ⟨_, rfl, by simp, rfl⟩) ?_
              refine gq_R (k := 26) (w := wx0) (i := j4) (gv_chan15 hvx0 hC) rfl (fun _ _ => ⟨_, rfl, rfl⟩) ?_
              refine gq_R (k := 19) (w := wx0) (i := j1) (gv_dom hvx0 hj1) rfl (fun _ _ => ⟨_, rfl, rfl⟩) ?_
              refine gq_cal (q_X6_add θ Gs U 29 wx0 j4 21 wx0 j1 v7 v9 (gv_chan15 hvx0 hC) gm_29 (gv_dom hvx0 hj1) ga_21) (fun v14 U => ?_)
              refine gq_call (q_X3_report θ Gs U wx0 j1 (1 : Int32) (gv_dom hvx0 hj1)) (fun v15 => ?_)
              exact gq_rz
    · exact gq_rz
set_option maxHeartbeats 4000000 in
set_option maxRecDepth 100000 in
theorem q_X6_nextWords (θ : gT) (Gs U : gK → Nat) (kx0 : Nat) (wx0 : Nat) (ix0 : Nat) (hvx0 : gV θ kx0 wx0 ix0) (hkx0 : gMsgK kx0) : gSim true θ Gs U (F_X6_nextWords (U (pk kx0 wx0 ix0))) (G_X6_nextWords θ kx0 wx0 ix0) := by
  unfold F_X6_nextWords G_X6_nextWords
  refine gq_ck (k := kx0) (w := wx0) (i := ix0) hvx0 (gA_msg hkx0) (fun _ _ => ⟨_, gC_msg hkx0⟩) ?_
  refine gq_I (k := kx0) (w := wx0) (i := ix0) hvx0 (gA_msg hkx0) (fun _ _ => ⟨_, gC_msg hkx0, rfl⟩) (fun v1 => ?_)
  refine gq_I (k := kx0) (w := wx0) (i := ix0) hvx0 (gA_msg hkx0) (fun _ _ => ⟨_, gC_msg hkx0, rfl⟩) (fun v2 => ?_)
  refine gq_if (fun _ => ?_) (fun _ => ?_)
  · exact gq_ret
  · refine gq_R (k := kx0) (w := wx0) (i := ix0) hvx0 (gA_msg hkx0) (fun _ _ => ⟨_, gC_msg hkx0, rfl⟩) ?_
    refine gq_I (k := kx0) (w := wx0) (i := ix0) hvx0 (gA_msg hkx0) (fun _ _ => ⟨_, gC_msg hkx0, rfl⟩) (fun v3 => ?_)
    refine gq_la (k := (kx0 + 1)) (w := wx0) (i := ix0) (gV_msgR hkx0 hvx0) (gA_msgR hkx0) (fun _ _ => gC_msgR hkx0) (fun v4 => ?_)
    exact gq_ret
set_option maxHeartbeats 4000000 in
set_option maxRecDepth 100000 in
theorem q_X6_takeInto (θ : gT) (Gs U : gK → Nat) (kx0 : Nat) (wx0 : Nat) (ix0 : Nat) (kx1 : Nat) (wx1 : Nat) (ix1 : Nat) (x2 : Int32) (hvx0 : gV θ kx0 wx0 ix0) (hkx0 : gMsgK kx0) (hvx1 : gV θ kx1 wx1 ix1) (hkx1 : gArK kx1) : gSim true θ Gs U (F_X6_takeInto (U (pk kx0 wx0 ix0)) (Gs (pk kx1 wx1 ix1)) x2) (G_X6_takeInto θ kx0 wx0 ix0 kx1 wx1 ix1 x2) := by
  unfold F_X6_takeInto G_X6_takeInto
  refine gq_ck (k := kx0) (w := wx0) (i := ix0) hvx0 (gA_msg hkx0) (fun _ _ => ⟨_, gC_msg hkx0⟩) ?_
  refine gq_I (k := kx0) (w := wx0) (i := ix0) hvx0 (gA_msg hkx0) (fun _ _ => ⟨_, gC_msg hkx0, rfl⟩) (fun v1 => ?_)
  refine gq_I (k := kx0) (w := wx0) (i := ix0) hvx0 (gA_msg hkx0) (fun _ _ => ⟨_, gC_msg hkx0, rfl⟩) (fun v2 => ?_)
  refine gq_if (fun _ => ?_) (fun _ => ?_)
  · exact gq_ret
  · refine gq_R (k := kx0) (w := wx0) (i := ix0) hvx0 (gA_msg hkx0) (fun _ _ => ⟨_, gC_msg hkx0, rfl⟩) ?_
    refine gq_I (k := kx0) (w := wx0) (i := ix0) hvx0 (gA_msg hkx0) (fun _ _ => ⟨_, gC_msg hkx0, rfl⟩) (fun v3 => ?_)
    refine gq_R (k := kx0) (w := wx0) (i := ix0) hvx0 (gA_msg hkx0) (fun _ _ => ⟨_, gC_msg hkx0, rfl⟩) ?_
    refine gq_I (k := kx0) (w := wx0) (i := ix0) hvx0 (gA_msg hkx0) (fun _ _ => ⟨_, gC_msg hkx0, rfl⟩) (fun v4 => ?_)
    refine gq_la (k := (kx0 + 1)) (w := wx0) (i := ix0) (gV_msgR hkx0 hvx0) (gA_msgR hkx0) (fun _ _ => gC_msgR hkx0) (fun v5 => ?_)
    refine gq_cp (k2 := (kx0 + 1)) (w2 := wx0) (i2 := ix0) (gV_msgR hkx0 hvx0) (gA_msgR hkx0) (fun _ _ => gC_msgR hkx0) (k := kx1) (w := wx1) (i := ix1) hvx1 (gA_arr hkx1) (fun _ _ => gC_arr hkx1) ?_
    refine gq_I (k := kx0) (w := wx0) (i := ix0) hvx0 (gA_msg hkx0) (fun _ _ => ⟨_, gC_msg hkx0, rfl⟩) (fun v6 => ?_)
    refine gq_p (k := kx0) (w := wx0) (i := ix0) hvx0 (gA_msg hkx0) (fun f n => ⟨_, gC_msg hkx0, by simp, by rw [gC_msg hkx0]; rfl⟩) ?_
    exact gq_ret
set_option maxHeartbeats 4000000 in
set_option maxRecDepth 100000 in
theorem q_X5_take (θ : gT) (Gs U : gK → Nat) (wx0 : Nat) (x1 : Int32) (x2 : Int32) (hvx0 : gV θ 15 wx0 0) : gSim true θ Gs U (F_X5_take (Gs (pk 15 wx0 0)) x1 x2) (G_X5_take θ wx0 x1 x2) := by
  unfold F_X5_take G_X5_take
  refine gq_ck (k := 15) (w := wx0) (i := 0) hvx0 rfl (fun _ _ => ⟨_, rfl⟩) ?_
  refine gq_R (k := 15) (w := wx0) (i := 0) hvx0 rfl (fun _ _ => ⟨_, rfl, rfl⟩) ?_
  refine gq_lq (k := 16) (w := wx0) (i := 0) hvx0 rfl (fun _ _ => rfl) (Nat.le_refl _) (fun j hj => if_pos hj) (fun j1 hj1 => ?_)
  refine gq_call (q_X10_partA θ Gs U x2 ) (fun v2 => ?_)
  refine gq_chan (q_X5_channelOfKind θ Gs U wx0 v2 (0 : Int32) hvx0) (fun v3 hC => ?_)
  rcases v3 with _ | j4
  · exact gq_rz
  · have hC := hC _ rfl
    refine gq_R (k := 26) (w := wx0) (i := j4) (gv_chan15 hvx0 hC) rfl (fun _ _ => ⟨_, rfl, rfl⟩) ?_
    refine gq_I (k := 4) (w := 0) (i := j4) (gv_link (gv_chan15 hvx0 hC)) rfl (fun _ _ => ⟨_, rfl, rfl⟩) (fun v5 => ?_)
    refine gq_if (fun _ => ?_) (fun _ => ?_)
    · refine gq_R (k := 26) (w := wx0) (i := j4) (gv_chan15 hvx0 hC) rfl (fun _ _ => ⟨_, rfl, rfl⟩) ?_
      refine gq_call (q_X6_left θ Gs U 27 wx0 j4 (gv_chan15 hvx0 hC) gm_27) (fun v6 => ?_)
      refine gq_if (fun _ => ?_) (fun _ => ?_)
      · refine gq_call (q_X3_report θ Gs U wx0 j1 (-1 : Int32) (gv_dom hvx0 hj1)) (fun v13 => ?_)
        exact gq_rz
      · refine gq_call (q_X10_partB θ Gs U x2 ) (fun v7 => ?_)
        refine gq_call (q_X3_read θ Gs U wx0 j1 v7 (gv_dom hvx0 hj1)) (fun v8 => ?_)
        refine gq_R (k := 26) (w := wx0) (i := j4) (gv_chan15 hvx0 hC) rfl (fun _ _ => ⟨_, rfl, rfl⟩) ?_
        refine gq_call (q_X6_nextWords θ Gs U 27 wx0 j4 (gv_chan15 hvx0 hC) gm_27) (fun v9 => ?_)
        refine gq_call (q_X3_hasCells θ Gs U v8 v9 ) (fun v10 => ?_)
        refine gq_if (fun _ => ?_) (fun _ => ?_)
        · exact gq_rz
        · refine gq_R (k := 26) (w := wx0) (i := j4) (gv_chan15 hvx0 hC) rfl (fun _ _ => ⟨_, rfl, rfl⟩) ?_
          refine gq_R (k := 19) (w := wx0) (i := j1) (gv_dom hvx0 hj1) rfl (fun _ _ => ⟨_, rfl, rfl⟩) ?_
          refine gq_call (q_X6_takeInto θ Gs U 27 wx0 j4 21 wx0 j1 v8 (gv_chan15 hvx0 hC) gm_27 (gv_dom hvx0 hj1) ga_21) (fun v11 => ?_)
          refine gq_call (q_X3_report θ Gs U wx0 j1 v9 (gv_dom hvx0 hj1)) (fun v12 => ?_)
          exact gq_rz
    · exact gq_rz
set_option maxHeartbeats 4000000 in
set_option maxRecDepth 100000 in
theorem q_X5_writeBoard (θ : gT) (Gs U : gK → Nat) (wx0 : Nat) (x1 : Int32) (x2 : Int32) (hvx0 : gV θ 15 wx0 0) : gSim true θ Gs U (F_X5_writeBoard (Gs (pk 15 wx0 0)) x1 x2) (G_X5_writeBoard θ wx0 x1 x2) := by
  unfold F_X5_writeBoard G_X5_writeBoard
  refine gq_ck (k := 15) (w := wx0) (i := 0) hvx0 rfl (fun _ _ => ⟨_, rfl⟩) ?_
  refine gq_R (k := 15) (w := wx0) (i := 0) hvx0 rfl (fun _ _ => ⟨_, rfl, rfl⟩) ?_
  refine gq_lq (k := 16) (w := wx0) (i := 0) hvx0 rfl (fun _ _ => rfl) (Nat.le_refl _) (fun j hj => if_pos hj) (fun j1 hj1 => ?_)
  refine gq_call (q_X10_partA θ Gs U x2 ) (fun v2 => ?_)
  refine gq_chan (q_X5_channelOfKind θ Gs U wx0 v2 (1 : Int32) hvx0) (fun v3 hC => ?_)
  refine gq_call (q_X10_partB θ Gs U x2 ) (fun v4 => ?_)
  refine gq_call (q_X3_read θ Gs U wx0 j1 v4 (gv_dom hvx0 hj1)) (fun v5 => ?_)
  rcases v3 with _ | j6
  · exact gq_rz
  · have hC := hC _ rfl
    refine gq_R (k := 26) (w := wx0) (i := j6) (gv_chan15 hvx0 hC) rfl (fun _ _ => ⟨_, rfl, rfl⟩) ?_
    refine gq_I (k := 4) (w := 0) (i := j6) (gv_link (gv_chan15 hvx0 hC)) rfl (fun _ _ => ⟨_, rfl, rfl⟩) (fun v7 => ?_)
    refine gq_if (fun _ => ?_) (fun _ => ?_)
    · refine gq_R (k := 26) (w := wx0) (i := j6) (gv_chan15 hvx0 hC) rfl (fun _ _ => ⟨_, rfl, rfl⟩) ?_
      refine gq_I (k := 4) (w := 0) (i := j6) (gv_link (gv_chan15 hvx0 hC)) rfl (fun _ _ => ⟨_, rfl, rfl⟩) (fun v8 => ?_)
      refine gq_call (q_X3_hasCells θ Gs U v5 v8 ) (fun v9 => ?_)
      refine gq_if (fun _ => ?_) (fun _ => ?_)
      · exact gq_rz
      · refine gq_R (k := 19) (w := wx0) (i := j1) (gv_dom hvx0 hj1) rfl (fun _ _ => ⟨_, rfl, rfl⟩) ?_
        refine gq_R (k := 26) (w := wx0) (i := j6) (gv_chan15 hvx0 hC) rfl (fun _ _ => ⟨_, rfl, rfl⟩) ?_
        refine gq_R (k := 26) (w := wx0) (i := j6) (gv_chan15 hvx0 hC) rfl (fun _ _ => ⟨_, rfl, rfl⟩) ?_
        refine gq_I (k := 4) (w := 0) (i := j6) (gv_link (gv_chan15 hvx0 hC)) rfl (fun _ _ => ⟨_, rfl, rfl⟩) (fun v10 => ?_)
        refine gq_cp (k2 := 21) (w2 := wx0) (i2 := j1) (gv_dom hvx0 hj1) rfl (fun _ _ => rfl) (k := 31) (w := wx0) (i := j6) (gv_chan15 hvx0 hC) rfl (fun _ _ => rfl) ?_
        refine gq_I (k := 26) (w := wx0) (i := j6) (gv_chan15 hvx0 hC) rfl (fun _ _ => ⟨_, rfl, rfl⟩) (fun v11 => ?_)
        refine gq_p (k := 26) (w := wx0) (i := j6) (gv_chan15 hvx0 hC) rfl (fun _ _ => ⟨_, rfl, by simp, rfl⟩) ?_
        refine gq_R (k := 15) (w := wx0) (i := 0) hvx0 rfl (fun _ _ => ⟨_, rfl, rfl⟩) ?_
        refine gq_I (k := 18) (w := wx0) (i := 0) hvx0 rfl (fun _ _ => ⟨_, rfl, rfl⟩) (fun v12 => ?_)
        refine gq_p (k := 26) (w := wx0) (i := j6) (gv_chan15 hvx0 hC) rfl (fun _ _ => ⟨_, rfl, by simp, rfl⟩) ?_
        exact gq_rz
    · exact gq_rz
set_option maxHeartbeats 4000000 in
set_option maxRecDepth 100000 in
theorem q_X5_performShared (θ : gT) (Gs U : gK → Nat) (wx0 : Nat) (x1 : Int32) (x2 : Int32) (hvx0 : gV θ 15 wx0 0) : gSim false θ Gs U (F_X5_performShared (Gs (pk 15 wx0 0)) x1 x2) (G_X5_performShared θ wx0 x1 x2) := by
  unfold F_X5_performShared G_X5_performShared
  refine gq_ck (k := 15) (w := wx0) (i := 0) hvx0 rfl (fun _ _ => ⟨_, rfl⟩) ?_
  refine gq_call (q_X10_partA θ Gs U x2 ) (fun v1 => ?_)
  refine gq_call (q_X10_operation θ Gs U x2 ) (fun v2 => ?_)
  refine gq_if (fun _ => ?_) (fun _ => ?_)
  · refine gq_cal (q_X5_send θ Gs U wx0 x1 x2 hvx0) (fun v3 U => ?_)
    exact gq_rz
  refine gq_if (fun _ => ?_) (fun _ => ?_)
  · refine gq_call (q_X5_take θ Gs U wx0 x1 x2 hvx0) (fun v4 => ?_)
    exact gq_rz
  refine gq_if (fun _ => ?_) (fun _ => ?_)
  · refine gq_call (q_X5_writeBoard θ Gs U wx0 x1 x2 hvx0) (fun v5 => ?_)
    exact gq_rz
  refine gq_if (fun _ => ?_) (fun _ => ?_)
  · refine gq_call (q_X5_seeBoard θ Gs U wx0 x1 x2 hvx0) (fun v6 => ?_)
    exact gq_rz
  refine gq_if (fun _ => ?_) (fun _ => ?_)
  · refine gq_R (k := 15) (w := wx0) (i := 0) hvx0 rfl (fun _ _ => ⟨_, rfl, rfl⟩) ?_
    refine gq_lq (k := 16) (w := wx0) (i := 0) hvx0 rfl (fun _ _ => rfl) (Nat.le_refl _) (fun j hj => if_pos hj) (fun j7 hj7 => ?_)
    refine gq_R (k := 15) (w := wx0) (i := 0) hvx0 rfl (fun _ _ => ⟨_, rfl, rfl⟩) ?_
    refine gq_I (k := 18) (w := wx0) (i := 0) hvx0 rfl (fun _ _ => ⟨_, rfl, rfl⟩) (fun v8 => ?_)
    refine gq_call (q_X3_write θ Gs U wx0 j7 v1 v8 (gv_dom hvx0 hj7)) (fun v9 => ?_)
    exact gq_rz
  refine gq_if (fun _ => ?_) (fun _ => ?_)
  · refine gq_pz (k := 15) (w := wx0) (i := 0) hvx0 rfl (fun _ _ => ⟨_, rfl, by simp, rfl⟩) ?_
    exact gq_rz
  refine gq_if (fun _ => ?_) (fun _ => ?_)
  · refine gq_call (q_X5_look θ Gs U wx0 x1 x2 hvx0) (fun v10 => ?_)
    exact gq_rz
  refine gq_if (fun _ => ?_) (fun _ => ?_)
  · refine gq_call (q_X5_ask θ Gs U wx0 x1 v1 hvx0) (fun v11 => ?_)
    exact gq_rz
  refine gq_if (fun _ => ?_) (fun _ => ?_)
  · refine gq_R (k := 15) (w := wx0) (i := 0) hvx0 rfl (fun _ _ => ⟨_, rfl, rfl⟩) ?_
    refine gq_lq (k := 16) (w := wx0) (i := 0) hvx0 rfl (fun _ _ => rfl) (Nat.le_refl _) (fun j hj => if_pos hj) (fun j12 hj12 => ?_)
    refine gq_R (k := 15) (w := wx0) (i := 0) hvx0 rfl (fun _ _ => ⟨_, rfl, rfl⟩) ?_
    refine gq_I (k := 18) (w := wx0) (i := 0) hvx0 rfl (fun _ _ => ⟨_, rfl, rfl⟩) (fun v13 => ?_)
    refine gq_call (q_X3_write θ Gs U wx0 j12 v1 v13 (gv_dom hvx0 hj12)) (fun v14 => ?_)
    exact gq_rz
  exact gq_rz
set_option maxHeartbeats 4000000 in
set_option maxRecDepth 100000 in
theorem q_X5_makeStep_70 (θ : gT) (Gs U : gK → Nat)    (wx0 : Nat) (x1 : Int32) (wx2 : Nat) (ix2 : Nat) (x3 : Int32) (x4 : Int32) (hvx0 : gV θ 15 wx0 0) (hvx2 : gV θ 19 wx2 ix2) : gSim false θ Gs U (F_X5_makeStep_70 (Gs (pk 15 wx0 0)) x1 (Gs (pk 19 wx2 ix2)) x3 x4) (G_X5_makeStep_70 θ wx0 x1 wx2 ix2 x3 x4) := by
  unfold F_X5_makeStep_70 G_X5_makeStep_70
  refine gq_if (fun _ => ?_) (fun _ => ?_)
  · refine gq_R (k := 15) (w := wx0) (i := 0) hvx0 rfl (fun _ _ => ⟨_, rfl, rfl⟩) ?_
    refine gq_R (k := 1) (w := 0) (i := 0) (gv_plan hvx0) rfl (fun _ _ => ⟨_, rfl, rfl⟩) ?_
    refine gq_la (k := 8) (w := 0) (i := 0) (gv_k0 8 rfl (gv_plan hvx0)) rfl (fun _ _ => rfl) (fun v1 => ?_)
    refine gq_call (q_X3_fail θ Gs U wx2 ix2 v1 hvx2) (fun v2 => ?_)
    exact gq_ret
  · refine gq_call (q_X3_placeAfter θ Gs U wx2 ix2 x3 hvx2) (fun v3 => ?_)
    refine gq_p (k := 19) (w := wx2) (i := ix2) hvx2 rfl (fun _ _ => ⟨_, rfl, by simp, rfl⟩) ?_
    exact gq_ret
set_option maxHeartbeats 4000000 in
set_option maxRecDepth 100000 in
theorem q_X5_makeStep_68 (θ : gT) (Gs U : gK → Nat)    (wx0 : Nat) (x1 : Int32) (wx2 : Nat) (ix2 : Nat) (x3 : Int32) (s0 : Int32) (hvx0 : gV θ 15 wx0 0) (hvx2 : gV θ 19 wx2 ix2) : gSim false θ Gs U (F_X5_makeStep_68 (Gs (pk 15 wx0 0)) x1 (Gs (pk 19 wx2 ix2)) x3 s0) (G_X5_makeStep_68 θ wx0 x1 wx2 ix2 x3 s0) := by
  unfold F_X5_makeStep_68 G_X5_makeStep_68
  exact q_X5_makeStep_70 θ Gs U wx0 x1 wx2 ix2 x3 s0 hvx0 hvx2
set_option maxHeartbeats 4000000 in
set_option maxRecDepth 100000 in
theorem q_X5_makeStep (θ : gT) (Gs U : gK → Nat) (wx0 : Nat) (x1 : Int32) (hvx0 : gV θ 15 wx0 0) : gSim false θ Gs U (F_X5_makeStep (Gs (pk 15 wx0 0)) x1) (G_X5_makeStep θ wx0 x1) := by
  unfold F_X5_makeStep G_X5_makeStep
  refine gq_ck (k := 15) (w := wx0) (i := 0) hvx0 rfl (fun _ _ => ⟨_, rfl⟩) ?_
  refine gq_R (k := 15) (w := wx0) (i := 0) hvx0 rfl (fun _ _ => ⟨_, rfl, rfl⟩) ?_
  refine gq_lq (k := 16) (w := wx0) (i := 0) hvx0 rfl (fun _ _ => rfl) (Nat.le_refl _) (fun j hj => if_pos hj) (fun j1 hj1 => ?_)
  refine gq_I (k := 19) (w := wx0) (i := j1) (gv_dom hvx0 hj1) rfl (fun _ _ => ⟨_, rfl, rfl⟩) (fun v2 => ?_)
  refine gq_p (k := 19) (w := wx0) (i := j1) (gv_dom hvx0 hj1) rfl (fun _ _ => ⟨_, rfl, by simp, rfl⟩) ?_
  refine gq_call (q_X5_dueInstruction θ Gs U wx0 hvx0) (fun v3 => ?_)
  refine gq_I (k := 19) (w := wx0) (i := j1) (gv_dom hvx0 hj1) rfl (fun _ _ => ⟨_, rfl, rfl⟩) (fun v4 => ?_)
  refine gq_R (k := 15) (w := wx0) (i := 0) hvx0 rfl (fun _ _ => ⟨_, rfl, rfl⟩) ?_
  refine gq_R (k := 1) (w := 0) (i := 0) (gv_plan hvx0) rfl (fun _ _ => ⟨_, rfl, rfl⟩) ?_
  refine gq_lq (k := 5) (w := 0) (i := 0) (gv_k0 5 rfl (gv_plan hvx0)) rfl (fun _ _ => rfl) (Nat.le_refl _) (fun j hj => if_pos hj) (fun j5 hj5 => ?_)
  refine gq_I (k := 6) (w := 0) (i := j5) (gv_prog (gv_k0 5 rfl (gv_plan hvx0)) hj5) (gA_row gr_6) (fun _ _ => ⟨_, gC_row gr_6, rfl⟩) (fun v6 => ?_)
  refine gq_if (fun _ => ?_) (fun _ => ?_)
  · exact q_X5_makeStep_70 θ Gs U wx0 x1 wx0 j1 v3 (0 : Int32) hvx0 (gv_dom hvx0 hj1)
  · refine gq_call (q_X10_operation θ Gs U v3 ) (fun v7 => ?_)
    refine gq_call (q_X5_isAlone θ Gs U v7 ) (fun v8 => ?_)
    refine gq_if (fun _ => ?_) (fun _ => ?_)
    · refine gq_cal (q_X5_performShared θ Gs U wx0 x1 v3 hvx0) (fun v9 U => ?_)
      exact q_X5_makeStep_68 θ Gs U wx0 x1 wx0 j1 v3 v9 hvx0 (gv_dom hvx0 hj1)
    · refine gq_cal (q_X3_performAlone θ Gs U wx0 j1 v3 (gv_dom hvx0 hj1)) (fun v10 U => ?_)
      exact q_X5_makeStep_68 θ Gs U wx0 x1 wx0 j1 v3 v10 hvx0 (gv_dom hvx0 hj1)
set_option maxHeartbeats 4000000 in
set_option maxRecDepth 100000 in
theorem q_X5_passWithStep (θ : gT) (Gs U : gK → Nat) (wx0 : Nat) (hvx0 : gV θ 15 wx0 0) : gSim false θ Gs U (F_X5_passWithStep (Gs (pk 15 wx0 0))) (G_X5_passWithStep θ wx0) := by
  unfold F_X5_passWithStep G_X5_passWithStep
  refine gq_ck (k := 15) (w := wx0) (i := 0) hvx0 rfl (fun _ _ => ⟨_, rfl⟩) ?_
  refine gq_cal (q_X5_beginTick θ Gs U wx0 hvx0) (fun v1 U => ?_)
  refine gq_R (k := 15) (w := wx0) (i := 0) hvx0 rfl (fun _ _ => ⟨_, rfl, rfl⟩) ?_
  refine gq_call (q_X2_slotDomain θ Gs U wx0 hvx0) (fun v2 => ?_)
  refine gq_cal (q_X5_makeStep θ Gs U wx0 v2 hvx0) (fun v3 U => ?_)
  refine gq_call (q_X5_endTick θ Gs U wx0 hvx0) (fun v4 => ?_)
  exact gq_ret
set_option maxHeartbeats 4000000 in
set_option maxRecDepth 100000 in
theorem q_X5_passIdle (θ : gT) (Gs U : gK → Nat) (wx0 : Nat) (hvx0 : gV θ 15 wx0 0) : gSim false θ Gs U (F_X5_passIdle (Gs (pk 15 wx0 0))) (G_X5_passIdle θ wx0) := by
  unfold F_X5_passIdle G_X5_passIdle
  refine gq_ck (k := 15) (w := wx0) (i := 0) hvx0 rfl (fun _ _ => ⟨_, rfl⟩) ?_
  refine gq_cal (q_X5_beginTick θ Gs U wx0 hvx0) (fun v1 U => ?_)
  refine gq_call (q_X5_endTick θ Gs U wx0 hvx0) (fun v2 => ?_)
  exact gq_ret
set_option maxHeartbeats 4000000 in
set_option maxRecDepth 100000 in
theorem q_X5_passIdleUntil_8 (θ : gT) (Gs U0 : gK → Nat)    : ∀ (fu : Nat) (wx0 : Nat) (x1 : Int32) (x2 : Int32) (hvx0 : gV θ 15 wx0 0), gSim false θ Gs U0 (F_X5_passIdleUntil_8 fu (Gs (pk 15 wx0 0)) x1 x2) (G_X5_passIdleUntil_8 θ fu wx0 x1 x2) := by
  intro fu
  revert U0
  induction fu with
  | zero =>
    intro U wx0 x1 x2 hvx0
    unfold G_X5_passIdleUntil_8
    exact gq_no
  | succ fu ih =>
    intro U wx0 x1 x2 hvx0
    unfold F_X5_passIdleUntil_8 G_X5_passIdleUntil_8
    refine gq_if (fun _ => ?_) (fun _ => ?_)
    · exact gq_ret
    · refine gq_cal (q_X5_passIdle θ Gs U wx0 hvx0) (fun v1 U => ?_)
      exact ih U wx0 x1 (x2 + (1 : Int32)) hvx0
set_option maxHeartbeats 4000000 in
set_option maxRecDepth 100000 in
theorem q_X5_passIdleUntil (θ : gT) (Gs U : gK → Nat) (wx0 : Nat) (x1 : Int32) (hvx0 : gV θ 15 wx0 0) : gSim false θ Gs U (F_X5_passIdleUntil (Gs (pk 15 wx0 0)) x1) (G_X5_passIdleUntil θ wx0 x1) := by
  unfold F_X5_passIdleUntil G_X5_passIdleUntil
  refine gq_ck (k := 15) (w := wx0) (i := 0) hvx0 rfl (fun _ _ => ⟨_, rfl⟩) ?_
  refine gq_R (k := 15) (w := wx0) (i := 0) hvx0 rfl (fun _ _ => ⟨_, rfl, rfl⟩) ?_
  refine gq_I (k := 18) (w := wx0) (i := 0) hvx0 rfl (fun _ _ => ⟨_, rfl, rfl⟩) (fun v1 => ?_)
  exact q_X5_passIdleUntil_8 θ Gs U mo_fu wx0 x1 v1 hvx0
set_option maxHeartbeats 4000000 in
set_option maxRecDepth 100000 in
theorem q_X5_looksSameTo_76 (θ : gT) (Gs U : gK → Nat) (f22 : Nat → Int32 → Nat → Int32 → mo_M Int32) (k22 : Nat → Int32 → Nat → Int32 → gM Int32) (hk22 : ∀  (wx0 : Nat) (x1 : Int32) (wx2 : Nat) (x3 : Int32) (hvx0 : gV θ 15 wx0 0) (hvx2 : gV θ 15 wx2 0), gSim true θ Gs U (f22 (Gs (pk 15 wx0 0)) x1 (Gs (pk 15 wx2 0)) x3) (k22 wx0 x1 wx2 x3)) (wx0 : Nat) (x1 : Int32) (wx2 : Nat) (x3 : Int32) (hvx0 : gV θ 15 wx0 0) (hvx2 : gV θ 15 wx2 0) : gSim true θ Gs U (F_X5_looksSameTo_76 f22 (Gs (pk 15 wx0 0)) x1 (Gs (pk 15 wx2 0)) x3) (G_X5_looksSameTo_76 θ k22 wx0 x1 wx2 x3) := by
  unfold F_X5_looksSameTo_76 G_X5_looksSameTo_76
  exact hk22  wx0 x1 wx2 (x3 + (1 : Int32)) hvx0 hvx2
set_option maxHeartbeats 4000000 in
set_option maxRecDepth 100000 in
theorem q_X5_looksSameTo_22 (θ : gT) (Gs U : gK → Nat)    : ∀ (fu : Nat) (wx0 : Nat) (x1 : Int32) (wx2 : Nat) (x3 : Int32) (hvx0 : gV θ 15 wx0 0) (hvx2 : gV θ 15 wx2 0), gSim true θ Gs U (F_X5_looksSameTo_22 fu (Gs (pk 15 wx0 0)) x1 (Gs (pk 15 wx2 0)) x3) (G_X5_looksSameTo_22 θ fu wx0 x1 wx2 x3) := by
  intro fu
  induction fu with
  | zero =>
    intro wx0 x1 wx2 x3 hvx0 hvx2
    unfold G_X5_looksSameTo_22
    exact gq_no
  | succ fu ih =>
    intro wx0 x1 wx2 x3 hvx0 hvx2
    unfold F_X5_looksSameTo_22 G_X5_looksSameTo_22
    refine gq_R (k := 15) (w := wx0) (i := 0) hvx0 rfl (fun _ _ => ⟨_, rfl, rfl⟩) ?_
    refine gq_I (k := 1) (w := 0) (i := 0) (gv_plan hvx0) rfl (fun _ _ => ⟨_, rfl, rfl⟩) (fun v1 => ?_)
    refine gq_if (fun _ => ?_) (fun _ => ?_)
    · exact gq_rz
    · refine gq_R (k := 15) (w := wx0) (i := 0) hvx0 rfl (fun _ _ => ⟨_, rfl, rfl⟩) ?_
      refine gq_lq (k := 17) (w := wx0) (i := 0) hvx0 rfl (fun _ _ => rfl) hvx0.2.2 (fun j hj => if_pos hj) (fun j2 hj2 => ?_)
      refine gq_R (k := 26) (w := wx0) (i := j2) (gv_chan hvx0 hj2) rfl (fun _ _ => ⟨_, rfl, rfl⟩) ?_
      refine gq_I (k := 4) (w := 0) (i := j2) (gv_link (gv_chan hvx0 hj2)) rfl (fun _ _ => ⟨_, rfl, rfl⟩) (fun v3 => ?_)
      refine gq_if (fun _ => ?_) (fun _ => ?_)
      · refine gq_R (k := 15) (w := wx0) (i := 0) hvx0 rfl (fun _ _ => ⟨_, rfl, rfl⟩) ?_
        refine gq_lq (k := 17) (w := wx0) (i := 0) hvx0 rfl (fun _ _ => rfl) hvx0.2.2 (fun j hj => if_pos hj) (fun j4 hj4 => ?_)
        refine gq_R (k := 15) (w := wx2) (i := 0) hvx2 rfl (fun _ _ => ⟨_, rfl, rfl⟩) ?_
        refine gq_lq (k := 17) (w := wx2) (i := 0) hvx2 rfl (fun _ _ => rfl) hvx2.2.2 (fun j hj => if_pos hj) (fun j5 hj5 => ?_)
        refine gq_R (k := 15) (w := wx0) (i := 0) hvx0 rfl (fun _ _ => ⟨_, rfl, rfl⟩) ?_
        refine gq_I (k := 18) (w := wx0) (i := 0) hvx0 rfl (fun _ _ => ⟨_, rfl, rfl⟩) (fun v6 => ?_)
        refine gq_call (q_X1_looksSame θ Gs U wx0 j4 wx2 j5 v6 (gv_chan hvx0 hj4) (gv_chan hvx2 hj5)) (fun v7 => ?_)
        refine gq_if (fun _ => ?_) (fun _ => ?_)
        · exact gq_rz
        · exact q_X5_looksSameTo_76 θ Gs U (F_X5_looksSameTo_22  fu) (G_X5_looksSameTo_22 θ  fu) ih wx0 x1 wx2 x3 hvx0 hvx2
      · exact q_X5_looksSameTo_76 θ Gs U (F_X5_looksSameTo_22  fu) (G_X5_looksSameTo_22 θ  fu) ih wx0 x1 wx2 x3 hvx0 hvx2
set_option maxHeartbeats 4000000 in
set_option maxRecDepth 100000 in
theorem q_X5_looksSameTo (θ : gT) (Gs U : gK → Nat) (wx0 : Nat) (x1 : Int32) (wx2 : Nat) (hvx0 : gV θ 15 wx0 0) (hvx2 : gV θ 15 wx2 0) : gSim true θ Gs U (F_X5_looksSameTo (Gs (pk 15 wx0 0)) x1 (Gs (pk 15 wx2 0))) (G_X5_looksSameTo θ wx0 x1 wx2) := by
  unfold F_X5_looksSameTo G_X5_looksSameTo
  refine gq_ck (k := 15) (w := wx0) (i := 0) hvx0 rfl (fun _ _ => ⟨_, rfl⟩) ?_
  refine gq_R (k := 15) (w := wx0) (i := 0) hvx0 rfl (fun _ _ => ⟨_, rfl, rfl⟩) ?_
  refine gq_lq (k := 16) (w := wx0) (i := 0) hvx0 rfl (fun _ _ => rfl) (Nat.le_refl _) (fun j hj => if_pos hj) (fun j1 hj1 => ?_)
  refine gq_R (k := 15) (w := wx2) (i := 0) hvx2 rfl (fun _ _ => ⟨_, rfl, rfl⟩) ?_
  refine gq_lq (k := 16) (w := wx2) (i := 0) hvx2 rfl (fun _ _ => rfl) (Nat.le_refl _) (fun j hj => if_pos hj) (fun j2 hj2 => ?_)
  refine gq_call (q_X3_isSame θ Gs U wx0 j1 wx2 j2 (gv_dom hvx0 hj1) (gv_dom hvx2 hj2)) (fun v3 => ?_)
  refine gq_if (fun _ => ?_) (fun _ => ?_)
  · exact gq_rz
  · exact q_X5_looksSameTo_22 θ Gs U mo_fu wx0 x1 wx2 (0 : Int32) hvx0 hvx2
set_option maxHeartbeats 4000000 in
set_option maxRecDepth 100000 in
theorem q_X7_setFlow_34 (θ : gT) (Gs U : gK → Nat)    (s1 : Int32) (s2 : Int32) (hvs0 : gV θ 2 0 0) : gSim true θ Gs U (F_X7_setFlow_34 (Gs (pk 2 0 0)) s1 s2) (G_X7_setFlow_34 θ s1 s2) := by
  unfold F_X7_setFlow_34 G_X7_setFlow_34
  refine gq_sa (k := 2) (w := 0) (i := 0) hvs0 rfl (fun _ _ => rfl) ?_
  exact gq_ret
set_option maxHeartbeats 4000000 in
set_option maxRecDepth 100000 in
theorem q_X7_setFlow (θ : gT) (Gs U : gK → Nat) (x1 : Int32) (x2 : Int32) (x3 : Int32) (hvx0 : gV θ 1 0 0) : gSim true θ Gs U (F_X7_setFlow (Gs (pk 1 0 0)) x1 x2 x3) (G_X7_setFlow θ x1 x2 x3) := by
  unfold F_X7_setFlow G_X7_setFlow
  refine gq_ck (k := 1) (w := 0) (i := 0) hvx0 rfl (fun _ _ => ⟨_, rfl⟩) ?_
  refine gq_R (k := 1) (w := 0) (i := 0) hvx0 rfl (fun _ _ => ⟨_, rfl, rfl⟩) ?_
  refine gq_if (fun _ => ?_) (fun _ => ?_)
  · refine gq_R (k := 1) (w := 0) (i := 0) hvx0 rfl (fun _ _ => ⟨_, rfl, rfl⟩) ?_
    refine gq_la (k := 2) (w := 0) (i := 0) (gv_k0 2 rfl hvx0) rfl (fun _ _ => rfl) (fun v1 => ?_)
    exact q_X7_setFlow_34 θ Gs U x1 (v1 &&& (((1 : Int32) <<< (x2 &&& 31)) ^^^ (-1 : Int32))) (gv_k0 2 rfl hvx0)
  · refine gq_R (k := 1) (w := 0) (i := 0) hvx0 rfl (fun _ _ => ⟨_, rfl, rfl⟩) ?_
    refine gq_la (k := 2) (w := 0) (i := 0) (gv_k0 2 rfl hvx0) rfl (fun _ _ => rfl) (fun v2 => ?_)
    exact q_X7_setFlow_34 θ Gs U x1 (v2 ||| ((1 : Int32) <<< (x2 &&& 31))) (gv_k0 2 rfl hvx0)
set_option maxHeartbeats 4000000 in
set_option maxRecDepth 100000 in
theorem q_X7_hasLink_38 (θ : gT) (Gs U : gK → Nat) (f2 : Nat → Int32 → Int32 → Int32 → mo_M Int32) (k2 : Int32 → Int32 → Int32 → gM Int32) (hk2 : ∀  (x1 : Int32) (x2 : Int32) (x3 : Int32) (hvx0 : gV θ 1 0 0), gSim true θ Gs U (f2 (Gs (pk 1 0 0)) x1 x2 x3) (k2 x1 x2 x3)) (x1 : Int32) (x2 : Int32) (x3 : Int32) (hvx0 : gV θ 1 0 0) : gSim true θ Gs U (F_X7_hasLink_38 f2 (Gs (pk 1 0 0)) x1 x2 x3) (G_X7_hasLink_38 θ k2 x1 x2 x3) := by
  unfold F_X7_hasLink_38 G_X7_hasLink_38
  exact hk2  x1 x2 (x3 + (1 : Int32)) hvx0
set_option maxHeartbeats 4000000 in
set_option maxRecDepth 100000 in
theorem q_X7_hasLink_2 (θ : gT) (Gs U : gK → Nat)    : ∀ (fu : Nat) (x1 : Int32) (x2 : Int32) (x3 : Int32) (hvx0 : gV θ 1 0 0), gSim true θ Gs U (F_X7_hasLink_2 fu (Gs (pk 1 0 0)) x1 x2 x3) (G_X7_hasLink_2 θ fu x1 x2 x3) := by
  intro fu
  induction fu with
  | zero =>
    intro x1 x2 x3 hvx0
    unfold G_X7_hasLink_2
    exact gq_no
  | succ fu ih =>
    intro x1 x2 x3 hvx0
    unfold F_X7_hasLink_2 G_X7_hasLink_2
    refine gq_I (k := 1) (w := 0) (i := 0) hvx0 rfl (fun _ _ => ⟨_, rfl, rfl⟩) (fun v1 => ?_)
    refine gq_if (fun _ => ?_) (fun _ => ?_)
    · exact gq_rz
    · refine gq_R (k := 1) (w := 0) (i := 0) hvx0 rfl (fun _ _ => ⟨_, rfl, rfl⟩) ?_
      refine gq_lq (k := 3) (w := 0) (i := 0) (gv_k0 3 rfl hvx0) rfl (fun _ _ => rfl) (gv_k0 3 rfl hvx0).2.2 (fun j hj => if_pos hj) (fun j2 hj2 => ?_)
      refine gq_I (k := 4) (w := 0) (i := j2) (gv_lnk (gv_k0 3 rfl hvx0) hj2) rfl (fun _ _ => ⟨_, rfl, rfl⟩) (fun v3 => ?_)
      refine gq_if (fun _ => ?_) (fun _ => ?_)
      · refine gq_R (k := 1) (w := 0) (i := 0) hvx0 rfl (fun _ _ => ⟨_, rfl, rfl⟩) ?_
        refine gq_lq (k := 3) (w := 0) (i := 0) (gv_k0 3 rfl hvx0) rfl (fun _ _ => rfl) (gv_k0 3 rfl hvx0).2.2 (fun j hj => if_pos hj) (fun j4 hj4 => ?_)
        refine gq_I (k := 4) (w := 0) (i := j4) (gv_lnk (gv_k0 3 rfl hvx0) hj4) rfl (fun _ _ => ⟨_, rfl, rfl⟩) (fun v5 => ?_)
        refine gq_if (fun _ => ?_) (fun _ => ?_)
        · exact gq_rz
        · exact q_X7_hasLink_38 θ Gs U (F_X7_hasLink_2  fu) (G_X7_hasLink_2 θ  fu) ih x1 x2 x3 hvx0
      · exact q_X7_hasLink_38 θ Gs U (F_X7_hasLink_2  fu) (G_X7_hasLink_2 θ  fu) ih x1 x2 x3 hvx0
set_option maxHeartbeats 4000000 in
set_option maxRecDepth 100000 in
theorem q_X7_hasLink (θ : gT) (Gs U : gK → Nat) (x1 : Int32) (x2 : Int32) (hvx0 : gV θ 1 0 0) : gSim true θ Gs U (F_X7_hasLink (Gs (pk 1 0 0)) x1 x2) (G_X7_hasLink θ x1 x2) := by
  unfold F_X7_hasLink G_X7_hasLink
  refine gq_ck (k := 1) (w := 0) (i := 0) hvx0 rfl (fun _ _ => ⟨_, rfl⟩) ?_
  exact q_X7_hasLink_2 θ Gs U mo_fu x1 x2 (0 : Int32) hvx0
set_option maxHeartbeats 4000000 in
set_option maxRecDepth 100000 in
theorem q_X8_choose_127 (θ : gT) (Gs U : gK → Nat) (f57 : Nat → Nat → Int32 → Int32 → mo_M Unit) (k57 : Nat → Int32 → Int32 → gM Unit) (hk57 : ∀  (wx0 : Nat) (x3 : Int32) (x4 : Int32) (hvx0 : gV θ 35 wx0 0) (hvx1 : gV θ 32 0 0), gSim true θ Gs U (f57 (Gs (pk 35 wx0 0)) (Gs (pk 32 0 0)) x3 x4) (k57 wx0 x3 x4)) (wx0 : Nat) (x3 : Int32) (x4 : Int32) (hvx0 : gV θ 35 wx0 0) (hvx1 : gV θ 32 0 0) : gSim true θ Gs U (F_X8_choose_127 f57 (Gs (pk 35 wx0 0)) (Gs (pk 32 0 0)) x3 x4) (G_X8_choose_127 θ k57 wx0 x3 x4) := by
  unfold F_X8_choose_127 G_X8_choose_127
  exact hk57  wx0 x3 (x4 + (-1 : Int32)) hvx0 hvx1
set_option maxHeartbeats 4000000 in
set_option maxRecDepth 100000 in
theorem q_X8_choose_99 (θ : gT) (Gs U : gK → Nat) (f57 : Nat → Nat → Int32 → Int32 → mo_M Unit) (k57 : Nat → Int32 → Int32 → gM Unit) (hk57 : ∀  (wx0 : Nat) (x3 : Int32) (x4 : Int32) (hvx0 : gV θ 35 wx0 0) (hvx1 : gV θ 32 0 0), gSim true θ Gs U (f57 (Gs (pk 35 wx0 0)) (Gs (pk 32 0 0)) x3 x4) (k57 wx0 x3 x4)) (wx0 : Nat) (x3 : Int32) (x4 : Int32) (x5 : Int32) (ws0 : Nat) (s1 : Int32) (s2 : Int32) (hvx0 : gV θ 35 wx0 0) (hvx1 : gV θ 32 0 0) (hvs0 : gV θ 36 ws0 0) : gSim true θ Gs U (F_X8_choose_99 f57 (Gs (pk 35 wx0 0)) (Gs (pk 32 0 0)) x3 x4 x5 (U (pk 36 ws0 0)) s1 s2) (G_X8_choose_99 θ k57 wx0 x3 x4 x5 ws0 s1 s2) := by
  unfold F_X8_choose_99 G_X8_choose_99
  refine gq_sz (k := 36) (w := ws0) (i := 0) hvs0 rfl (fun _ _ => rfl) ?_
  refine gq_R (k := 35) (w := wx0) (i := 0) hvx0 rfl (fun _ _ => ⟨_, rfl, rfl⟩) ?_
  refine gq_la (k := 36) (w := wx0) (i := 0) hvx0 rfl (fun _ _ => rfl) (fun v1 => ?_)
  refine gq_if (fun _ => ?_) (fun _ => ?_)
  · exact q_X8_choose_127 θ Gs U f57 k57 hk57 wx0 x3 x4 hvx0 hvx1
  · refine gq_I (k := 35) (w := wx0) (i := 0) hvx0 rfl (fun _ _ => ⟨_, rfl, rfl⟩) (fun v2 => ?_)
    refine gq_p (k := 35) (w := wx0) (i := 0) hvx0 rfl (fun _ _ => ⟨_, rfl, by simp, rfl⟩) ?_
    exact q_X8_choose_127 θ Gs U f57 k57 hk57 wx0 (x3 ||| ((1 : Int32) <<< (x5 &&& 31))) x4 hvx0 hvx1
set_option maxHeartbeats 4000000 in
set_option maxRecDepth 100000 in
theorem q_X8_choose_57 (θ : gT) (Gs U : gK → Nat)    : ∀ (fu : Nat) (wx0 : Nat) (x3 : Int32) (x4 : Int32) (hvx0 : gV θ 35 wx0 0) (hvx1 : gV θ 32 0 0), gSim true θ Gs U (F_X8_choose_57 fu (Gs (pk 35 wx0 0)) (Gs (pk 32 0 0)) x3 x4) (G_X8_choose_57 θ fu wx0 x3 x4) := by
  intro fu
  induction fu with
  | zero =>
    intro wx0 x3 x4 hvx0 hvx1
    unfold G_X8_choose_57
    exact gq_no
  | succ fu ih =>
    intro wx0 x3 x4 hvx0 hvx1
    unfold F_X8_choose_57 G_X8_choose_57
    refine gq_if (fun _ => ?_) (fun _ => ?_)
    · exact gq_ret
    · refine gq_R (k := 32) (w := 0) (i := 0) hvx1 rfl (fun _ _ => ⟨_, rfl, rfl⟩) ?_
      refine gq_call (q_X9_get θ Gs U 33 0 0 x4 (gv_ar hvx1 (by decide)) gr_33) (fun v1 => ?_)
      refine gq_R (k := 35) (w := wx0) (i := 0) hvx0 rfl (fun _ _ => ⟨_, rfl, rfl⟩) ?_
      refine gq_R (k := 35) (w := wx0) (i := 0) hvx0 rfl (fun _ _ => ⟨_, rfl, rfl⟩) ?_
      refine gq_R (k := 1) (w := 0) (i := 0) (gv_plan hvx0) rfl (fun _ _ => ⟨_, rfl, rfl⟩) ?_
      refine gq_la (k := 2) (w := 0) (i := 0) (gv_k0 2 rfl (gv_plan hvx0)) rfl (fun _ _ => rfl) (fun v2 => ?_)
      refine gq_if (fun _ => ?_) (fun _ => ?_)
      · exact q_X8_choose_99 θ Gs U (F_X8_choose_57  fu) (G_X8_choose_57 θ  fu) ih wx0 x3 x4 v1 wx0 x4 (0 : Int32) hvx0 hvx1 hvx0
      · exact q_X8_choose_99 θ Gs U (F_X8_choose_57  fu) (G_X8_choose_57 θ  fu) ih wx0 x3 x4 v1 wx0 x4 (1 : Int32) hvx0 hvx1 hvx0
set_option maxHeartbeats 4000000 in
set_option maxRecDepth 100000 in
theorem q_X8_choose_40 (θ : gT) (Gs U : gK → Nat)    (wx0 : Nat) (x2 : Int32) (hvx0 : gV θ 35 wx0 0) (hvx1 : gV θ 32 0 0) : gSim true θ Gs U (F_X8_choose_40 (Gs (pk 35 wx0 0)) (Gs (pk 32 0 0)) x2) (G_X8_choose_40 θ wx0 x2) := by
  unfold F_X8_choose_40 G_X8_choose_40
  refine gq_p (k := 35) (w := wx0) (i := 0) hvx0 rfl (fun _ _ => ⟨_, rfl, by simp, rfl⟩) ?_
  refine gq_I (k := 35) (w := wx0) (i := 0) hvx0 rfl (fun _ _ => ⟨_, rfl, rfl⟩) (fun v1 => ?_)
  exact q_X8_choose_57 θ Gs U mo_fu wx0 ((1 : Int32) <<< (x2 &&& 31)) (v1 - (1 : Int32)) hvx0 hvx1
theorem gq_toF {θ : gT} {Gs U : gK → Nat} {α : Type} {f : mo_M α} {g : gM α} (h : gSim true θ Gs U f g) : gSim false θ Gs U f g := fun x s H r s' e => by
  obtain ⟨h', U', e1, e2, -⟩ := h x s H r s' e
  exact ⟨h', U', e1, e2, fun q => by cases q⟩
theorem q_X8_choose (θ : gT) (Gs U : gK → Nat) (wx0 : Nat) (x2 : Int32) (hvx0 : gV θ 35 wx0 0) (hvx1 : gV θ 32 0 0) : gSim false θ Gs U (F_X8_choose (Gs (pk 35 wx0 0)) (Gs (pk 32 0 0)) x2) (G_X8_choose θ wx0 x2) := by
  unfold F_X8_choose G_X8_choose
  refine gq_ck (k := 35) (w := wx0) (i := 0) hvx0 rfl (fun _ _ => ⟨_, rfl⟩) ?_
  refine gq_call (q_X0_count θ Gs U hvx1) (fun v14 => ?_)
  refine gq_p (k := 35) (w := wx0) (i := 0) hvx0 rfl (fun _ _ => ⟨_, rfl, by simp, rfl⟩) ?_
  refine gq_R (k := 35) (w := wx0) (i := 0) hvx0 rfl (fun _ _ => ⟨_, rfl, rfl⟩) ?_
  refine gq_ln (k := 36) (w := wx0) (i := 0) hvx0 rfl (fun _ _ => rfl) (by decide) (fun v16 => ?_)
  refine gq_I (k := 35) (w := wx0) (i := 0) hvx0 rfl (fun _ _ => ⟨_, rfl, rfl⟩) (fun v17 => ?_)
  refine gq_if (fun _ => ?_) (fun _ => ?_)
  · exact gq_toF (q_X8_choose_40 θ Gs U wx0 x2 hvx0 hvx1)
  · refine gq_I (k := 35) (w := wx0) (i := 0) hvx0 rfl (fun _ _ => ⟨_, rfl, rfl⟩) (fun v19 => ?_)
    refine gq_R (k := 35) (w := wx0) (i := 0) hvx0 rfl (fun _ _ => ⟨_, rfl, rfl⟩) ?_
    refine gq_ln (k := 36) (w := wx0) (i := 0) hvx0 rfl (fun _ _ => rfl) (by decide) (fun v21 => ?_)
    exact gq_grz hvx0 (fun U => gq_toF (q_X8_choose_40 θ Gs U wx0 x2 hvx0 hvx1))
set_option maxHeartbeats 4000000 in
set_option maxRecDepth 100000 in
theorem q_X8_redo_96 (θ : gT) (Gs U : gK → Nat) (f9 : Nat → Nat → Int32 → Int32 → mo_M Unit) (k9 : Nat → Int32 → Int32 → gM Unit) (hk9 : ∀ (U : gK → Nat) (wx0 : Nat) (x2 : Int32) (x3 : Int32) (hvx0 : gV θ 35 wx0 0) (hvx1 : gV θ 32 0 0), gSim false θ Gs U (f9 (Gs (pk 35 wx0 0)) (Gs (pk 32 0 0)) x2 x3) (k9 wx0 x2 x3)) (wx0 : Nat) (x2 : Int32) (x3 : Int32) (hvx0 : gV θ 35 wx0 0) (hvx1 : gV θ 32 0 0) : gSim false θ Gs U (F_X8_redo_96 f9 (Gs (pk 35 wx0 0)) (Gs (pk 32 0 0)) x2 x3) (G_X8_redo_96 θ k9 wx0 x2 x3) := by
  unfold F_X8_redo_96 G_X8_redo_96
  exact hk9 U wx0 x2 (x3 + (1 : Int32)) hvx0 hvx1
set_option maxHeartbeats 4000000 in
set_option maxRecDepth 100000 in
theorem q_X8_redo_102 (θ : gT) (Gs U : gK → Nat)    (wx0 : Nat) (x2 : Int32) (hvx0 : gV θ 35 wx0 0) : gSim false θ Gs U (F_X8_redo_102 (Gs (pk 35 wx0 0)) x2) (G_X8_redo_102 θ wx0 x2) := by
  unfold F_X8_redo_102 G_X8_redo_102
  refine gq_R (k := 35) (w := wx0) (i := 0) hvx0 rfl (fun _ _ => ⟨_, rfl, rfl⟩) ?_
  refine gq_cal (q_X5_passIdleUntil θ Gs U wx0 x2 (gv_pm hvx0)) (fun v1 U => ?_)
  exact gq_ret
set_option maxHeartbeats 4000000 in
set_option maxRecDepth 100000 in
theorem q_X8_redo_9 (θ : gT) (Gs U0 : gK → Nat)    : ∀ (fu : Nat) (wx0 : Nat) (x2 : Int32) (x3 : Int32) (hvx0 : gV θ 35 wx0 0) (hvx1 : gV θ 32 0 0), gSim false θ Gs U0 (F_X8_redo_9 fu (Gs (pk 35 wx0 0)) (Gs (pk 32 0 0)) x2 x3) (G_X8_redo_9 θ fu wx0 x2 x3) := by
  intro fu
  revert U0
  induction fu with
  | zero =>
    intro U wx0 x2 x3 hvx0 hvx1
    unfold G_X8_redo_9
    exact gq_no
  | succ fu ih =>
    intro U wx0 x2 x3 hvx0 hvx1
    unfold F_X8_redo_9 G_X8_redo_9
    refine gq_I (k := 35) (w := wx0) (i := 0) hvx0 rfl (fun _ _ => ⟨_, rfl, rfl⟩) (fun v1 => ?_)
    refine gq_if (fun _ => ?_) (fun _ => ?_)
    · exact q_X8_redo_102 θ Gs U wx0 x2 hvx0
    · refine gq_R (k := 35) (w := wx0) (i := 0) hvx0 rfl (fun _ _ => ⟨_, rfl, rfl⟩) ?_
      refine gq_la (k := 36) (w := wx0) (i := 0) hvx0 rfl (fun _ _ => rfl) (fun v2 => ?_)
      refine gq_if (fun _ => ?_) (fun _ => ?_)
      · exact q_X8_redo_96 θ Gs U (F_X8_redo_9  fu) (G_X8_redo_9 θ  fu) ih wx0 x2 x3 hvx0 hvx1
      · refine gq_R (k := 35) (w := wx0) (i := 0) hvx0 rfl (fun _ _ => ⟨_, rfl, rfl⟩) ?_
        refine gq_R (k := 32) (w := 0) (i := 0) hvx1 rfl (fun _ _ => ⟨_, rfl, rfl⟩) ?_
        refine gq_call (q_X9_get θ Gs U 33 0 2 x3 (gv_ar hvx1 (by decide)) gr_33) (fun v3 => ?_)
        refine gq_cal (q_X5_passIdleUntil θ Gs U wx0 v3 (gv_pm hvx0)) (fun v4 U => ?_)
        refine gq_R (k := 32) (w := 0) (i := 0) hvx1 rfl (fun _ _ => ⟨_, rfl, rfl⟩) ?_
        refine gq_call (q_X9_get θ Gs U 33 0 1 x3 (gv_ar hvx1 (by decide)) gr_33) (fun v5 => ?_)
        refine gq_if (fun _ => ?_) (fun _ => ?_)
        · refine gq_R (k := 35) (w := wx0) (i := 0) hvx0 rfl (fun _ _ => ⟨_, rfl, rfl⟩) ?_
          refine gq_R (k := 15) (w := wx0) (i := 0) (gv_pm hvx0) rfl (fun _ _ => ⟨_, rfl, rfl⟩) ?_
          refine gq_R (k := 32) (w := 0) (i := 0) hvx1 rfl (fun _ _ => ⟨_, rfl, rfl⟩) ?_
          refine gq_call (q_X9_get θ Gs U 33 0 0 x3 (gv_ar hvx1 (by decide)) gr_33) (fun v7 => ?_)
          refine gq_lq (k := 16) (w := wx0) (i := 0) (gv_pm hvx0) rfl (fun _ _ => rfl) (Nat.le_refl _) (fun j hj => if_pos hj) (fun j8 hj8 => ?_)
          refine gq_R (k := 19) (w := wx0) (i := j8) (gv_dom (gv_pm hvx0) hj8) rfl (fun _ _ => ⟨_, rfl, rfl⟩) ?_
          refine gq_R (k := 32) (w := 0) (i := 0) hvx1 rfl (fun _ _ => ⟨_, rfl, rfl⟩) ?_
          refine gq_call (q_X9_get θ Gs U 33 0 3 x3 (gv_ar hvx1 (by decide)) gr_33) (fun v9 => ?_)
          refine gq_cal (q_X9_add θ Gs U 22 wx0 j8 v9 (gv_dom (gv_pm hvx0) hj8) gr_22) (fun v10 U => ?_)
          exact q_X8_redo_96 θ Gs U (F_X8_redo_9  fu) (G_X8_redo_9 θ  fu) ih wx0 x2 x3 hvx0 hvx1
        · refine gq_R (k := 35) (w := wx0) (i := 0) hvx0 rfl (fun _ _ => ⟨_, rfl, rfl⟩) ?_
          refine gq_cal (q_X5_passWithStep θ Gs U wx0 (gv_pm hvx0)) (fun v6 U => ?_)
          exact q_X8_redo_96 θ Gs U (F_X8_redo_9  fu) (G_X8_redo_9 θ  fu) ih wx0 x2 x3 hvx0 hvx1
set_option maxHeartbeats 4000000 in
set_option maxRecDepth 100000 in
theorem q_X8_redo (θ : gT) (Gs U : gK → Nat) (wx0 : Nat) (x2 : Int32) (hvx0 : gV θ 35 wx0 0) (hvx1 : gV θ 32 0 0) : gSim false θ Gs U (F_X8_redo (Gs (pk 35 wx0 0)) (Gs (pk 32 0 0)) x2) (G_X8_redo θ wx0 x2) := by
  unfold F_X8_redo G_X8_redo
  refine gq_ck (k := 35) (w := wx0) (i := 0) hvx0 rfl (fun _ _ => ⟨_, rfl⟩) ?_
  refine gq_R (k := 35) (w := wx0) (i := 0) hvx0 rfl (fun _ _ => ⟨_, rfl, rfl⟩) ?_
  refine gq_call (q_X5_reset θ Gs U wx0 (gv_pm hvx0)) (fun v1 => ?_)
  exact q_X8_redo_9 θ Gs U mo_fu wx0 x2 (0 : Int32) hvx0 hvx1
set_option maxHeartbeats 4000000 in
set_option maxRecDepth 100000 in
theorem q_X10_flow_57 (θ : gT) (Gs U : gK → Nat)    (x1 : Int32) (x2 : Int32) (x3 : Int32) (hvx0 : gV θ 0 0 0) : gSim true θ Gs U (F_X10_flow_57 (Gs (pk 0 0 0)) x1 x2 x3) (G_X10_flow_57 θ x1 x2 x3) := by
  unfold F_X10_flow_57 G_X10_flow_57
  refine gq_R (k := 0) (w := 0) (i := 0) hvx0 rfl (fun _ _ => ⟨_, rfl, rfl⟩) ?_
  refine gq_call (q_X7_setFlow θ Gs U x1 x2 x3 (gv_plan hvx0)) (fun v1 => ?_)
  exact gq_rz
set_option maxHeartbeats 4000000 in
set_option maxRecDepth 100000 in
theorem q_X10_flow (θ : gT) (Gs U : gK → Nat) (x1 : Int32) (x2 : Int32) (x3 : Int32) (hvx0 : gV θ 0 0 0) : gSim true θ Gs U (F_X10_flow (Gs (pk 0 0 0)) x1 x2 x3) (G_X10_flow θ x1 x2 x3) := by
  unfold F_X10_flow G_X10_flow
  refine gq_ck (k := 0) (w := 0) (i := 0) hvx0 rfl (fun _ _ => ⟨_, rfl⟩) ?_
  refine gq_R (k := 0) (w := 0) (i := 0) hvx0 rfl (fun _ _ => ⟨_, rfl, rfl⟩) ?_
  refine gq_I (k := 1) (w := 0) (i := 0) (gv_plan hvx0) rfl (fun _ _ => ⟨_, rfl, rfl⟩) (fun v1 => ?_)
  refine gq_if (fun _ => ?_) (fun _ => ?_)
  · refine gq_R (k := 0) (w := 0) (i := 0) hvx0 rfl (fun _ _ => ⟨_, rfl, rfl⟩) ?_
    refine gq_call (q_X7_hasDomain θ Gs U x1 (gv_plan hvx0)) (fun v2 => ?_)
    refine gq_if (fun _ => ?_) (fun _ => ?_)
    · exact gq_rz
    · refine gq_R (k := 0) (w := 0) (i := 0) hvx0 rfl (fun _ _ => ⟨_, rfl, rfl⟩) ?_
      refine gq_call (q_X7_hasDomain θ Gs U x2 (gv_plan hvx0)) (fun v3 => ?_)
      refine gq_if (fun _ => ?_) (fun _ => ?_)
      · exact gq_rz
      · refine gq_if (fun _ => ?_) (fun _ => ?_)
        · exact gq_rz
        · refine gq_if (fun _ => ?_) (fun _ => ?_)
          · refine gq_R (k := 0) (w := 0) (i := 0) hvx0 rfl (fun _ _ => ⟨_, rfl, rfl⟩) ?_
            refine gq_call (q_X7_hasLink θ Gs U x1 x2 (gv_plan hvx0)) (fun v4 => ?_)
            refine gq_if (fun _ => ?_) (fun _ => ?_)
            · exact q_X10_flow_57 θ Gs U x1 x2 x3 hvx0
            · exact gq_rz
          · exact q_X10_flow_57 θ Gs U x1 x2 x3 hvx0
  · exact gq_rz
set_option maxHeartbeats 4000000 in
set_option maxRecDepth 100000 in
theorem q_X10_code (θ : gT) (Gs U : gK → Nat) (x1 : Int32) (x2 : Int32) (hvx0 : gV θ 0 0 0) : gSim false θ Gs U (F_X10_code (Gs (pk 0 0 0)) x1 x2) (G_X10_code θ x1 x2) := by
  unfold F_X10_code G_X10_code
  refine gq_ck (k := 0) (w := 0) (i := 0) hvx0 rfl (fun _ _ => ⟨_, rfl⟩) ?_
  refine gq_R (k := 0) (w := 0) (i := 0) hvx0 rfl (fun _ _ => ⟨_, rfl, rfl⟩) ?_
  refine gq_I (k := 1) (w := 0) (i := 0) (gv_plan hvx0) rfl (fun _ _ => ⟨_, rfl, rfl⟩) (fun v1 => ?_)
  refine gq_if (fun _ => ?_) (fun _ => ?_)
  · refine gq_R (k := 0) (w := 0) (i := 0) hvx0 rfl (fun _ _ => ⟨_, rfl, rfl⟩) ?_
    refine gq_call (q_X7_hasDomain θ Gs U x1 (gv_plan hvx0)) (fun v2 => ?_)
    refine gq_if (fun _ => ?_) (fun _ => ?_)
    · exact gq_ret
    · refine gq_R (k := 0) (w := 0) (i := 0) hvx0 rfl (fun _ _ => ⟨_, rfl, rfl⟩) ?_
      refine gq_R (k := 1) (w := 0) (i := 0) (gv_plan hvx0) rfl (fun _ _ => ⟨_, rfl, rfl⟩) ?_
      refine gq_lq (k := 5) (w := 0) (i := 0) (gv_k0 5 rfl (gv_plan hvx0)) rfl (fun _ _ => rfl) (Nat.le_refl _) (fun j hj => if_pos hj) (fun j3 hj3 => ?_)
      refine gq_I (k := 6) (w := 0) (i := j3) (gv_prog (gv_k0 5 rfl (gv_plan hvx0)) hj3) (gA_row gr_6) (fun _ _ => ⟨_, gC_row gr_6, rfl⟩) (fun v4 => ?_)
      refine gq_if (fun _ => ?_) (fun _ => ?_)
      · exact gq_ret
      · refine gq_R (k := 0) (w := 0) (i := 0) hvx0 rfl (fun _ _ => ⟨_, rfl, rfl⟩) ?_
        refine gq_R (k := 1) (w := 0) (i := 0) (gv_plan hvx0) rfl (fun _ _ => ⟨_, rfl, rfl⟩) ?_
        refine gq_lq (k := 5) (w := 0) (i := 0) (gv_k0 5 rfl (gv_plan hvx0)) rfl (fun _ _ => rfl) (Nat.le_refl _) (fun j hj => if_pos hj) (fun j5 hj5 => ?_)
        refine gq_cal (q_X9_add θ Gs U 6 0 j5 x2 (gv_prog (gv_k0 5 rfl (gv_plan hvx0)) hj5) gr_6) (fun v6 U => ?_)
        refine gq_R (k := 0) (w := 0) (i := 0) hvx0 rfl (fun _ _ => ⟨_, rfl, rfl⟩) ?_
        refine gq_R (k := 1) (w := 0) (i := 0) (gv_plan hvx0) rfl (fun _ _ => ⟨_, rfl, rfl⟩) ?_
        refine gq_lq (k := 5) (w := 0) (i := 0) (gv_k0 5 rfl (gv_plan hvx0)) rfl (fun _ _ => rfl) (Nat.le_refl _) (fun j hj => if_pos hj) (fun j7 hj7 => ?_)
        refine gq_I (k := 6) (w := 0) (i := j7) (gv_prog (gv_k0 5 rfl (gv_plan hvx0)) hj7) (gA_row gr_6) (fun _ _ => ⟨_, gC_row gr_6, rfl⟩) (fun v8 => ?_)
        exact gq_ret
  · exact gq_ret
set_option maxHeartbeats 4000000 in
set_option maxRecDepth 100000 in
theorem q_X10_onFail (θ : gT) (Gs U : gK → Nat) (x1 : Int32) (x2 : Int32) (hvx0 : gV θ 0 0 0) : gSim true θ Gs U (F_X10_onFail (Gs (pk 0 0 0)) x1 x2) (G_X10_onFail θ x1 x2) := by
  unfold F_X10_onFail G_X10_onFail
  refine gq_ck (k := 0) (w := 0) (i := 0) hvx0 rfl (fun _ _ => ⟨_, rfl⟩) ?_
  refine gq_R (k := 0) (w := 0) (i := 0) hvx0 rfl (fun _ _ => ⟨_, rfl, rfl⟩) ?_
  refine gq_I (k := 1) (w := 0) (i := 0) (gv_plan hvx0) rfl (fun _ _ => ⟨_, rfl, rfl⟩) (fun v1 => ?_)
  refine gq_if (fun _ => ?_) (fun _ => ?_)
  · refine gq_R (k := 0) (w := 0) (i := 0) hvx0 rfl (fun _ _ => ⟨_, rfl, rfl⟩) ?_
    refine gq_call (q_X7_hasDomain θ Gs U x1 (gv_plan hvx0)) (fun v2 => ?_)
    refine gq_if (fun _ => ?_) (fun _ => ?_)
    · exact gq_rz
    · refine gq_if (fun _ => ?_) (fun _ => ?_)
      · exact gq_rz
      · refine gq_if (fun _ => ?_) (fun _ => ?_)
        · refine gq_R (k := 0) (w := 0) (i := 0) hvx0 rfl (fun _ _ => ⟨_, rfl, rfl⟩) ?_
          refine gq_R (k := 1) (w := 0) (i := 0) (gv_plan hvx0) rfl (fun _ _ => ⟨_, rfl, rfl⟩) ?_
          refine gq_sa (k := 8) (w := 0) (i := 0) (gv_k0 8 rfl (gv_plan hvx0)) rfl (fun _ _ => rfl) ?_
          exact gq_rz
        · exact gq_rz
  · exact gq_rz
set_option maxHeartbeats 4000000 in
set_option maxRecDepth 100000 in
theorem q_X10_slot (θ : gT) (Gs U : gK → Nat) (x1 : Int32) (x2 : Int32) (x3 : Int32) (hvx0 : gV θ 0 0 0) : gSim false θ Gs U (F_X10_slot (Gs (pk 0 0 0)) x1 x2 x3) (G_X10_slot θ x1 x2 x3) := by
  unfold F_X10_slot G_X10_slot
  refine gq_ck (k := 0) (w := 0) (i := 0) hvx0 rfl (fun _ _ => ⟨_, rfl⟩) ?_
  refine gq_R (k := 0) (w := 0) (i := 0) hvx0 rfl (fun _ _ => ⟨_, rfl, rfl⟩) ?_
  refine gq_I (k := 1) (w := 0) (i := 0) (gv_plan hvx0) rfl (fun _ _ => ⟨_, rfl, rfl⟩) (fun v1 => ?_)
  refine gq_if (fun _ => ?_) (fun _ => ?_)
  · refine gq_call (q_X10_isSchedule θ Gs U x1 ) (fun v2 => ?_)
    refine gq_if (fun _ => ?_) (fun _ => ?_)
    · exact gq_ret
    · refine gq_R (k := 0) (w := 0) (i := 0) hvx0 rfl (fun _ _ => ⟨_, rfl, rfl⟩) ?_
      refine gq_call (q_X7_hasDomain θ Gs U x2 (gv_plan hvx0)) (fun v3 => ?_)
      refine gq_if (fun _ => ?_) (fun _ => ?_)
      · exact gq_ret
      · refine gq_if (fun _ => ?_) (fun _ => ?_)
        · exact gq_ret
        · refine gq_if (fun _ => ?_) (fun _ => ?_)
          · exact gq_ret
          · refine gq_R (k := 0) (w := 0) (i := 0) hvx0 rfl (fun _ _ => ⟨_, rfl, rfl⟩) ?_
            refine gq_R (k := 1) (w := 0) (i := 0) (gv_plan hvx0) rfl (fun _ _ => ⟨_, rfl, rfl⟩) ?_
            refine gq_lq (k := 12) (w := 0) (i := 0) (gv_k0 12 rfl (gv_plan hvx0)) rfl (fun _ _ => rfl) (Nat.le_refl _) (fun j hj => if_pos hj) (fun j4 hj4 => ?_)
            refine gq_I (k := 13) (w := 0) (i := j4) (gv_st (gv_k0 12 rfl (gv_plan hvx0)) hj4) (gA_row gr_13) (fun _ _ => ⟨_, gC_row gr_13, rfl⟩) (fun v5 => ?_)
            refine gq_if (fun _ => ?_) (fun _ => ?_)
            · exact gq_ret
            · refine gq_R (k := 0) (w := 0) (i := 0) hvx0 rfl (fun _ _ => ⟨_, rfl, rfl⟩) ?_
              refine gq_R (k := 1) (w := 0) (i := 0) (gv_plan hvx0) rfl (fun _ _ => ⟨_, rfl, rfl⟩) ?_
              refine gq_lq (k := 9) (w := 0) (i := 0) (gv_k0 9 rfl (gv_plan hvx0)) rfl (fun _ _ => rfl) (Nat.le_refl _) (fun j hj => if_pos hj) (fun j6 hj6 => ?_)
              refine gq_cal (q_X9_add θ Gs U 10 0 j6 x2 (gv_sd (gv_k0 9 rfl (gv_plan hvx0)) hj6) gr_10) (fun v7 U => ?_)
              refine gq_R (k := 0) (w := 0) (i := 0) hvx0 rfl (fun _ _ => ⟨_, rfl, rfl⟩) ?_
              refine gq_R (k := 1) (w := 0) (i := 0) (gv_plan hvx0) rfl (fun _ _ => ⟨_, rfl, rfl⟩) ?_
              refine gq_lq (k := 12) (w := 0) (i := 0) (gv_k0 12 rfl (gv_plan hvx0)) rfl (fun _ _ => rfl) (Nat.le_refl _) (fun j hj => if_pos hj) (fun j8 hj8 => ?_)
              refine gq_cal (q_X9_add θ Gs U 13 0 j8 x3 (gv_st (gv_k0 12 rfl (gv_plan hvx0)) hj8) gr_13) (fun v9 U => ?_)
              refine gq_R (k := 0) (w := 0) (i := 0) hvx0 rfl (fun _ _ => ⟨_, rfl, rfl⟩) ?_
              refine gq_R (k := 1) (w := 0) (i := 0) (gv_plan hvx0) rfl (fun _ _ => ⟨_, rfl, rfl⟩) ?_
              refine gq_lq (k := 12) (w := 0) (i := 0) (gv_k0 12 rfl (gv_plan hvx0)) rfl (fun _ _ => rfl) (Nat.le_refl _) (fun j hj => if_pos hj) (fun j10 hj10 => ?_)
              refine gq_I (k := 13) (w := 0) (i := j10) (gv_st (gv_k0 12 rfl (gv_plan hvx0)) hj10) (gA_row gr_13) (fun _ _ => ⟨_, gC_row gr_13, rfl⟩) (fun v11 => ?_)
              exact gq_ret
  · exact gq_ret
set_option maxHeartbeats 4000000 in
set_option maxRecDepth 100000 in
theorem q_X10_seal (θ : gT) (Gs U : gK → Nat)  (hvx0 : gV θ 0 0 0) : gSim true θ Gs U (F_X10_seal (Gs (pk 0 0 0))) (G_X10_seal θ ) := by
  unfold F_X10_seal G_X10_seal
  refine gq_ck (k := 0) (w := 0) (i := 0) hvx0 rfl (fun _ _ => ⟨_, rfl⟩) ?_
  refine gq_R (k := 0) (w := 0) (i := 0) hvx0 rfl (fun _ _ => ⟨_, rfl, rfl⟩) ?_
  refine gq_I (k := 1) (w := 0) (i := 0) (gv_plan hvx0) rfl (fun _ _ => ⟨_, rfl, rfl⟩) (fun v1 => ?_)
  refine gq_if (fun _ => ?_) (fun _ => ?_)
  · refine gq_R (k := 0) (w := 0) (i := 0) hvx0 rfl (fun _ _ => ⟨_, rfl, rfl⟩) ?_
    refine gq_R (k := 1) (w := 0) (i := 0) (gv_plan hvx0) rfl (fun _ _ => ⟨_, rfl, rfl⟩) ?_
    refine gq_lq (k := 12) (w := 0) (i := 0) (gv_k0 12 rfl (gv_plan hvx0)) rfl (fun _ _ => rfl) (Nat.le_refl _) (fun j hj => if_pos hj) (fun j2 hj2 => ?_)
    refine gq_I (k := 13) (w := 0) (i := j2) (gv_st (gv_k0 12 rfl (gv_plan hvx0)) hj2) (gA_row gr_13) (fun _ _ => ⟨_, gC_row gr_13, rfl⟩) (fun v3 => ?_)
    refine gq_if (fun _ => ?_) (fun _ => ?_)
    · exact gq_ret
    · refine gq_R (k := 0) (w := 0) (i := 0) hvx0 rfl (fun _ _ => ⟨_, rfl, rfl⟩) ?_
      refine gq_pz (k := 1) (w := 0) (i := 0) (gv_plan hvx0) rfl (fun _ _ => ⟨_, rfl, by simp, rfl⟩) ?_
      refine gq_R (k := 0) (w := 0) (i := 0) hvx0 rfl (fun _ _ => ⟨_, rfl, rfl⟩) ?_
      refine gq_R (k := 15) (w := 0) (i := 0) (gv_m0 hvx0) rfl (fun _ _ => ⟨_, rfl, rfl⟩) ?_
      refine gq_call (q_X2_start θ Gs U 0 (gv_m0 hvx0)) (fun v4 => ?_)
      exact gq_ret
  · exact gq_ret
set_option maxHeartbeats 4000000 in
set_option maxRecDepth 100000 in
theorem q_X10_input (θ : gT) (Gs U : gK → Nat) (x1 : Int32) (x2 : Int32) (hvx0 : gV θ 0 0 0) : gSim false θ Gs U (F_X10_input (Gs (pk 0 0 0)) x1 x2) (G_X10_input θ x1 x2) := by
  unfold F_X10_input G_X10_input
  refine gq_ck (k := 0) (w := 0) (i := 0) hvx0 rfl (fun _ _ => ⟨_, rfl⟩) ?_
  refine gq_R (k := 0) (w := 0) (i := 0) hvx0 rfl (fun _ _ => ⟨_, rfl, rfl⟩) ?_
  refine gq_I (k := 1) (w := 0) (i := 0) (gv_plan hvx0) rfl (fun _ _ => ⟨_, rfl, rfl⟩) (fun v1 => ?_)
  refine gq_if (fun _ => ?_) (fun _ => ?_)
  · exact gq_ret
  · refine gq_R (k := 0) (w := 0) (i := 0) hvx0 rfl (fun _ _ => ⟨_, rfl, rfl⟩) ?_
    refine gq_call (q_X7_hasDomain θ Gs U x1 (gv_plan hvx0)) (fun v2 => ?_)
    refine gq_if (fun _ => ?_) (fun _ => ?_)
    · exact gq_ret
    · refine gq_R (k := 0) (w := 0) (i := 0) hvx0 rfl (fun _ _ => ⟨_, rfl, rfl⟩) ?_
      refine gq_call (q_X0_count θ Gs U  (gv_k0 32 rfl hvx0)) (fun v3 => ?_)
      refine gq_if (fun _ => ?_) (fun _ => ?_)
      · exact gq_ret
      · refine gq_R (k := 0) (w := 0) (i := 0) hvx0 rfl (fun _ _ => ⟨_, rfl, rfl⟩) ?_
        refine gq_R (k := 15) (w := 0) (i := 0) (gv_m0 hvx0) rfl (fun _ _ => ⟨_, rfl, rfl⟩) ?_
        refine gq_lq (k := 16) (w := 0) (i := 0) (gv_m0 hvx0) rfl (fun _ _ => rfl) (Nat.le_refl _) (fun j hj => if_pos hj) (fun j4 hj4 => ?_)
        refine gq_R (k := 19) (w := 0) (i := j4) (gv_dom (gv_m0 hvx0) hj4) rfl (fun _ _ => ⟨_, rfl, rfl⟩) ?_
        refine gq_I (k := 22) (w := 0) (i := j4) (gv_dom (gv_m0 hvx0) hj4) (gA_row gr_22) (fun _ _ => ⟨_, gC_row gr_22, rfl⟩) (fun v5 => ?_)
        refine gq_if (fun _ => ?_) (fun _ => ?_)
        · exact gq_ret
        · refine gq_R (k := 0) (w := 0) (i := 0) hvx0 rfl (fun _ _ => ⟨_, rfl, rfl⟩) ?_
          refine gq_R (k := 0) (w := 0) (i := 0) hvx0 rfl (fun _ _ => ⟨_, rfl, rfl⟩) ?_
          refine gq_R (k := 15) (w := 0) (i := 0) (gv_m0 hvx0) rfl (fun _ _ => ⟨_, rfl, rfl⟩) ?_
          refine gq_I (k := 18) (w := 0) (i := 0) (gv_m0 hvx0) rfl (fun _ _ => ⟨_, rfl, rfl⟩) (fun v6 => ?_)
          refine gq_cal (q_X0_add θ Gs U x1 (1 : Int32) v6 x2 (gv_k0 32 rfl hvx0)) (fun v7 U => ?_)
          refine gq_cal (q_X9_add θ Gs U 22 0 j4 x2 (gv_dom (gv_m0 hvx0) hj4) gr_22) (fun v8 U => ?_)
          refine gq_I (k := 22) (w := 0) (i := j4) (gv_dom (gv_m0 hvx0) hj4) (gA_row gr_22) (fun _ _ => ⟨_, gC_row gr_22, rfl⟩) (fun v9 => ?_)
          exact gq_ret
set_option maxHeartbeats 4000000 in
set_option maxRecDepth 100000 in
theorem q_X10_tick_60 (θ : gT) (Gs U : gK → Nat)    (x2 : Int32)  : gSim false θ Gs U (F_X10_tick_60 x2) (G_X10_tick_60 θ x2) := by
  unfold F_X10_tick_60 G_X10_tick_60
  exact gq_ret
set_option maxHeartbeats 4000000 in
set_option maxRecDepth 100000 in
theorem q_X10_tick_123 (θ : gT) (Gs U : gK → Nat) (f28 : Nat → Int32 → Int32 → Int32 → mo_M Int32) (k28 : Int32 → Int32 → Int32 → gM Int32) (hk28 : ∀ (U : gK → Nat) (x1 : Int32) (x2 : Int32) (x3 : Int32) (hvx0 : gV θ 0 0 0), gSim false θ Gs U (f28 (Gs (pk 0 0 0)) x1 x2 x3) (k28 x1 x2 x3)) (x1 : Int32) (x2 : Int32) (x3 : Int32) (hvx0 : gV θ 0 0 0) : gSim false θ Gs U (F_X10_tick_123 f28 (Gs (pk 0 0 0)) x1 x2 x3) (G_X10_tick_123 θ k28 x1 x2 x3) := by
  unfold F_X10_tick_123 G_X10_tick_123
  exact hk28 U x1 x2 (x3 + (1 : Int32)) hvx0
set_option maxHeartbeats 4000000 in
set_option maxRecDepth 100000 in
theorem q_X10_tick_63 (θ : gT) (Gs U : gK → Nat) (f28 : Nat → Int32 → Int32 → Int32 → mo_M Int32) (k28 : Int32 → Int32 → Int32 → gM Int32) (hk28 : ∀ (U : gK → Nat) (x1 : Int32) (x2 : Int32) (x3 : Int32) (hvx0 : gV θ 0 0 0), gSim false θ Gs U (f28 (Gs (pk 0 0 0)) x1 x2 x3) (k28 x1 x2 x3)) (x1 : Int32) (x2 : Int32) (x3 : Int32) (x4 : Int32) (hvx0 : gV θ 0 0 0) : gSim false θ Gs U (F_X10_tick_63 f28 (Gs (pk 0 0 0)) x1 x2 x3 x4) (G_X10_tick_63 θ k28 x1 x2 x3 x4) := by
  unfold F_X10_tick_63 G_X10_tick_63
  refine gq_if (fun _ => ?_) (fun _ => ?_)
  · refine gq_R (k := 0) (w := 0) (i := 0) hvx0 rfl (fun _ _ => ⟨_, rfl, rfl⟩) ?_
    refine gq_cal (q_X5_passIdle θ Gs U 0 (gv_m0 hvx0)) (fun v1 U => ?_)
    exact q_X10_tick_123 θ Gs U f28 k28 hk28 x1 x2 x3 hvx0
  · refine gq_R (k := 0) (w := 0) (i := 0) hvx0 rfl (fun _ _ => ⟨_, rfl, rfl⟩) ?_
    refine gq_R (k := 0) (w := 0) (i := 0) hvx0 rfl (fun _ _ => ⟨_, rfl, rfl⟩) ?_
    refine gq_R (k := 15) (w := 0) (i := 0) (gv_m0 hvx0) rfl (fun _ _ => ⟨_, rfl, rfl⟩) ?_
    refine gq_call (q_X2_slotDomain θ Gs U 0 (gv_m0 hvx0)) (fun v2 => ?_)
    refine gq_R (k := 0) (w := 0) (i := 0) hvx0 rfl (fun _ _ => ⟨_, rfl, rfl⟩) ?_
    refine gq_R (k := 15) (w := 0) (i := 0) (gv_m0 hvx0) rfl (fun _ _ => ⟨_, rfl, rfl⟩) ?_
    refine gq_I (k := 18) (w := 0) (i := 0) (gv_m0 hvx0) rfl (fun _ _ => ⟨_, rfl, rfl⟩) (fun v3 => ?_)
    refine gq_R (k := 0) (w := 0) (i := 0) hvx0 rfl (fun _ _ => ⟨_, rfl, rfl⟩) ?_
    refine gq_call (q_X5_dueInstruction θ Gs U 0 (gv_m0 hvx0)) (fun v4 => ?_)
    refine gq_cal (q_X0_add θ Gs U v2 (0 : Int32) v3 v4 (gv_k0 32 rfl hvx0)) (fun v5 U => ?_)
    refine gq_R (k := 0) (w := 0) (i := 0) hvx0 rfl (fun _ _ => ⟨_, rfl, rfl⟩) ?_
    refine gq_cal (q_X5_passWithStep θ Gs U 0 (gv_m0 hvx0)) (fun v6 U => ?_)
    exact q_X10_tick_123 θ Gs U f28 k28 hk28 x1 (x2 + (1 : Int32)) x3 hvx0
set_option maxHeartbeats 4000000 in
set_option maxRecDepth 100000 in
theorem q_X10_tick_28 (θ : gT) (Gs U0 : gK → Nat)    : ∀ (fu : Nat) (x1 : Int32) (x2 : Int32) (x3 : Int32) (hvx0 : gV θ 0 0 0), gSim false θ Gs U0 (F_X10_tick_28 fu (Gs (pk 0 0 0)) x1 x2 x3) (G_X10_tick_28 θ fu x1 x2 x3) := by
  intro fu
  revert U0
  induction fu with
  | zero =>
    intro U x1 x2 x3 hvx0
    unfold G_X10_tick_28
    exact gq_no
  | succ fu ih =>
    intro U x1 x2 x3 hvx0
    unfold F_X10_tick_28 G_X10_tick_28
    refine gq_if (fun _ => ?_) (fun _ => ?_)
    · exact gq_ret
    · refine gq_R (k := 0) (w := 0) (i := 0) hvx0 rfl (fun _ _ => ⟨_, rfl, rfl⟩) ?_
      refine gq_call (q_X5_stepIsDue θ Gs U 0 (gv_m0 hvx0)) (fun v1 => ?_)
      refine gq_if (fun _ => ?_) (fun _ => ?_)
      · exact q_X10_tick_63 θ Gs U (F_X10_tick_28  fu) (G_X10_tick_28 θ  fu) ih x1 x2 x3 v1 hvx0
      · refine gq_R (k := 0) (w := 0) (i := 0) hvx0 rfl (fun _ _ => ⟨_, rfl, rfl⟩) ?_
        refine gq_call (q_X0_count θ Gs U  (gv_k0 32 rfl hvx0)) (fun v2 => ?_)
        refine gq_if (fun _ => ?_) (fun _ => ?_)
        · exact q_X10_tick_60 θ Gs U x2
        · exact q_X10_tick_63 θ Gs U (F_X10_tick_28  fu) (G_X10_tick_28 θ  fu) ih x1 x2 x3 v1 hvx0
set_option maxHeartbeats 4000000 in
set_option maxRecDepth 100000 in
theorem q_X10_tick (θ : gT) (Gs U : gK → Nat) (x1 : Int32) (hvx0 : gV θ 0 0 0) : gSim false θ Gs U (F_X10_tick (Gs (pk 0 0 0)) x1) (G_X10_tick θ x1) := by
  unfold F_X10_tick G_X10_tick
  refine gq_ck (k := 0) (w := 0) (i := 0) hvx0 rfl (fun _ _ => ⟨_, rfl⟩) ?_
  refine gq_R (k := 0) (w := 0) (i := 0) hvx0 rfl (fun _ _ => ⟨_, rfl, rfl⟩) ?_
  refine gq_I (k := 1) (w := 0) (i := 0) (gv_plan hvx0) rfl (fun _ _ => ⟨_, rfl, rfl⟩) (fun v1 => ?_)
  refine gq_if (fun _ => ?_) (fun _ => ?_)
  · exact gq_ret
  · refine gq_if (fun _ => ?_) (fun _ => ?_)
    · exact gq_ret
    · refine gq_if (fun _ => ?_) (fun _ => ?_)
      · exact q_X10_tick_28 θ Gs U mo_fu x1 (0 : Int32) (0 : Int32) hvx0
      · exact gq_ret
set_option maxHeartbeats 4000000 in
set_option maxRecDepth 100000 in
theorem q_X10_register (θ : gT) (Gs U : gK → Nat) (x1 : Int32) (x2 : Int32) (hvx0 : gV θ 0 0 0) : gSim true θ Gs U (F_X10_register (Gs (pk 0 0 0)) x1 x2) (G_X10_register θ x1 x2) := by
  unfold F_X10_register G_X10_register
  refine gq_ck (k := 0) (w := 0) (i := 0) hvx0 rfl (fun _ _ => ⟨_, rfl⟩) ?_
  refine gq_R (k := 0) (w := 0) (i := 0) hvx0 rfl (fun _ _ => ⟨_, rfl, rfl⟩) ?_
  refine gq_call (q_X7_hasDomain θ Gs U x1 (gv_plan hvx0)) (fun v1 => ?_)
  refine gq_if (fun _ => ?_) (fun _ => ?_)
  · exact gq_ret
  · refine gq_R (k := 0) (w := 0) (i := 0) hvx0 rfl (fun _ _ => ⟨_, rfl, rfl⟩) ?_
    refine gq_R (k := 15) (w := 0) (i := 0) (gv_m0 hvx0) rfl (fun _ _ => ⟨_, rfl, rfl⟩) ?_
    refine gq_lq (k := 16) (w := 0) (i := 0) (gv_m0 hvx0) rfl (fun _ _ => rfl) (Nat.le_refl _) (fun j hj => if_pos hj) (fun j2 hj2 => ?_)
    refine gq_call (q_X3_registerOrZero θ Gs U 0 j2 x2 (gv_dom (gv_m0 hvx0) hj2)) (fun v3 => ?_)
    exact gq_ret
set_option maxHeartbeats 4000000 in
set_option maxRecDepth 100000 in
theorem q_X10_cell (θ : gT) (Gs U : gK → Nat) (x1 : Int32) (x2 : Int32) (hvx0 : gV θ 0 0 0) : gSim true θ Gs U (F_X10_cell (Gs (pk 0 0 0)) x1 x2) (G_X10_cell θ x1 x2) := by
  unfold F_X10_cell G_X10_cell
  refine gq_ck (k := 0) (w := 0) (i := 0) hvx0 rfl (fun _ _ => ⟨_, rfl⟩) ?_
  refine gq_R (k := 0) (w := 0) (i := 0) hvx0 rfl (fun _ _ => ⟨_, rfl, rfl⟩) ?_
  refine gq_call (q_X7_hasDomain θ Gs U x1 (gv_plan hvx0)) (fun v1 => ?_)
  refine gq_if (fun _ => ?_) (fun _ => ?_)
  · exact gq_ret
  · refine gq_R (k := 0) (w := 0) (i := 0) hvx0 rfl (fun _ _ => ⟨_, rfl, rfl⟩) ?_
    refine gq_R (k := 15) (w := 0) (i := 0) (gv_m0 hvx0) rfl (fun _ _ => ⟨_, rfl, rfl⟩) ?_
    refine gq_lq (k := 16) (w := 0) (i := 0) (gv_m0 hvx0) rfl (fun _ _ => rfl) (Nat.le_refl _) (fun j hj => if_pos hj) (fun j2 hj2 => ?_)
    refine gq_call (q_X3_cellOrZero θ Gs U 0 j2 x2 (gv_dom (gv_m0 hvx0) hj2)) (fun v3 => ?_)
    exact gq_ret
set_option maxHeartbeats 4000000 in
set_option maxRecDepth 100000 in
theorem q_X10_of (θ : gT) (Gs U : gK → Nat) (x1 : Int32) (x2 : Int32) (hvx0 : gV θ 0 0 0) : gSim true θ Gs U (F_X10_of (Gs (pk 0 0 0)) x1 x2) (G_X10_of θ x1 x2) := by
  unfold F_X10_of G_X10_of
  refine gq_ck (k := 0) (w := 0) (i := 0) hvx0 rfl (fun _ _ => ⟨_, rfl⟩) ?_
  refine gq_R (k := 0) (w := 0) (i := 0) hvx0 rfl (fun _ _ => ⟨_, rfl, rfl⟩) ?_
  refine gq_call (q_X7_hasDomain θ Gs U x1 (gv_plan hvx0)) (fun v1 => ?_)
  refine gq_if (fun _ => ?_) (fun _ => ?_)
  · exact gq_ret
  · refine gq_R (k := 0) (w := 0) (i := 0) hvx0 rfl (fun _ _ => ⟨_, rfl, rfl⟩) ?_
    refine gq_R (k := 15) (w := 0) (i := 0) (gv_m0 hvx0) rfl (fun _ _ => ⟨_, rfl, rfl⟩) ?_
    refine gq_lq (k := 16) (w := 0) (i := 0) (gv_m0 hvx0) rfl (fun _ _ => rfl) (Nat.le_refl _) (fun j hj => if_pos hj) (fun j2 hj2 => ?_)
    refine gq_if (fun _ => ?_) (fun _ => ?_)
    · refine gq_I (k := 19) (w := 0) (i := j2) (gv_dom (gv_m0 hvx0) hj2) rfl (fun _ _ => ⟨_, rfl, rfl⟩) (fun v3 => ?_)
      exact gq_ret
    refine gq_if (fun _ => ?_) (fun _ => ?_)
    · refine gq_I (k := 19) (w := 0) (i := j2) (gv_dom (gv_m0 hvx0) hj2) rfl (fun _ _ => ⟨_, rfl, rfl⟩) (fun v4 => ?_)
      exact gq_ret
    refine gq_if (fun _ => ?_) (fun _ => ?_)
    · refine gq_R (k := 19) (w := 0) (i := j2) (gv_dom (gv_m0 hvx0) hj2) rfl (fun _ _ => ⟨_, rfl, rfl⟩) ?_
      refine gq_I (k := 22) (w := 0) (i := j2) (gv_dom (gv_m0 hvx0) hj2) (gA_row gr_22) (fun _ _ => ⟨_, gC_row gr_22, rfl⟩) (fun v5 => ?_)
      exact gq_ret
    refine gq_if (fun _ => ?_) (fun _ => ?_)
    · refine gq_R (k := 19) (w := 0) (i := j2) (gv_dom (gv_m0 hvx0) hj2) rfl (fun _ _ => ⟨_, rfl, rfl⟩) ?_
      refine gq_I (k := 24) (w := 0) (i := j2) (gv_dom (gv_m0 hvx0) hj2) (gA_row gr_24) (fun _ _ => ⟨_, gC_row gr_24, rfl⟩) (fun v6 => ?_)
      exact gq_ret
    refine gq_if (fun _ => ?_) (fun _ => ?_)
    · refine gq_I (k := 19) (w := 0) (i := j2) (gv_dom (gv_m0 hvx0) hj2) rfl (fun _ _ => ⟨_, rfl, rfl⟩) (fun v7 => ?_)
      exact gq_ret
    refine gq_if (fun _ => ?_) (fun _ => ?_)
    · refine gq_I (k := 19) (w := 0) (i := j2) (gv_dom (gv_m0 hvx0) hj2) rfl (fun _ _ => ⟨_, rfl, rfl⟩) (fun v8 => ?_)
      exact gq_ret
    refine gq_if (fun _ => ?_) (fun _ => ?_)
    · refine gq_I (k := 19) (w := 0) (i := j2) (gv_dom (gv_m0 hvx0) hj2) rfl (fun _ _ => ⟨_, rfl, rfl⟩) (fun v9 => ?_)
      exact gq_ret
    refine gq_if (fun _ => ?_) (fun _ => ?_)
    · refine gq_R (k := 0) (w := 0) (i := 0) hvx0 rfl (fun _ _ => ⟨_, rfl, rfl⟩) ?_
      refine gq_call (q_X7_reigns θ Gs U x1 (gv_plan hvx0)) (fun v10 => ?_)
      refine gq_if (fun _ => ?_) (fun _ => ?_)
      · exact gq_ret
      · exact gq_ret
    exact gq_ret
set_option maxHeartbeats 4000000 in
set_option maxRecDepth 100000 in
theorem q_X10_output (θ : gT) (Gs U : gK → Nat) (x1 : Int32) (x2 : Int32) (hvx0 : gV θ 0 0 0) : gSim true θ Gs U (F_X10_output (Gs (pk 0 0 0)) x1 x2) (G_X10_output θ x1 x2) := by
  unfold F_X10_output G_X10_output
  refine gq_ck (k := 0) (w := 0) (i := 0) hvx0 rfl (fun _ _ => ⟨_, rfl⟩) ?_
  refine gq_R (k := 0) (w := 0) (i := 0) hvx0 rfl (fun _ _ => ⟨_, rfl, rfl⟩) ?_
  refine gq_call (q_X7_hasDomain θ Gs U x1 (gv_plan hvx0)) (fun v1 => ?_)
  refine gq_if (fun _ => ?_) (fun _ => ?_)
  · exact gq_ret
  · refine gq_R (k := 0) (w := 0) (i := 0) hvx0 rfl (fun _ _ => ⟨_, rfl, rfl⟩) ?_
    refine gq_R (k := 15) (w := 0) (i := 0) (gv_m0 hvx0) rfl (fun _ _ => ⟨_, rfl, rfl⟩) ?_
    refine gq_lq (k := 16) (w := 0) (i := 0) (gv_m0 hvx0) rfl (fun _ _ => rfl) (Nat.le_refl _) (fun j hj => if_pos hj) (fun j2 hj2 => ?_)
    refine gq_R (k := 19) (w := 0) (i := j2) (gv_dom (gv_m0 hvx0) hj2) rfl (fun _ _ => ⟨_, rfl, rfl⟩) ?_
    refine gq_call (q_X9_get θ Gs U 24 0 j2 x2 (gv_dom (gv_m0 hvx0) hj2) gr_24) (fun v3 => ?_)
    exact gq_ret
set_option maxHeartbeats 4000000 in
set_option maxRecDepth 100000 in
theorem q_X10_at (θ : gT) (Gs U : gK → Nat) (x1 : Int32) (x2 : Int32) (hvx0 : gV θ 0 0 0) : gSim true θ Gs U (F_X10_at (Gs (pk 0 0 0)) x1 x2) (G_X10_at θ x1 x2) := by
  unfold F_X10_at G_X10_at
  refine gq_ck (k := 0) (w := 0) (i := 0) hvx0 rfl (fun _ _ => ⟨_, rfl⟩) ?_
  refine gq_if (fun _ => ?_) (fun _ => ?_)
  · exact gq_ret
  · refine gq_R (k := 0) (w := 0) (i := 0) hvx0 rfl (fun _ _ => ⟨_, rfl, rfl⟩) ?_
    refine gq_I (k := 1) (w := 0) (i := 0) (gv_plan hvx0) rfl (fun _ _ => ⟨_, rfl, rfl⟩) (fun v1 => ?_)
    refine gq_if (fun _ => ?_) (fun _ => ?_)
    · refine gq_R (k := 0) (w := 0) (i := 0) hvx0 rfl (fun _ _ => ⟨_, rfl, rfl⟩) ?_
      refine gq_R (k := 15) (w := 0) (i := 0) (gv_m0 hvx0) rfl (fun _ _ => ⟨_, rfl, rfl⟩) ?_
      refine gq_lq (k := 17) (w := 0) (i := 0) (gv_m0 hvx0) rfl (fun _ _ => rfl) (gv_m0 hvx0).2.2 (fun j hj => if_pos hj) (fun j2 hj2 => ?_)
      refine gq_if (fun _ => ?_) (fun _ => ?_)
      · refine gq_R (k := 26) (w := 0) (i := j2) (gv_chan (gv_m0 hvx0) hj2) rfl (fun _ _ => ⟨_, rfl, rfl⟩) ?_
        refine gq_I (k := 4) (w := 0) (i := j2) (gv_link (gv_chan (gv_m0 hvx0) hj2)) rfl (fun _ _ => ⟨_, rfl, rfl⟩) (fun v3 => ?_)
        exact gq_ret
      refine gq_if (fun _ => ?_) (fun _ => ?_)
      · refine gq_R (k := 26) (w := 0) (i := j2) (gv_chan (gv_m0 hvx0) hj2) rfl (fun _ _ => ⟨_, rfl, rfl⟩) ?_
        refine gq_I (k := 4) (w := 0) (i := j2) (gv_link (gv_chan (gv_m0 hvx0) hj2)) rfl (fun _ _ => ⟨_, rfl, rfl⟩) (fun v4 => ?_)
        exact gq_ret
      refine gq_if (fun _ => ?_) (fun _ => ?_)
      · refine gq_R (k := 26) (w := 0) (i := j2) (gv_chan (gv_m0 hvx0) hj2) rfl (fun _ _ => ⟨_, rfl, rfl⟩) ?_
        refine gq_I (k := 4) (w := 0) (i := j2) (gv_link (gv_chan (gv_m0 hvx0) hj2)) rfl (fun _ _ => ⟨_, rfl, rfl⟩) (fun v5 => ?_)
        refine gq_if (fun _ => ?_) (fun _ => ?_)
        · exact gq_ret
        · exact gq_ret
      refine gq_if (fun _ => ?_) (fun _ => ?_)
      · refine gq_R (k := 26) (w := 0) (i := j2) (gv_chan (gv_m0 hvx0) hj2) rfl (fun _ _ => ⟨_, rfl, rfl⟩) ?_
        refine gq_I (k := 4) (w := 0) (i := j2) (gv_link (gv_chan (gv_m0 hvx0) hj2)) rfl (fun _ _ => ⟨_, rfl, rfl⟩) (fun v6 => ?_)
        exact gq_ret
      refine gq_if (fun _ => ?_) (fun _ => ?_)
      · refine gq_R (k := 26) (w := 0) (i := j2) (gv_chan (gv_m0 hvx0) hj2) rfl (fun _ _ => ⟨_, rfl, rfl⟩) ?_
        refine gq_call (q_X6_left θ Gs U 27 0 j2 (gv_chan (gv_m0 hvx0) hj2) gm_27) (fun v7 => ?_)
        exact gq_ret
      refine gq_if (fun _ => ?_) (fun _ => ?_)
      · refine gq_R (k := 26) (w := 0) (i := j2) (gv_chan (gv_m0 hvx0) hj2) rfl (fun _ _ => ⟨_, rfl, rfl⟩) ?_
        refine gq_call (q_X6_left θ Gs U 29 0 j2 (gv_chan (gv_m0 hvx0) hj2) gm_29) (fun v8 => ?_)
        exact gq_ret
      refine gq_if (fun _ => ?_) (fun _ => ?_)
      · refine gq_I (k := 26) (w := 0) (i := j2) (gv_chan (gv_m0 hvx0) hj2) rfl (fun _ _ => ⟨_, rfl, rfl⟩) (fun v9 => ?_)
        exact gq_ret
      refine gq_if (fun _ => ?_) (fun _ => ?_)
      · refine gq_I (k := 26) (w := 0) (i := j2) (gv_chan (gv_m0 hvx0) hj2) rfl (fun _ _ => ⟨_, rfl, rfl⟩) (fun v10 => ?_)
        exact gq_ret
      refine gq_if (fun _ => ?_) (fun _ => ?_)
      · refine gq_R (k := 26) (w := 0) (i := j2) (gv_chan (gv_m0 hvx0) hj2) rfl (fun _ _ => ⟨_, rfl, rfl⟩) ?_
        refine gq_I (k := 4) (w := 0) (i := j2) (gv_link (gv_chan (gv_m0 hvx0) hj2)) rfl (fun _ _ => ⟨_, rfl, rfl⟩) (fun v11 => ?_)
        refine gq_if (fun _ => ?_) (fun _ => ?_)
        · exact gq_ret
        · refine gq_R (k := 0) (w := 0) (i := 0) hvx0 rfl (fun _ _ => ⟨_, rfl, rfl⟩) ?_
          refine gq_R (k := 15) (w := 0) (i := 0) (gv_m0 hvx0) rfl (fun _ _ => ⟨_, rfl, rfl⟩) ?_
          refine gq_I (k := 18) (w := 0) (i := 0) (gv_m0 hvx0) rfl (fun _ _ => ⟨_, rfl, rfl⟩) (fun v12 => ?_)
          refine gq_call (q_X1_age θ Gs U 0 j2 v12 (gv_chan (gv_m0 hvx0) hj2)) (fun v13 => ?_)
          exact gq_ret
      exact gq_ret
    · exact gq_ret
