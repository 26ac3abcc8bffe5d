set_option maxHeartbeats 4000000 in
set_option maxRecDepth 100000 in
theorem c_X5_reset (l : Launch) (D : va_G) (dA : Nat → ClassId) (b0 : Nat) (x0 : Nat) : mo_Met l yX5_reset [Cond.code yX5_reset cX5_reset 2 none] 3 63 D dA b0 [.ref x0] (fun _ : Unit => none) (F_X5_reset x0) := by
  refine mo_MetOf (own := RX5) (by decide) (Nat.le_of_ble_eq_true rfl) [(0, .ref x0)] rfl rfl ?_
  intro p e R s m args below meth c Q h0 h2 z ls hQ C hml hr hlocks hnm hfr hlo hF A hl
  have hx := C.1
  have hb := C.2.1
  have hown := C.2.2.1
  have hts := C.2.2.2.1
  have hK := C.2.2.2.2.1
  have iX5 := inlX5
  have iX7 := inlX7
  have J56 : ∀   (x0 : Nat) (h : mo_H) (H : Heap) (locs : List Loc) (ls : Array Slot), mo_A D dA b0 s.heap h0 h H locs → lv_has ls 2 [(0, .ref x0)] → (F_X5_reset_56 x0).1 h = some (z, h2) → W p l e R s m args below meth c H locs (h.2.1 - h0.2.1) (h.2.2 - h0.2.2) Q (F0 m 56 ls []) := by
    intro  x0 h H locs ls A hl hF
    unfold F_X5_reset_56 at hF
    refine lv_aload_n hx hb dX5_reset_56 rfl (lv_at hl 0 rfl) ?_
    refine mo_wR C A (T := TX5) iX5 rfl 3 (by decide) tb_73 rfl dX5_reset_57 hF (fun v1 hF => ?_)
    refine mo_cV (n := 0) (As := []) (rest := []) C A hml hl.1 (c_X2_start l D dA b0 v1) (ci := 2) (q := (RX2, TX2, 6)) rfl (fun _ e => (mo_ckE e).1) (tb_v tb_706 tb_279 tb_280 tb_72 tb_281) rfl (by decide +kernel) ⟨Nat.le_trans (by decide) hfr, Nat.le_trans (Nat.le_of_ble_eq_true rfl) hlo⟩ rfl (Nat.le_of_ble_eq_true rfl) rfl dX5_reset_60 hF (fun v2 h H locs hF A => ?_)
    show W _ _ _ _ _ _ _ _ _ _ _ _ _ _ _ (F0 m 63 ls [])
    refine lv_aload_n hx hb dX5_reset_63 rfl (lv_at hl 0 rfl) ?_
    refine lv_iconst (v := (0 : Int32)) hx hb dX5_reset_64 (by decide) ?_
    obtain ⟨z3, hF⟩ := mo_pZE hF
    refine mo_wpV C A (T := TX5) iX5 tyX5 tyX5_ok nmX5 rfl 4 (by decide) tb_333 rfl rfl (by rcases z3 with h | h <;> rw [h] <;> rfl) (by rcases z3 with h | h <;> rw [h] <;> rfl) dX5_reset_65 hF (fun h H locs hF A => ?_)
    rw [hQ]
    exact mo_vret C A hr hlocks dX5_reset_68 hF
  have J30 : ∀   (fu : Nat) (x0 : Nat) (x1 : Int32) (h : mo_H) (H : Heap) (locs : List Loc) (ls : Array Slot), mo_A D dA b0 s.heap h0 h H locs → lv_has ls 2 [(0, .ref x0), (1, .int x1)] → (F_X5_reset_30 fu x0 x1).1 h = some (z, h2) → W p l e R s m args below meth c H locs (h.2.1 - h0.2.1) (h.2.2 - h0.2.2) Q (F0 m 30 ls []) := by
    intro  fu
    induction fu with
    | zero =>
      intro x0 x1 h H locs ls A hl hF
      unfold F_X5_reset_30 at hF
      cases hF
    | succ fu ih =>
      intro x0 x1 h H locs ls A hl hF
      unfold F_X5_reset_30 at hF
      refine lv_iload_n hx hb dX5_reset_30 rfl (lv_at hl 1 rfl) ?_
      refine lv_aload_n hx hb dX5_reset_31 rfl (lv_at hl 0 rfl) ?_
      refine mo_wR C A (T := TX5) iX5 rfl 0 (by decide) tb_61 rfl dX5_reset_32 hF (fun v4 hF => ?_)
      refine mo_wIN C A (T := TX7) iX7 rfl 3 (by decide) (List.mem_of_getElem? (i := 10) rfl) rfl dX5_reset_35 hF (fun v5 hF => ?_)
      refine lv_icmp_ge (tgt := 56) hx hb dX5_reset_38 (by decide) (fun c6 => ?_) (fun c6 => ?_)
      · have hF := mo_ifT c6 hF
        exact J56 x0 h H locs ls A (lv_sub hl [0] rfl) hF
      · have hF := mo_ifF c6 hF
        refine lv_aload_n hx hb dX5_reset_41 rfl (lv_at hl 0 rfl) ?_
        refine mo_wR C A (T := TX5) iX5 rfl 2 (by decide) tb_67 rfl dX5_reset_42 hF (fun v7 hF => ?_)
        refine lv_iload_n hx hb dX5_reset_45 rfl (lv_at hl 1 rfl) ?_
        refine mo_wlq C A (t := 5) (fun _ => rfl) dX5_reset_46 hF (fun v8 hF => ?_)
        refine mo_cV (n := 0) (As := []) (rest := []) C A hml hl.1 (c_X1_reset l D dA b0 v8) (ci := 1) (q := (RX1, TX1, 8)) rfl (fun _ e => (mo_ckE e).1) (tb_v tb_700 tb_701 tb_702 tb_69 tb_703) rfl (by decide +kernel) ⟨Nat.le_trans (by decide) hfr, Nat.le_trans (Nat.le_of_ble_eq_true rfl) hlo⟩ rfl (Nat.le_of_ble_eq_true rfl) rfl dX5_reset_47 hF (fun v9 h H locs hF A => ?_)
        show W _ _ _ _ _ _ _ _ _ _ _ _ _ _ _ (F0 m 50 ls [])
        refine lv_iinc (v := (x1 + (1 : Int32))) (lv' := [(1, .int (x1 + (1 : Int32))), (0, .ref x0)]) hx hb dX5_reset_50 hl (k := 1) rfl rfl (by decide) rfl (fun ls hl => ?_)
        refine lv_goto (tgt := 30) hx hb dX5_reset_53 (by decide) ?_
        exact ih x0 (x1 + (1 : Int32)) h H locs ls A (lv_sub hl [1, 0] rfl) hF
  have J28 : ∀   (x0 : Nat) (h : mo_H) (H : Heap) (locs : List Loc) (ls : Array Slot), mo_A D dA b0 s.heap h0 h H locs → lv_has ls 2 [(0, .ref x0)] → (F_X5_reset_28 x0).1 h = some (z, h2) → W p l e R s m args below meth c H locs (h.2.1 - h0.2.1) (h.2.2 - h0.2.2) Q (F0 m 28 ls []) := by
    intro  x0 h H locs ls A hl hF
    unfold F_X5_reset_28 at hF
    refine lv_iconst (v := (0 : Int32)) hx hb dX5_reset_28 (by decide) ?_
    refine lv_istore_n (lv' := [(1, .int (0 : Int32)), (0, .ref x0)]) hx hb dX5_reset_29 rfl hl (by decide) rfl (fun ls hl => ?_)
    exact J30 mo_fu x0 (0 : Int32) h H locs ls A (lv_sub hl [1, 0] rfl) hF
  have J2 : ∀   (fu : Nat) (x0 : Nat) (x1 : Int32) (h : mo_H) (H : Heap) (locs : List Loc) (ls : Array Slot), mo_A D dA b0 s.heap h0 h H locs → lv_has ls 2 [(0, .ref x0), (1, .int x1)] → (F_X5_reset_2 fu x0 x1).1 h = some (z, h2) → W p l e R s m args below meth c H locs (h.2.1 - h0.2.1) (h.2.2 - h0.2.2) Q (F0 m 2 ls []) := by
    intro  fu
    induction fu with
    | zero =>
      intro x0 x1 h H locs ls A hl hF
      unfold F_X5_reset_2 at hF
      cases hF
    | succ fu ih =>
      intro x0 x1 h H locs ls A hl hF
      unfold F_X5_reset_2 at hF
      refine lv_iload_n hx hb dX5_reset_2 rfl (lv_at hl 1 rfl) ?_
      refine lv_aload_n hx hb dX5_reset_3 rfl (lv_at hl 0 rfl) ?_
      refine mo_wR C A (T := TX5) iX5 rfl 0 (by decide) tb_61 rfl dX5_reset_4 hF (fun v10 hF => ?_)
      refine mo_wIN C A (T := TX7) iX7 rfl 0 (by decide) (List.mem_of_getElem? (i := 5) rfl) rfl dX5_reset_7 hF (fun v11 hF => ?_)
      refine lv_icmp_ge (tgt := 28) hx hb dX5_reset_10 (by decide) (fun c12 => ?_) (fun c12 => ?_)
      · have hF := mo_ifT c12 hF
        exact J28 x0 h H locs ls A (lv_sub hl [0] rfl) hF
      · have hF := mo_ifF c12 hF
        refine lv_aload_n hx hb dX5_reset_13 rfl (lv_at hl 0 rfl) ?_
        refine mo_wR C A (T := TX5) iX5 rfl 1 (by decide) tb_63 rfl dX5_reset_14 hF (fun v13 hF => ?_)
        refine lv_iload_n hx hb dX5_reset_17 rfl (lv_at hl 1 rfl) ?_
        refine mo_wlq C A (t := 4) (fun _ => rfl) dX5_reset_18 hF (fun v14 hF => ?_)
        refine mo_cV (n := 0) (As := []) (rest := []) C A hml hl.1 (c_X3_reset l D dA b0 v14) (ci := 3) (q := (RX3, TX3, 9)) rfl (fun _ e => (mo_ckE e).1) (tb_v tb_690 tb_691 tb_692 tb_65 tb_693) rfl (by decide +kernel) ⟨Nat.le_trans (by decide) hfr, Nat.le_trans (Nat.le_of_ble_eq_true rfl) hlo⟩ rfl (Nat.le_of_ble_eq_true rfl) rfl dX5_reset_19 hF (fun v15 h H locs hF A => ?_)
        show W _ _ _ _ _ _ _ _ _ _ _ _ _ _ _ (F0 m 22 ls [])
        refine lv_iinc (v := (x1 + (1 : Int32))) (lv' := [(1, .int (x1 + (1 : Int32))), (0, .ref x0)]) hx hb dX5_reset_22 hl (k := 1) rfl rfl (by decide) rfl (fun ls hl => ?_)
        refine lv_goto (tgt := 2) hx hb dX5_reset_25 (by decide) ?_
        exact ih x0 (x1 + (1 : Int32)) h H locs ls A (lv_sub hl [1, 0] rfl) hF
  unfold F_X5_reset at hF
  obtain ⟨-, hF⟩ := mo_ckE hF
  have E : ∀ (h : mo_H) (H : Heap) (locs : List Loc), (F_X5_reset_2 mo_fu x0 (0 : Int32)).1 h = some (z, h2) → mo_A D dA b0 s.heap h0 h H locs → W p l e R s m args below meth c H locs (h.2.1 - h0.2.1) (h.2.2 - h0.2.2) Q (F0 m 0 ls []) := by
    intro h H locs hF A
    refine lv_iconst (v := (0 : Int32)) hx hb dX5_reset_0 (by decide) ?_
    refine lv_istore_n (lv' := [(1, .int (0 : Int32)), (0, .ref x0)]) hx hb dX5_reset_1 rfl hl (by decide) rfl (fun ls hl => ?_)
    exact J2 mo_fu x0 (0 : Int32) h H locs ls A (lv_sub hl [1, 0] rfl) hF
  exact E h0 s.heap [] hF A
set_option maxHeartbeats 4000000 in
set_option maxRecDepth 100000 in
theorem c_X5_stepIsDue (l : Launch) (D : va_G) (dA : Nat → ClassId) (b0 : Nat) (x0 : Nat) : mo_Met l yX5_stepIsDue [Cond.code yX5_stepIsDue cX5_stepIsDue 2 (some .boolean)] 2 41 D dA b0 [.ref x0] (fun r : Int32 => some (.int r)) (F_X5_stepIsDue x0) := by
  refine mo_MetOf (own := RX5) (by decide) (Nat.le_of_ble_eq_true rfl) [(0, .ref x0)] rfl rfl ?_
  intro p e R s m args below meth c Q h0 h2 z ls hQ C hml hr hlocks hnm hfr hlo hF A hl
  have hx := C.1
  have hb := C.2.1
  have hown := C.2.2.1
  have hts := C.2.2.2.1
  have hK := C.2.2.2.2.1
  have iX3 := inlX3
  have iX5 := inlX5
  have J22 : ∀   (x0 : Nat) (s0 : Int32) (h : mo_H) (H : Heap) (locs : List Loc) (ls : Array Slot), mo_A D dA b0 s.heap h0 h H locs → lv_has ls 2 [(0, .ref x0)] → (F_X5_stepIsDue_22 x0 s0).1 h = some (z, h2) → W p l e R s m args below meth c H locs (h.2.1 - h0.2.1) (h.2.2 - h0.2.2) Q (F0 m 22 ls [.int s0]) := by
    intro  x0 s0 h H locs ls A hl hF
    unfold F_X5_stepIsDue_22 at hF
    refine lv_istore_n (lv' := [(1, .int s0), (0, .ref x0)]) hx hb dX5_stepIsDue_22 rfl hl (by decide) rfl (fun ls hl => ?_)
    refine lv_aload_n hx hb dX5_stepIsDue_23 rfl (lv_at hl 1 rfl) ?_
    refine mo_wR C A (T := TX5) iX5 rfl 1 (by decide) tb_63 rfl dX5_stepIsDue_24 hF (fun v1 hF => ?_)
    refine lv_aload_n hx hb dX5_stepIsDue_27 rfl (lv_at hl 1 rfl) ?_
    refine mo_wR C A (T := TX5) iX5 rfl 3 (by decide) tb_73 rfl dX5_stepIsDue_28 hF (fun v2 hF => ?_)
    refine mo_cV (n := 0) (As := []) (rest := [.ref v1]) C A hml hl.1 (c_X2_slotDomain l D dA b0 v2) (ci := 2) (q := (RX2, TX2, 6)) rfl (fun _ e => (mo_ckE e).1) (tb_v tb_338 tb_339 tb_340 tb_72 tb_341) rfl (by decide +kernel) ⟨Nat.le_trans (by decide) hfr, Nat.le_trans (Nat.le_of_ble_eq_true rfl) hlo⟩ rfl (Nat.le_of_ble_eq_true rfl) rfl dX5_stepIsDue_31 hF (fun v3 h H locs hF A => ?_)
    show W _ _ _ _ _ _ _ _ _ _ _ _ _ _ _ (F0 m 34 ls [.int v3, .ref v1])
    refine mo_wlq C A (t := 4) (fun _ => rfl) dX5_stepIsDue_34 hF (fun v4 hF => ?_)
    refine mo_wIN C A (T := TX3) iX3 rfl 5 (by decide) (List.mem_of_getElem? (i := 27) rfl) rfl dX5_stepIsDue_35 hF (fun v5 hF => ?_)
    refine lv_if_ne (tgt := 49) hx hb dX5_stepIsDue_38 (by decide) (fun c6 => ?_) (fun c6 => ?_)
    · have hF := mo_ifF c6 hF
      refine lv_iconst (v := (0 : Int32)) hx hb dX5_stepIsDue_49 (by decide) ?_
      rw [hQ]
      exact mo_zret C A hr hlocks dX5_stepIsDue_50 hF
    · have hF := mo_ifT c6 hF
      refine lv_iload_n hx hb dX5_stepIsDue_41 rfl (lv_at hl 0 rfl) ?_
      refine lv_if_ne (tgt := 49) hx hb dX5_stepIsDue_42 (by decide) (fun c7 => ?_) (fun c7 => ?_)
      · have hF := mo_ifF c7 hF
        refine lv_iconst (v := (0 : Int32)) hx hb dX5_stepIsDue_49 (by decide) ?_
        rw [hQ]
        exact mo_zret C A hr hlocks dX5_stepIsDue_50 hF
      · have hF := mo_ifT c7 hF
        refine lv_iconst (v := (1 : Int32)) hx hb dX5_stepIsDue_45 (by decide) ?_
        refine lv_goto (tgt := 50) hx hb dX5_stepIsDue_46 (by decide) ?_
        rw [hQ]
        exact mo_zret C A hr hlocks dX5_stepIsDue_50 hF
  have J21 : ∀   (x0 : Nat) (h : mo_H) (H : Heap) (locs : List Loc) (ls : Array Slot), mo_A D dA b0 s.heap h0 h H locs → lv_has ls 2 [(0, .ref x0)] → (F_X5_stepIsDue_21 x0).1 h = some (z, h2) → W p l e R s m args below meth c H locs (h.2.1 - h0.2.1) (h.2.2 - h0.2.2) Q (F0 m 21 ls []) := by
    intro  x0 h H locs ls A hl hF
    unfold F_X5_stepIsDue_21 at hF
    refine lv_iconst (v := (0 : Int32)) hx hb dX5_stepIsDue_21 (by decide) ?_
    exact J22 x0 (0 : Int32) h H locs ls A (lv_sub hl [0] rfl) hF
  unfold F_X5_stepIsDue at hF
  obtain ⟨-, hF⟩ := mo_ckE hF
  have E : ∀ (h : mo_H) (H : Heap) (locs : List Loc), (mo_b (mo_gI x0 5 4) fun v8 => (if v8 = 0 then F_X5_stepIsDue_21 x0 else mo_b (mo_gR x0 5 3) fun v10 => mo_b (F_X2_beginsSlot v10) fun v11 => (if v11 = 0 then F_X5_stepIsDue_22 x0 (1 : Int32) else F_X5_stepIsDue_21 x0))).1 h = some (z, h2) → mo_A D dA b0 s.heap h0 h H locs → W p l e R s m args below meth c H locs (h.2.1 - h0.2.1) (h.2.2 - h0.2.2) Q (F0 m 0 ls []) := by
    intro h H locs hF A
    refine lv_aload_n hx hb dX5_stepIsDue_0 rfl (lv_at hl 0 rfl) ?_
    refine mo_wI C A (T := TX5) iX5 rfl 4 (by decide) tb_333 rfl dX5_stepIsDue_1 hF (fun v8 hF => ?_)
    refine lv_if_eq (tgt := 21) hx hb dX5_stepIsDue_4 (by decide) (fun c9 => ?_) (fun c9 => ?_)
    · have hF := mo_ifT c9 hF
      exact J21 x0 h H locs ls A (lv_sub hl [0] rfl) hF
    · have hF := mo_ifF c9 hF
      refine lv_aload_n hx hb dX5_stepIsDue_7 rfl (lv_at hl 0 rfl) ?_
      refine mo_wR C A (T := TX5) iX5 rfl 3 (by decide) tb_73 rfl dX5_stepIsDue_8 hF (fun v10 hF => ?_)
      refine mo_cV (n := 0) (As := []) (rest := []) C A hml hl.1 (c_X2_beginsSlot l D dA b0 v10) (ci := 2) (q := (RX2, TX2, 6)) rfl (fun _ e => (mo_ckE e).1) (tb_v tb_334 tb_335 tb_336 tb_72 tb_337) rfl (by decide +kernel) ⟨Nat.le_trans (by decide) hfr, Nat.le_trans (Nat.le_of_ble_eq_true rfl) hlo⟩ rfl (Nat.le_of_ble_eq_true rfl) rfl dX5_stepIsDue_11 hF (fun v11 h H locs hF A => ?_)
      show W _ _ _ _ _ _ _ _ _ _ _ _ _ _ _ (F0 m 14 ls [.int v11])
      refine lv_if_ne (tgt := 21) hx hb dX5_stepIsDue_14 (by decide) (fun c12 => ?_) (fun c12 => ?_)
      · have hF := mo_ifF c12 hF
        exact J21 x0 h H locs ls A (lv_sub hl [0] rfl) hF
      · have hF := mo_ifT c12 hF
        refine lv_iconst (v := (1 : Int32)) hx hb dX5_stepIsDue_17 (by decide) ?_
        refine lv_goto (tgt := 22) hx hb dX5_stepIsDue_18 (by decide) ?_
        exact J22 x0 (1 : Int32) h H locs ls A (lv_sub hl [0] rfl) hF
  exact E h0 s.heap [] hF A
set_option maxHeartbeats 4000000 in
set_option maxRecDepth 100000 in
theorem c_X5_dueInstruction (l : Launch) (D : va_G) (dA : Nat → ClassId) (b0 : Nat) (x0 : Nat) : mo_Met l yX5_dueInstruction [Cond.code yX5_dueInstruction cX5_dueInstruction 2 (some .int)] 2 41 D dA b0 [.ref x0] (fun r : Int32 => some (.int r)) (F_X5_dueInstruction x0) := by
  refine mo_MetOf (own := RX5) (by decide) (Nat.le_of_ble_eq_true rfl) [(0, .ref x0)] rfl rfl ?_
  intro p e R s m args below meth c Q h0 h2 z ls hQ C hml hr hlocks hnm hfr hlo hF A hl
  have hx := C.1
  have hb := C.2.1
  have hown := C.2.2.1
  have hts := C.2.2.2.1
  have hK := C.2.2.2.2.1
  have iX3 := inlX3
  have iX5 := inlX5
  have iX7 := inlX7
  unfold F_X5_dueInstruction at hF
  obtain ⟨-, hF⟩ := mo_ckE hF
  have E : ∀ (h : mo_H) (H : Heap) (locs : List Loc), (mo_b (mo_gR x0 5 3) fun v1 => mo_b (F_X2_slotDomain v1) fun v2 => mo_b (mo_gR x0 5 0) fun v3 => mo_b (mo_gR v3 7 4) fun v4 => mo_b (mo_lq 2 v4 v2) fun v5 => mo_b (mo_gR x0 5 1) fun v6 => mo_b (mo_lq 4 v6 v2) fun v7 => mo_b (mo_gI v7 3 4) fun v8 => mo_b (F_X9_get v5 v8) fun v9 => mo_ret v9).1 h = some (z, h2) → mo_A D dA b0 s.heap h0 h H locs → W p l e R s m args below meth c H locs (h.2.1 - h0.2.1) (h.2.2 - h0.2.2) Q (F0 m 0 ls []) := by
    intro h H locs hF A
    refine lv_aload_n hx hb dX5_dueInstruction_0 rfl (lv_at hl 0 rfl) ?_
    refine mo_wR C A (T := TX5) iX5 rfl 3 (by decide) tb_73 rfl dX5_dueInstruction_1 hF (fun v1 hF => ?_)
    refine mo_cV (n := 0) (As := []) (rest := []) C A hml hl.1 (c_X2_slotDomain l D dA b0 v1) (ci := 2) (q := (RX2, TX2, 6)) rfl (fun _ e => (mo_ckE e).1) (tb_v tb_338 tb_339 tb_340 tb_72 tb_341) rfl (by decide +kernel) ⟨Nat.le_trans (by decide) hfr, Nat.le_trans (Nat.le_of_ble_eq_true rfl) hlo⟩ rfl (Nat.le_of_ble_eq_true rfl) rfl dX5_dueInstruction_4 hF (fun v2 h H locs hF A => ?_)
    show W _ _ _ _ _ _ _ _ _ _ _ _ _ _ _ (F0 m 7 ls [.int v2])
    refine lv_istore_n (lv' := [(1, .int v2), (0, .ref x0)]) hx hb dX5_dueInstruction_7 rfl hl (by decide) rfl (fun ls hl => ?_)
    refine lv_aload_n hx hb dX5_dueInstruction_8 rfl (lv_at hl 1 rfl) ?_
    refine mo_wR C A (T := TX5) iX5 rfl 0 (by decide) tb_61 rfl dX5_dueInstruction_9 hF (fun v3 hF => ?_)
    refine mo_wRN C A (T := TX7) iX7 rfl 4 (by decide) (List.mem_of_getElem? (i := 12) rfl) rfl dX5_dueInstruction_12 hF (fun v4 hF => ?_)
    refine lv_iload_n hx hb dX5_dueInstruction_15 rfl (lv_at hl 0 rfl) ?_
    refine mo_wlq C A (t := 2) (fun _ => rfl) dX5_dueInstruction_16 hF (fun v5 hF => ?_)
    refine lv_aload_n hx hb dX5_dueInstruction_17 rfl (lv_at hl 1 rfl) ?_
    refine mo_wR C A (T := TX5) iX5 rfl 1 (by decide) tb_63 rfl dX5_dueInstruction_18 hF (fun v6 hF => ?_)
    refine lv_iload_n hx hb dX5_dueInstruction_21 rfl (lv_at hl 0 rfl) ?_
    refine mo_wlq C A (t := 4) (fun _ => rfl) dX5_dueInstruction_22 hF (fun v7 hF => ?_)
    refine mo_wIN C A (T := TX3) iX3 rfl 4 (by decide) (List.mem_of_getElem? (i := 25) rfl) rfl dX5_dueInstruction_23 hF (fun v8 hF => ?_)
    refine mo_cV (n := 1) (As := [.int v8]) (rest := []) C A hml hl.1 (c_X9_get l D dA b0 v5 v8) (ci := 9) (q := (RX9, TX9, 2)) rfl (fun _ e => (mo_ckE e).1) (tb_v tb_347 tb_288 tb_289 tb_46 tb_290) rfl (by decide +kernel) ⟨Nat.le_trans (by decide) hfr, Nat.le_trans (Nat.le_of_ble_eq_true rfl) hlo⟩ rfl (Nat.le_of_ble_eq_true rfl) rfl dX5_dueInstruction_26 hF (fun v9 h H locs hF A => ?_)
    show W _ _ _ _ _ _ _ _ _ _ _ _ _ _ _ (F0 m 29 ls [.int v9])
    rw [hQ]
    exact mo_iret C A hr hlocks dX5_dueInstruction_29 hF
  exact E h0 s.heap [] hF A
set_option maxHeartbeats 4000000 in
set_option maxRecDepth 100000 in
theorem c_X5_beginTick (l : Launch) (D : va_G) (dA : Nat → ClassId) (b0 : Nat) (x0 : Nat) : mo_Met l yX5_beginTick [Cond.code yX5_beginTick cX5_beginTick 4 none] 2 41 D dA b0 [.ref x0] (fun _ : Unit => none) (F_X5_beginTick x0) := by
  refine mo_MetOf (own := RX5) (by decide) (Nat.le_of_ble_eq_true rfl) [(0, .ref x0)] rfl rfl ?_
  intro p e R s m args below meth c Q h0 h2 z ls hQ C hml hr hlocks hnm hfr hlo hF A hl
  have hx := C.1
  have hb := C.2.1
  have hown := C.2.2.1
  have hts := C.2.2.2.1
  have hK := C.2.2.2.2.1
  have iX1 := inlX1
  have iX4 := inlX4
  have iX5 := inlX5
  have iX7 := inlX7
  have J75 : ∀ (k26 : Nat → Int32 → Int32 → mo_M Unit) (hk26 : ∀ (x0 : Nat) (x1 : Int32) (x2 : Int32) (h : mo_H) (H : Heap) (locs : List Loc) (ls : Array Slot), mo_A D dA b0 s.heap h0 h H locs → lv_has ls 4 [(0, .ref x0), (1, .int x1), (2, .int x2)] → (k26 x0 x1 x2).1 h = some (z, h2) → W p l e R s m args below meth c H locs (h.2.1 - h0.2.1) (h.2.2 - h0.2.2) Q (F0 m 26 ls [])) (x0 : Nat) (x1 : Int32) (x2 : Int32) (h : mo_H) (H : Heap) (locs : List Loc) (ls : Array Slot), mo_A D dA b0 s.heap h0 h H locs → lv_has ls 4 [(0, .ref x0), (1, .int x1), (2, .int x2)] → (F_X5_beginTick_75 k26 x0 x1 x2).1 h = some (z, h2) → W p l e R s m args below meth c H locs (h.2.1 - h0.2.1) (h.2.2 - h0.2.2) Q (F0 m 75 ls []) := by
    intro k26 hk26 x0 x1 x2 h H locs ls A hl hF
    unfold F_X5_beginTick_75 at hF
    refine lv_iinc (v := (x2 + (1 : Int32))) (lv' := [(2, .int (x2 + (1 : Int32))), (0, .ref x0), (1, .int x1)]) hx hb dX5_beginTick_75 hl (k := 2) rfl rfl (by decide) rfl (fun ls hl => ?_)
    refine lv_goto (tgt := 26) hx hb dX5_beginTick_78 (by decide) ?_
    exact hk26 x0 x1 (x2 + (1 : Int32)) h H locs ls A (lv_sub hl [1, 2, 0] rfl) hF
  have J60 : ∀ (k26 : Nat → Int32 → Int32 → mo_M Unit) (hk26 : ∀ (x0 : Nat) (x1 : Int32) (x2 : Int32) (h : mo_H) (H : Heap) (locs : List Loc) (ls : Array Slot), mo_A D dA b0 s.heap h0 h H locs → lv_has ls 4 [(0, .ref x0), (1, .int x1), (2, .int x2)] → (k26 x0 x1 x2).1 h = some (z, h2) → W p l e R s m args below meth c H locs (h.2.1 - h0.2.1) (h.2.2 - h0.2.2) Q (F0 m 26 ls [])) (x0 : Nat) (x1 : Int32) (x2 : Int32) (x3 : Nat) (h : mo_H) (H : Heap) (locs : List Loc) (ls : Array Slot), mo_A D dA b0 s.heap h0 h H locs → lv_has ls 4 [(0, .ref x0), (1, .int x1), (2, .int x2), (3, .ref x3)] → (F_X5_beginTick_60 k26 x0 x1 x2 x3).1 h = some (z, h2) → W p l e R s m args below meth c H locs (h.2.1 - h0.2.1) (h.2.2 - h0.2.2) Q (F0 m 60 ls []) := by
    intro k26 hk26 x0 x1 x2 x3 h H locs ls A hl hF
    unfold F_X5_beginTick_60 at hF
    refine lv_aload_n hx hb dX5_beginTick_60 rfl (lv_at hl 3 rfl) ?_
    refine mo_wRN C A (T := TX1) iX1 rfl 0 (by decide) (List.mem_of_getElem? (i := 34) rfl) rfl dX5_beginTick_61 hF (fun v1 hF => ?_)
    refine mo_wIN C A (T := TX4) iX4 rfl 1 (by decide) (List.mem_of_getElem? (i := 70) rfl) rfl dX5_beginTick_64 hF (fun v2 hF => ?_)
    refine lv_iload_n hx hb dX5_beginTick_67 rfl (lv_at hl 1 rfl) ?_
    refine lv_icmp_ne (tgt := 75) hx hb dX5_beginTick_68 (by decide) (fun c3 => ?_) (fun c3 => ?_)
    · have hF := mo_ifF c3 hF
      exact J75 k26 hk26 x0 x1 x2 h H locs ls A (lv_sub hl [0, 1, 2] rfl) hF
    · have hF := mo_ifT c3 hF
      refine lv_aload_n hx hb dX5_beginTick_71 rfl (lv_at hl 3 rfl) ?_
      refine mo_cV (n := 0) (As := []) (rest := []) C A hml hl.1 (c_X1_handOver l D dA b0 x3) (ci := 1) (q := (RX1, TX1, 8)) rfl (fun _ e => (mo_ckE e).1) (tb_v tb_356 tb_357 tb_358 tb_69 tb_359) rfl (by decide +kernel) ⟨Nat.le_trans (by decide) hfr, Nat.le_trans (Nat.le_of_ble_eq_true rfl) hlo⟩ rfl (Nat.le_of_ble_eq_true rfl) rfl dX5_beginTick_72 hF (fun v4 h H locs hF A => ?_)
      show W _ _ _ _ _ _ _ _ _ _ _ _ _ _ _ (F0 m 75 ls [])
      exact J75 k26 hk26 x0 x1 x2 h H locs ls A (lv_sub hl [0, 1, 2] rfl) hF
  have J26 : ∀   (fu : Nat) (x0 : Nat) (x1 : Int32) (x2 : Int32) (h : mo_H) (H : Heap) (locs : List Loc) (ls : Array Slot), mo_A D dA b0 s.heap h0 h H locs → lv_has ls 4 [(0, .ref x0), (1, .int x1), (2, .int x2)] → (F_X5_beginTick_26 fu x0 x1 x2).1 h = some (z, h2) → W p l e R s m args below meth c H locs (h.2.1 - h0.2.1) (h.2.2 - h0.2.2) Q (F0 m 26 ls []) := by
    intro  fu
    induction fu with
    | zero =>
      intro x0 x1 x2 h H locs ls A hl hF
      unfold F_X5_beginTick_26 at hF
      cases hF
    | succ fu ih =>
      intro x0 x1 x2 h H locs ls A hl hF
      unfold F_X5_beginTick_26 at hF
      refine lv_iload_n hx hb dX5_beginTick_26 rfl (lv_at hl 2 rfl) ?_
      refine lv_aload_n hx hb dX5_beginTick_27 rfl (lv_at hl 0 rfl) ?_
      refine mo_wR C A (T := TX5) iX5 rfl 0 (by decide) tb_61 rfl dX5_beginTick_28 hF (fun v5 hF => ?_)
      refine mo_wIN C A (T := TX7) iX7 rfl 3 (by decide) (List.mem_of_getElem? (i := 10) rfl) rfl dX5_beginTick_31 hF (fun v6 hF => ?_)
      refine lv_icmp_ge (tgt := 81) hx hb dX5_beginTick_34 (by decide) (fun c7 => ?_) (fun c7 => ?_)
      · have hF := mo_ifT c7 hF
        rw [hQ]
        exact mo_vret C A hr hlocks dX5_beginTick_81 hF
      · have hF := mo_ifF c7 hF
        refine lv_aload_n hx hb dX5_beginTick_37 rfl (lv_at hl 0 rfl) ?_
        refine mo_wR C A (T := TX5) iX5 rfl 2 (by decide) tb_67 rfl dX5_beginTick_38 hF (fun v8 hF => ?_)
        refine lv_iload_n hx hb dX5_beginTick_41 rfl (lv_at hl 2 rfl) ?_
        refine mo_wlq C A (t := 5) (fun _ => rfl) dX5_beginTick_42 hF (fun v9 hF => ?_)
        refine lv_astore_n (lv' := [(3, .ref v9), (0, .ref x0), (1, .int x1), (2, .int x2)]) hx hb dX5_beginTick_43 rfl hl (by decide) rfl (fun ls hl => ?_)
        refine lv_aload_n hx hb dX5_beginTick_44 rfl (lv_at hl 0 rfl) ?_
        refine mo_wRN C A (T := TX1) iX1 rfl 0 (by decide) (List.mem_of_getElem? (i := 34) rfl) rfl dX5_beginTick_45 hF (fun v10 hF => ?_)
        refine mo_wIN C A (T := TX4) iX4 rfl 0 (by decide) (List.mem_of_getElem? (i := 67) rfl) rfl dX5_beginTick_48 hF (fun v11 hF => ?_)
        refine lv_iload_n hx hb dX5_beginTick_51 rfl (lv_at hl 2 rfl) ?_
        refine lv_icmp_ne (tgt := 60) hx hb dX5_beginTick_52 (by decide) (fun c12 => ?_) (fun c12 => ?_)
        · have hF := mo_ifF c12 hF
          exact J60 (F_X5_beginTick_26  fu) ih x0 x1 x2 v9 h H locs ls A (lv_sub hl [1, 2, 3, 0] rfl) hF
        · have hF := mo_ifT c12 hF
          refine lv_aload_n hx hb dX5_beginTick_55 rfl (lv_at hl 0 rfl) ?_
          refine lv_iconst (v := (0 : Int32)) hx hb dX5_beginTick_56 (by decide) ?_
          refine mo_wpN C A (T := TX1) iX1 tyX1 tyX1_ok nmX1 rfl 3 (by decide) (List.mem_of_getElem? (i := 40) rfl) rfl rfl rfl rfl dX5_beginTick_57 hF (fun h H locs hF A => ?_)
          exact J60 (F_X5_beginTick_26  fu) ih x0 x1 x2 v9 h H locs ls A (lv_sub hl [1, 2, 3, 0] rfl) hF
  unfold F_X5_beginTick at hF
  obtain ⟨-, hF⟩ := mo_ckE hF
  have E : ∀ (h : mo_H) (H : Heap) (locs : List Loc), (mo_b (mo_gR x0 5 3) fun v13 => mo_b (F_X2_beginsSlot v13) fun v14 => (if v14 = 0 then mo_ret () else mo_b (mo_pZ x0 5 4 (0 : Int32)) fun _ => mo_b (mo_gR x0 5 3) fun v17 => mo_b (F_X2_slotDomain v17) fun v18 => F_X5_beginTick_26 mo_fu x0 v18 (0 : Int32))).1 h = some (z, h2) → mo_A D dA b0 s.heap h0 h H locs → W p l e R s m args below meth c H locs (h.2.1 - h0.2.1) (h.2.2 - h0.2.2) Q (F0 m 0 ls []) := by
    intro h H locs hF A
    refine lv_aload_n hx hb dX5_beginTick_0 rfl (lv_at hl 0 rfl) ?_
    refine mo_wR C A (T := TX5) iX5 rfl 3 (by decide) tb_73 rfl dX5_beginTick_1 hF (fun v13 hF => ?_)
    refine mo_cV (n := 0) (As := []) (rest := []) C A hml hl.1 (c_X2_beginsSlot l D dA b0 v13) (ci := 2) (q := (RX2, TX2, 6)) rfl (fun _ e => (mo_ckE e).1) (tb_v tb_334 tb_335 tb_336 tb_72 tb_337) rfl (by decide +kernel) ⟨Nat.le_trans (by decide) hfr, Nat.le_trans (Nat.le_of_ble_eq_true rfl) hlo⟩ rfl (Nat.le_of_ble_eq_true rfl) rfl dX5_beginTick_4 hF (fun v14 h H locs hF A => ?_)
    show W _ _ _ _ _ _ _ _ _ _ _ _ _ _ _ (F0 m 7 ls [.int v14])
    refine lv_if_ne (tgt := 11) hx hb dX5_beginTick_7 (by decide) (fun c15 => ?_) (fun c15 => ?_)
    · have hF := mo_ifF c15 hF
      refine lv_aload_n hx hb dX5_beginTick_11 rfl (lv_at hl 0 rfl) ?_
      refine lv_iconst (v := (0 : Int32)) hx hb dX5_beginTick_12 (by decide) ?_
      obtain ⟨z16, hF⟩ := mo_pZE hF
      refine mo_wpV C A (T := TX5) iX5 tyX5 tyX5_ok nmX5 rfl 4 (by decide) tb_333 rfl rfl (by rcases z16 with h | h <;> rw [h] <;> rfl) (by rcases z16 with h | h <;> rw [h] <;> rfl) dX5_beginTick_13 hF (fun h H locs hF A => ?_)
      refine lv_aload_n hx hb dX5_beginTick_16 rfl (lv_at hl 0 rfl) ?_
      refine mo_wR C A (T := TX5) iX5 rfl 3 (by decide) tb_73 rfl dX5_beginTick_17 hF (fun v17 hF => ?_)
      refine mo_cV (n := 0) (As := []) (rest := []) C A hml hl.1 (c_X2_slotDomain l D dA b0 v17) (ci := 2) (q := (RX2, TX2, 6)) rfl (fun _ e => (mo_ckE e).1) (tb_v tb_338 tb_339 tb_340 tb_72 tb_341) rfl (by decide +kernel) ⟨Nat.le_trans (by decide) hfr, Nat.le_trans (Nat.le_of_ble_eq_true rfl) hlo⟩ rfl (Nat.le_of_ble_eq_true rfl) rfl dX5_beginTick_20 hF (fun v18 h H locs hF A => ?_)
      show W _ _ _ _ _ _ _ _ _ _ _ _ _ _ _ (F0 m 23 ls [.int v18])
      refine lv_istore_n (lv' := [(1, .int v18), (0, .ref x0)]) hx hb dX5_beginTick_23 rfl hl (by decide) rfl (fun ls hl => ?_)
      refine lv_iconst (v := (0 : Int32)) hx hb dX5_beginTick_24 (by decide) ?_
      refine lv_istore_n (lv' := [(2, .int (0 : Int32)), (1, .int v18), (0, .ref x0)]) hx hb dX5_beginTick_25 rfl hl (by decide) rfl (fun ls hl => ?_)
      exact J26 mo_fu x0 v18 (0 : Int32) h H locs ls A (lv_sub hl [2, 1, 0] rfl) hF
    · have hF := mo_ifT c15 hF
      rw [hQ]
      exact mo_vret C A hr hlocks dX5_beginTick_10 hF
  exact E h0 s.heap [] hF A
set_option maxHeartbeats 4000000 in
set_option maxRecDepth 100000 in
theorem c_X5_endTick (l : Launch) (D : va_G) (dA : Nat → ClassId) (b0 : Nat) (x0 : Nat) : mo_Met l yX5_endTick [Cond.code yX5_endTick cX5_endTick 1 none] 2 41 D dA b0 [.ref x0] (fun _ : Unit => none) (F_X5_endTick x0) := by
  refine mo_MetOf (own := RX5) (by decide) (Nat.le_of_ble_eq_true rfl) [(0, .ref x0)] rfl rfl ?_
  intro p e R s m args below meth c Q h0 h2 z ls hQ C hml hr hlocks hnm hfr hlo hF A hl
  have hx := C.1
  have hb := C.2.1
  have hown := C.2.2.1
  have hts := C.2.2.2.1
  have hK := C.2.2.2.2.1
  have iX3 := inlX3
  have iX5 := inlX5
  unfold F_X5_endTick at hF
  obtain ⟨-, hF⟩ := mo_ckE hF
  have E : ∀ (h : mo_H) (H : Heap) (locs : List Loc), (mo_b (mo_gR x0 5 1) fun v1 => mo_b (mo_gR x0 5 3) fun v2 => mo_b (F_X2_slotDomain v2) fun v3 => mo_b (mo_lq 4 v1 v3) fun v4 => mo_b (mo_gI v4 3 8) fun v5 => mo_b (mo_pV v4 3 8 (.int (v5 + (1 : Int32)))) fun _ => mo_b (mo_gR x0 5 3) fun v6 => mo_b (F_X2_advance v6) fun v7 => mo_ret ()).1 h = some (z, h2) → mo_A D dA b0 s.heap h0 h H locs → W p l e R s m args below meth c H locs (h.2.1 - h0.2.1) (h.2.2 - h0.2.2) Q (F0 m 0 ls []) := by
    intro h H locs hF A
    refine lv_aload_n hx hb dX5_endTick_0 rfl (lv_at hl 0 rfl) ?_
    refine mo_wR C A (T := TX5) iX5 rfl 1 (by decide) tb_63 rfl dX5_endTick_1 hF (fun v1 hF => ?_)
    refine lv_aload_n hx hb dX5_endTick_4 rfl (lv_at hl 0 rfl) ?_
    refine mo_wR C A (T := TX5) iX5 rfl 3 (by decide) tb_73 rfl dX5_endTick_5 hF (fun v2 hF => ?_)
    refine mo_cV (n := 0) (As := []) (rest := [.ref v1]) C A hml hl.1 (c_X2_slotDomain l D dA b0 v2) (ci := 2) (q := (RX2, TX2, 6)) rfl (fun _ e => (mo_ckE e).1) (tb_v tb_338 tb_339 tb_340 tb_72 tb_341) rfl (by decide +kernel) ⟨Nat.le_trans (by decide) hfr, Nat.le_trans (Nat.le_of_ble_eq_true rfl) hlo⟩ rfl (Nat.le_of_ble_eq_true rfl) rfl dX5_endTick_8 hF (fun v3 h H locs hF A => ?_)
    show W _ _ _ _ _ _ _ _ _ _ _ _ _ _ _ (F0 m 11 ls [.int v3, .ref v1])
    refine mo_wlq C A (t := 4) (fun _ => rfl) dX5_endTick_11 hF (fun v4 hF => ?_)
    refine lv_dup hx hb dX5_endTick_12 rfl ?_
    refine mo_wIN C A (T := TX3) iX3 rfl 8 (by decide) (List.mem_of_getElem? (i := 32) rfl) rfl dX5_endTick_13 hF (fun v5 hF => ?_)
    refine lv_iconst (v := (1 : Int32)) hx hb dX5_endTick_16 (by decide) ?_
    refine lv_iadd hx hb dX5_endTick_17 ?_
    refine mo_wpN C A (T := TX3) iX3 tyX3 tyX3_ok nmX3 rfl 8 (by decide) (List.mem_of_getElem? (i := 32) rfl) rfl rfl rfl rfl dX5_endTick_18 hF (fun h H locs hF A => ?_)
    refine lv_aload_n hx hb dX5_endTick_21 rfl (lv_at hl 0 rfl) ?_
    refine mo_wR C A (T := TX5) iX5 rfl 3 (by decide) tb_73 rfl dX5_endTick_22 hF (fun v6 hF => ?_)
    refine mo_cV (n := 0) (As := []) (rest := []) C A hml hl.1 (c_X2_advance l D dA b0 v6) (ci := 2) (q := (RX2, TX2, 6)) rfl (fun _ e => (mo_ckE e).1) (tb_v tb_519 tb_520 tb_521 tb_72 tb_522) rfl (by decide +kernel) ⟨Nat.le_trans (by decide) hfr, Nat.le_trans (Nat.le_of_ble_eq_true rfl) hlo⟩ rfl (Nat.le_of_ble_eq_true rfl) rfl dX5_endTick_25 hF (fun v7 h H locs hF A => ?_)
    show W _ _ _ _ _ _ _ _ _ _ _ _ _ _ _ (F0 m 28 ls [])
    rw [hQ]
    exact mo_vret C A hr hlocks dX5_endTick_28 hF
  exact E h0 s.heap [] hF A
set_option maxHeartbeats 4000000 in
set_option maxRecDepth 100000 in
theorem c_X5_isAlone (l : Launch) (D : va_G) (dA : Nat → ClassId) (b0 : Nat) (x0 : Int32) : mo_Met l yX5_isAlone [Cond.code yX5_isAlone cX5_isAlone 1 (some .boolean)] 0 0 D dA b0 [.int x0] (fun r : Int32 => some (.int r)) (F_X5_isAlone x0) := by
  refine mo_MetOf (own := RX5) (by decide) (Nat.le_of_ble_eq_true rfl) [(0, .int x0)] rfl rfl ?_
  intro p e R s m args below meth c Q h0 h2 z ls hQ C hml hr hlocks hnm hfr hlo hF A hl
  have hx := C.1
  have hb := C.2.1
  have hown := C.2.2.1
  have hts := C.2.2.2.1
  have hK := C.2.2.2.2.1
  have J18 : ∀    (h : mo_H) (H : Heap) (locs : List Loc) (ls : Array Slot), mo_A D dA b0 s.heap h0 h H locs → lv_has ls 1 [] → (F_X5_isAlone_18).1 h = some (z, h2) → W p l e R s m args below meth c H locs (h.2.1 - h0.2.1) (h.2.2 - h0.2.2) Q (F0 m 18 ls []) := by
    intro   h H locs ls A hl hF
    unfold F_X5_isAlone_18 at hF
    refine lv_iconst (v := (1 : Int32)) hx hb dX5_isAlone_18 (by decide) ?_
    refine lv_goto (tgt := 23) hx hb dX5_isAlone_19 (by decide) ?_
    rw [hQ]
    exact mo_zret C A hr hlocks dX5_isAlone_23 hF
  unfold F_X5_isAlone at hF
  have E : ∀ (h : mo_H) (H : Heap) (locs : List Loc), ((if x0 ≤ (13 : Int32) then F_X5_isAlone_18 else (if x0 = (18 : Int32) then F_X5_isAlone_18 else (if x0 = (19 : Int32) then F_X5_isAlone_18 else mo_rz (0 : Int32))))).1 h = some (z, h2) → mo_A D dA b0 s.heap h0 h H locs → W p l e R s m args below meth c H locs (h.2.1 - h0.2.1) (h.2.2 - h0.2.2) Q (F0 m 0 ls []) := by
    intro h H locs hF A
    refine lv_iload_n hx hb dX5_isAlone_0 rfl (lv_at hl 0 rfl) ?_
    refine lv_bipush (v := (13 : Int32)) hx hb dX5_isAlone_1 (by decide) ?_
    refine lv_icmp_le (tgt := 18) hx hb dX5_isAlone_3 (by decide) (fun c1 => ?_) (fun c1 => ?_)
    · have hF := mo_ifT c1 hF
      exact J18 h H locs ls A (lv_sub hl [] rfl) hF
    · have hF := mo_ifF c1 hF
      refine lv_iload_n hx hb dX5_isAlone_6 rfl (lv_at hl 0 rfl) ?_
      refine lv_bipush (v := (18 : Int32)) hx hb dX5_isAlone_7 (by decide) ?_
      refine lv_icmp_eq (tgt := 18) hx hb dX5_isAlone_9 (by decide) (fun c2 => ?_) (fun c2 => ?_)
      · have hF := mo_ifT c2 hF
        exact J18 h H locs ls A (lv_sub hl [] rfl) hF
      · have hF := mo_ifF c2 hF
        refine lv_iload_n hx hb dX5_isAlone_12 rfl (lv_at hl 0 rfl) ?_
        refine lv_bipush (v := (19 : Int32)) hx hb dX5_isAlone_13 (by decide) ?_
        refine lv_icmp_ne (tgt := 22) hx hb dX5_isAlone_15 (by decide) (fun c3 => ?_) (fun c3 => ?_)
        · have hF := mo_ifF c3 hF
          refine lv_iconst (v := (0 : Int32)) hx hb dX5_isAlone_22 (by decide) ?_
          rw [hQ]
          exact mo_zret C A hr hlocks dX5_isAlone_23 hF
        · have hF := mo_ifT c3 hF
          exact J18 h H locs ls A (lv_sub hl [] rfl) hF
  exact E h0 s.heap [] hF A
set_option maxHeartbeats 4000000 in
set_option maxRecDepth 100000 in
theorem c_X10_isSchedule (l : Launch) (D : va_G) (dA : Nat → ClassId) (b0 : Nat) (x0 : Int32) : mo_Met l yX10_isSchedule [Cond.code yX10_isSchedule cX10_isSchedule 1 (some .boolean)] 0 0 D dA b0 [.int x0] (fun r : Int32 => some (.int r)) (F_X10_isSchedule x0) := by
  refine mo_MetOf (own := RX10) (by decide) (Nat.le_of_ble_eq_true rfl) [(0, .int x0)] rfl rfl ?_
  intro p e R s m args below meth c Q h0 h2 z ls hQ C hml hr hlocks hnm hfr hlo hF A hl
  have hx := C.1
  have hb := C.2.1
  have hown := C.2.2.1
  have hts := C.2.2.2.1
  have hK := C.2.2.2.2.1
  unfold F_X10_isSchedule at hF
  have E : ∀ (h : mo_H) (H : Heap) (locs : List Loc), ((if x0 < 0 then mo_rz (0 : Int32) else (if (3 : Int32) ≤ x0 then mo_rz (0 : Int32) else mo_rz (1 : Int32)))).1 h = some (z, h2) → mo_A D dA b0 s.heap h0 h H locs → W p l e R s m args below meth c H locs (h.2.1 - h0.2.1) (h.2.2 - h0.2.2) Q (F0 m 0 ls []) := by
    intro h H locs hF A
    refine lv_iload_n hx hb dX10_isSchedule_0 rfl (lv_at hl 0 rfl) ?_
    refine lv_if_lt (tgt := 13) hx hb dX10_isSchedule_1 (by decide) (fun c1 => ?_) (fun c1 => ?_)
    · have hF := mo_ifT c1 hF
      refine lv_iconst (v := (0 : Int32)) hx hb dX10_isSchedule_13 (by decide) ?_
      rw [hQ]
      exact mo_zret C A hr hlocks dX10_isSchedule_14 hF
    · have hF := mo_ifF c1 hF
      refine lv_iload_n hx hb dX10_isSchedule_4 rfl (lv_at hl 0 rfl) ?_
      refine lv_iconst (v := (3 : Int32)) hx hb dX10_isSchedule_5 (by decide) ?_
      refine lv_icmp_ge (tgt := 13) hx hb dX10_isSchedule_6 (by decide) (fun c2 => ?_) (fun c2 => ?_)
      · have hF := mo_ifT c2 hF
        refine lv_iconst (v := (0 : Int32)) hx hb dX10_isSchedule_13 (by decide) ?_
        rw [hQ]
        exact mo_zret C A hr hlocks dX10_isSchedule_14 hF
      · have hF := mo_ifF c2 hF
        refine lv_iconst (v := (1 : Int32)) hx hb dX10_isSchedule_9 (by decide) ?_
        refine lv_goto (tgt := 14) hx hb dX10_isSchedule_10 (by decide) ?_
        rw [hQ]
        exact mo_zret C A hr hlocks dX10_isSchedule_14 hF
  exact E h0 s.heap [] hF A
set_option maxHeartbeats 4000000 in
set_option maxRecDepth 100000 in
theorem c_X7_reigns (l : Launch) (D : va_G) (dA : Nat → ClassId) (b0 : Nat) (x0 : Nat) (x1 : Int32) : mo_Met l yX7_reigns [Cond.code yX7_reigns cX7_reigns 2 (some .boolean)] 0 0 D dA b0 [.ref x0, .int x1] (fun r : Int32 => some (.int r)) (F_X7_reigns x0 x1) := by
  refine mo_MetOf (own := RX7) (by decide) (Nat.le_of_ble_eq_true rfl) [(0, .ref x0), (1, .int x1)] rfl rfl ?_
  intro p e R s m args below meth c Q h0 h2 z ls hQ C hml hr hlocks hnm hfr hlo hF A hl
  have hx := C.1
  have hb := C.2.1
  have hown := C.2.2.1
  have hts := C.2.2.2.1
  have hK := C.2.2.2.2.1
  have iX7 := inlX7
  unfold F_X7_reigns at hF
  obtain ⟨-, hF⟩ := mo_ckE hF
  have E : ∀ (h : mo_H) (H : Heap) (locs : List Loc), (mo_b (mo_gR x0 7 1) fun v1 => mo_b (mo_la 0 v1 x1) fun v2 => mo_b (mo_gI x0 7 0) fun v3 => (if v2 = (((1 : Int32) <<< (v3 &&& 31)) - (1 : Int32)) then mo_rz (1 : Int32) else mo_rz (0 : Int32))).1 h = some (z, h2) → mo_A D dA b0 s.heap h0 h H locs → W p l e R s m args below meth c H locs (h.2.1 - h0.2.1) (h.2.2 - h0.2.2) Q (F0 m 0 ls []) := by
    intro h H locs hF A
    refine lv_aload_n hx hb dX7_reigns_0 rfl (lv_at hl 0 rfl) ?_
    refine mo_wR C A (T := TX7) iX7 rfl 1 (by decide) tb_41 rfl dX7_reigns_1 hF (fun v1 hF => ?_)
    refine lv_iload_n hx hb dX7_reigns_4 rfl (lv_at hl 1 rfl) ?_
    refine mo_wla C A dX7_reigns_5 hF (fun v2 hF => ?_)
    refine lv_iconst (v := (1 : Int32)) hx hb dX7_reigns_6 (by decide) ?_
    refine lv_aload_n hx hb dX7_reigns_7 rfl (lv_at hl 0 rfl) ?_
    refine mo_wI C A (T := TX7) iX7 rfl 0 (by decide) tb_39 rfl dX7_reigns_8 hF (fun v3 hF => ?_)
    refine lv_ishl hx hb dX7_reigns_11 ?_
    refine lv_iconst (v := (1 : Int32)) hx hb dX7_reigns_12 (by decide) ?_
    refine lv_isub hx hb dX7_reigns_13 ?_
    refine lv_icmp_ne (tgt := 21) hx hb dX7_reigns_14 (by decide) (fun c4 => ?_) (fun c4 => ?_)
    · have hF := mo_ifF c4 hF
      refine lv_iconst (v := (0 : Int32)) hx hb dX7_reigns_21 (by decide) ?_
      rw [hQ]
      exact mo_zret C A hr hlocks dX7_reigns_22 hF
    · have hF := mo_ifT c4 hF
      refine lv_iconst (v := (1 : Int32)) hx hb dX7_reigns_17 (by decide) ?_
      refine lv_goto (tgt := 22) hx hb dX7_reigns_18 (by decide) ?_
      rw [hQ]
      exact mo_zret C A hr hlocks dX7_reigns_22 hF
  exact E h0 s.heap [] hF A
set_option maxHeartbeats 4000000 in
set_option maxRecDepth 100000 in
theorem c_X5_ask (l : Launch) (D : va_G) (dA : Nat → ClassId) (b0 : Nat) (x0 : Nat) (x1 : Int32) (x2 : Int32) : mo_Met l yX5_ask [Cond.code yX5_ask cX5_ask 3 (some .boolean)] 1 21 D dA b0 [.ref x0, .int x1, .int x2] (fun r : Int32 => some (.int r)) (F_X5_ask x0 x1 x2) := by
  refine mo_MetOf (own := RX5) (by decide) (Nat.le_of_ble_eq_true rfl) [(0, .ref x0), (1, .int x1), (2, .int x2)] rfl rfl ?_
  intro p e R s m args below meth c Q h0 h2 z ls hQ C hml hr hlocks hnm hfr hlo hF A hl
  have hx := C.1
  have hb := C.2.1
  have hown := C.2.2.1
  have hts := C.2.2.2.1
  have hK := C.2.2.2.2.1
  have iX2 := inlX2
  have iX5 := inlX5
  unfold F_X5_ask at hF
  obtain ⟨-, hF⟩ := mo_ckE hF
  have E : ∀ (h : mo_H) (H : Heap) (locs : List Loc), (mo_b (F_X10_isSchedule x2) fun v1 => (if v1 = 0 then mo_rz (0 : Int32) else mo_b (mo_gR x0 5 0) fun v3 => mo_b (F_X7_reigns v3 x1) fun v4 => (if v4 = 0 then mo_rz (0 : Int32) else mo_b (mo_gR x0 5 3) fun v6 => mo_b (mo_pV v6 2 5 (.int x2)) fun _ => mo_rz (1 : Int32)))).1 h = some (z, h2) → mo_A D dA b0 s.heap h0 h H locs → W p l e R s m args below meth c H locs (h.2.1 - h0.2.1) (h.2.2 - h0.2.2) Q (F0 m 0 ls []) := by
    intro h H locs hF A
    refine lv_iload_n hx hb dX5_ask_0 rfl (lv_at hl 2 rfl) ?_
    refine mo_cN (n := 1) (As := [.int x2]) (rest := []) C A hml hl.1 (c_X10_isSchedule l D dA b0 x2) (tb_o tb_269) (List.mem_of_getElem? (i := 90) rfl) tb_2 tb_268 rfl (by decide +kernel) ⟨Nat.le_trans (by decide) hfr, Nat.le_trans (Nat.le_of_ble_eq_true rfl) hlo⟩ rfl (Nat.le_of_ble_eq_true rfl) rfl dX5_ask_1 hF (fun v1 h H locs hF A => ?_)
    show W _ _ _ _ _ _ _ _ _ _ _ _ _ _ _ (F0 m 4 ls [.int v1])
    refine lv_if_eq (tgt := 18) hx hb dX5_ask_4 (by decide) (fun c2 => ?_) (fun c2 => ?_)
    · have hF := mo_ifT c2 hF
      refine lv_iconst (v := (0 : Int32)) hx hb dX5_ask_18 (by decide) ?_
      rw [hQ]
      exact mo_zret C A hr hlocks dX5_ask_19 hF
    · have hF := mo_ifF c2 hF
      refine lv_aload_n hx hb dX5_ask_7 rfl (lv_at hl 0 rfl) ?_
      refine mo_wR C A (T := TX5) iX5 rfl 0 (by decide) tb_61 rfl dX5_ask_8 hF (fun v3 hF => ?_)
      refine lv_iload_n hx hb dX5_ask_11 rfl (lv_at hl 1 rfl) ?_
      refine mo_cV (n := 1) (As := [.int x1]) (rest := []) C A hml hl.1 (c_X7_reigns l D dA b0 v3 x1) (ci := 7) (q := (RX7, TX7, 9)) rfl (fun _ e => (mo_ckE e).1) (tb_v tb_494 tb_495 tb_496 tb_18 tb_497) rfl (by decide +kernel) ⟨Nat.le_trans (by decide) hfr, Nat.le_trans (Nat.le_of_ble_eq_true rfl) hlo⟩ rfl (Nat.le_of_ble_eq_true rfl) rfl dX5_ask_12 hF (fun v4 h H locs hF A => ?_)
      show W _ _ _ _ _ _ _ _ _ _ _ _ _ _ _ (F0 m 15 ls [.int v4])
      refine lv_if_ne (tgt := 20) hx hb dX5_ask_15 (by decide) (fun c5 => ?_) (fun c5 => ?_)
      · have hF := mo_ifF c5 hF
        refine lv_aload_n hx hb dX5_ask_20 rfl (lv_at hl 0 rfl) ?_
        refine mo_wR C A (T := TX5) iX5 rfl 3 (by decide) tb_73 rfl dX5_ask_21 hF (fun v6 hF => ?_)
        refine lv_iload_n hx hb dX5_ask_24 rfl (lv_at hl 2 rfl) ?_
        refine mo_wpN C A (T := TX2) iX2 tyX2 tyX2_ok nmX2 rfl 5 (by decide) (List.mem_of_getElem? (i := 53) rfl) rfl rfl rfl rfl dX5_ask_25 hF (fun h H locs hF A => ?_)
        refine lv_iconst (v := (1 : Int32)) hx hb dX5_ask_28 (by decide) ?_
        rw [hQ]
        exact mo_zret C A hr hlocks dX5_ask_29 hF
      · have hF := mo_ifT c5 hF
        refine lv_iconst (v := (0 : Int32)) hx hb dX5_ask_18 (by decide) ?_
        rw [hQ]
        exact mo_zret C A hr hlocks dX5_ask_19 hF
  exact E h0 s.heap [] hF A
set_option maxHeartbeats 4000000 in
set_option maxRecDepth 100000 in
theorem c_X7_hasDomain (l : Launch) (D : va_G) (dA : Nat → ClassId) (b0 : Nat) (x0 : Nat) (x1 : Int32) : mo_Met l yX7_hasDomain [Cond.code yX7_hasDomain cX7_hasDomain 2 (some .boolean)] 0 0 D dA b0 [.ref x0, .int x1] (fun r : Int32 => some (.int r)) (F_X7_hasDomain x0 x1) := by
  refine mo_MetOf (own := RX7) (by decide) (Nat.le_of_ble_eq_true rfl) [(0, .ref x0), (1, .int x1)] rfl rfl ?_
  intro p e R s m args below meth c Q h0 h2 z ls hQ C hml hr hlocks hnm hfr hlo hF A hl
  have hx := C.1
  have hb := C.2.1
  have hown := C.2.2.1
  have hts := C.2.2.2.1
  have hK := C.2.2.2.2.1
  have iX7 := inlX7
  unfold F_X7_hasDomain at hF
  obtain ⟨-, hF⟩ := mo_ckE hF
  have E : ∀ (h : mo_H) (H : Heap) (locs : List Loc), ((if x1 < 0 then mo_rz (0 : Int32) else mo_b (mo_gI x0 7 0) fun v2 => (if v2 ≤ x1 then mo_rz (0 : Int32) else mo_rz (1 : Int32)))).1 h = some (z, h2) → mo_A D dA b0 s.heap h0 h H locs → W p l e R s m args below meth c H locs (h.2.1 - h0.2.1) (h.2.2 - h0.2.2) Q (F0 m 0 ls []) := by
    intro h H locs hF A
    refine lv_iload_n hx hb dX7_hasDomain_0 rfl (lv_at hl 1 rfl) ?_
    refine lv_if_lt (tgt := 16) hx hb dX7_hasDomain_1 (by decide) (fun c1 => ?_) (fun c1 => ?_)
    · have hF := mo_ifT c1 hF
      refine lv_iconst (v := (0 : Int32)) hx hb dX7_hasDomain_16 (by decide) ?_
      rw [hQ]
      exact mo_zret C A hr hlocks dX7_hasDomain_17 hF
    · have hF := mo_ifF c1 hF
      refine lv_iload_n hx hb dX7_hasDomain_4 rfl (lv_at hl 1 rfl) ?_
      refine lv_aload_n hx hb dX7_hasDomain_5 rfl (lv_at hl 0 rfl) ?_
      refine mo_wI C A (T := TX7) iX7 rfl 0 (by decide) tb_39 rfl dX7_hasDomain_6 hF (fun v2 hF => ?_)
      refine lv_icmp_ge (tgt := 16) hx hb dX7_hasDomain_9 (by decide) (fun c3 => ?_) (fun c3 => ?_)
      · have hF := mo_ifT c3 hF
        refine lv_iconst (v := (0 : Int32)) hx hb dX7_hasDomain_16 (by decide) ?_
        rw [hQ]
        exact mo_zret C A hr hlocks dX7_hasDomain_17 hF
      · have hF := mo_ifF c3 hF
        refine lv_iconst (v := (1 : Int32)) hx hb dX7_hasDomain_12 (by decide) ?_
        refine lv_goto (tgt := 17) hx hb dX7_hasDomain_13 (by decide) ?_
        rw [hQ]
        exact mo_zret C A hr hlocks dX7_hasDomain_17 hF
  exact E h0 s.heap [] hF A
set_option maxHeartbeats 4000000 in
set_option maxRecDepth 100000 in
theorem c_X7_mayFlow (l : Launch) (D : va_G) (dA : Nat → ClassId) (b0 : Nat) (x0 : Nat) (x1 : Int32) (x2 : Int32) : mo_Met l yX7_mayFlow [Cond.code yX7_mayFlow cX7_mayFlow 3 (some .boolean)] 0 0 D dA b0 [.ref x0, .int x1, .int x2] (fun r : Int32 => some (.int r)) (F_X7_mayFlow x0 x1 x2) := by
  refine mo_MetOf (own := RX7) (by decide) (Nat.le_of_ble_eq_true rfl) [(0, .ref x0), (1, .int x1), (2, .int x2)] rfl rfl ?_
  intro p e R s m args below meth c Q h0 h2 z ls hQ C hml hr hlocks hnm hfr hlo hF A hl
  have hx := C.1
  have hb := C.2.1
  have hown := C.2.2.1
  have hts := C.2.2.2.1
  have hK := C.2.2.2.2.1
  have iX7 := inlX7
  unfold F_X7_mayFlow at hF
  obtain ⟨-, hF⟩ := mo_ckE hF
  have E : ∀ (h : mo_H) (H : Heap) (locs : List Loc), (mo_b (mo_gR x0 7 1) fun v1 => mo_b (mo_la 0 v1 x1) fun v2 => (if (v2 &&& ((1 : Int32) <<< (x2 &&& 31))) = 0 then mo_rz (0 : Int32) else mo_rz (1 : Int32))).1 h = some (z, h2) → mo_A D dA b0 s.heap h0 h H locs → W p l e R s m args below meth c H locs (h.2.1 - h0.2.1) (h.2.2 - h0.2.2) Q (F0 m 0 ls []) := by
    intro h H locs hF A
    refine lv_aload_n hx hb dX7_mayFlow_0 rfl (lv_at hl 0 rfl) ?_
    refine mo_wR C A (T := TX7) iX7 rfl 1 (by decide) tb_41 rfl dX7_mayFlow_1 hF (fun v1 hF => ?_)
    refine lv_iload_n hx hb dX7_mayFlow_4 rfl (lv_at hl 1 rfl) ?_
    refine mo_wla C A dX7_mayFlow_5 hF (fun v2 hF => ?_)
    refine lv_iconst (v := (1 : Int32)) hx hb dX7_mayFlow_6 (by decide) ?_
    refine lv_iload_n hx hb dX7_mayFlow_7 rfl (lv_at hl 2 rfl) ?_
    refine lv_ishl hx hb dX7_mayFlow_8 ?_
    refine lv_iand hx hb dX7_mayFlow_9 ?_
    refine lv_if_eq (tgt := 17) hx hb dX7_mayFlow_10 (by decide) (fun c3 => ?_) (fun c3 => ?_)
    · have hF := mo_ifT c3 hF
      refine lv_iconst (v := (0 : Int32)) hx hb dX7_mayFlow_17 (by decide) ?_
      rw [hQ]
      exact mo_zret C A hr hlocks dX7_mayFlow_18 hF
    · have hF := mo_ifF c3 hF
      refine lv_iconst (v := (1 : Int32)) hx hb dX7_mayFlow_13 (by decide) ?_
      refine lv_goto (tgt := 18) hx hb dX7_mayFlow_14 (by decide) ?_
      rw [hQ]
      exact mo_zret C A hr hlocks dX7_mayFlow_18 hF
  exact E h0 s.heap [] hF A
set_option maxHeartbeats 4000000 in
set_option maxRecDepth 100000 in
theorem c_X5_look (l : Launch) (D : va_G) (dA : Nat → ClassId) (b0 : Nat) (x0 : Nat) (x1 : Int32) (x2 : Int32) : mo_Met l yX5_look [Cond.code yX5_look cX5_look 5 (some .boolean)] 1 22 D dA b0 [.ref x0, .int x1, .int x2] (fun r : Int32 => some (.int r)) (F_X5_look x0 x1 x2) := by
  refine mo_MetOf (own := RX5) (by decide) (Nat.le_of_ble_eq_true rfl) [(0, .ref x0), (1, .int x1), (2, .int x2)] rfl rfl ?_
  intro p e R s m args below meth c Q h0 h2 z ls hQ C hml hr hlocks hnm hfr hlo hF A hl
  have hx := C.1
  have hb := C.2.1
  have hown := C.2.2.1
  have hts := C.2.2.2.1
  have hK := C.2.2.2.2.1
  have iX3 := inlX3
  have iX5 := inlX5
  unfold F_X5_look at hF
  obtain ⟨-, hF⟩ := mo_ckE hF
  have E : ∀ (h : mo_H) (H : Heap) (locs : List Loc), (mo_b (F_X10_partB x2) fun v1 => mo_b (mo_gR x0 5 1) fun v2 => mo_b (mo_lq 4 v2 x1) fun v3 => mo_b (F_X10_partC x2) fun v4 => mo_b (F_X3_read v3 v4) fun v5 => mo_b (mo_gR x0 5 0) fun v6 => mo_b (F_X7_hasDomain v6 v1) fun v7 => (if v7 = 0 then mo_rz (0 : Int32) else mo_b (mo_gR x0 5 0) fun v9 => mo_b (F_X7_mayFlow v9 v1 x1) fun v10 => (if v10 = 0 then mo_rz (0 : Int32) else mo_b (F_X3_hasCells v5 (1 : Int32)) fun v12 => (if v12 = 0 then mo_rz (0 : Int32) else mo_b (mo_gR x0 5 1) fun v14 => mo_b (mo_lq 4 v14 x1) fun v15 => mo_b (F_X10_partA x2) fun v16 => mo_b (mo_gR x0 5 1) fun v17 => mo_b (mo_lq 4 v17 v1) fun v18 => mo_b (mo_gR v18 3 1) fun v19 => mo_b (mo_la 0 v19 v5) fun v20 => mo_b (F_X3_write v15 v16 v20) fun v21 => mo_rz (1 : Int32))))).1 h = some (z, h2) → mo_A D dA b0 s.heap h0 h H locs → W p l e R s m args below meth c H locs (h.2.1 - h0.2.1) (h.2.2 - h0.2.2) Q (F0 m 0 ls []) := by
    intro h H locs hF A
    refine lv_iload_n hx hb dX5_look_0 rfl (lv_at hl 2 rfl) ?_
    refine mo_cN (n := 1) (As := [.int x2]) (rest := []) C A hml hl.1 (c_X10_partB l D dA b0 x2) (tb_o tb_389) (List.mem_of_getElem? (i := 88) rfl) tb_2 tb_388 rfl (by decide +kernel) ⟨Nat.le_trans (by decide) hfr, Nat.le_trans (Nat.le_of_ble_eq_true rfl) hlo⟩ rfl (Nat.le_of_ble_eq_true rfl) rfl dX5_look_1 hF (fun v1 h H locs hF A => ?_)
    show W _ _ _ _ _ _ _ _ _ _ _ _ _ _ _ (F0 m 4 ls [.int v1])
    refine lv_istore_n (lv' := [(3, .int v1), (0, .ref x0), (1, .int x1), (2, .int x2)]) hx hb dX5_look_4 rfl hl (by decide) rfl (fun ls hl => ?_)
    refine lv_aload_n hx hb dX5_look_5 rfl (lv_at hl 1 rfl) ?_
    refine mo_wR C A (T := TX5) iX5 rfl 1 (by decide) tb_63 rfl dX5_look_6 hF (fun v2 hF => ?_)
    refine lv_iload_n hx hb dX5_look_9 rfl (lv_at hl 2 rfl) ?_
    refine mo_wlq C A (t := 4) (fun _ => rfl) dX5_look_10 hF (fun v3 hF => ?_)
    refine lv_iload_n hx hb dX5_look_11 rfl (lv_at hl 3 rfl) ?_
    refine mo_cN (n := 1) (As := [.int x2]) (rest := [.ref v3]) C A hml hl.1 (c_X10_partC l D dA b0 x2) (tb_o tb_433) (List.mem_of_getElem? (i := 89) rfl) tb_2 tb_432 rfl (by decide +kernel) ⟨Nat.le_trans (by decide) hfr, Nat.le_trans (Nat.le_of_ble_eq_true rfl) hlo⟩ rfl (Nat.le_of_ble_eq_true rfl) rfl dX5_look_12 hF (fun v4 h H locs hF A => ?_)
    show W _ _ _ _ _ _ _ _ _ _ _ _ _ _ _ (F0 m 15 ls [.int v4, .ref v3])
    refine mo_cV (n := 1) (As := [.int v4]) (rest := []) C A hml hl.1 (c_X3_read l D dA b0 v3 v4) (ci := 3) (q := (RX3, TX3, 9)) rfl (fun _ e => (mo_ckE e).1) (tb_v tb_446 tb_391 tb_392 tb_65 tb_393) rfl (by decide +kernel) ⟨Nat.le_trans (by decide) hfr, Nat.le_trans (Nat.le_of_ble_eq_true rfl) hlo⟩ rfl (Nat.le_of_ble_eq_true rfl) rfl dX5_look_15 hF (fun v5 h H locs hF A => ?_)
    show W _ _ _ _ _ _ _ _ _ _ _ _ _ _ _ (F0 m 18 ls [.int v5])
    refine lv_istore (lv' := [(4, .int v5), (3, .int v1), (0, .ref x0), (1, .int x1), (2, .int x2)]) hx hb dX5_look_18 hl (by decide) rfl (fun ls hl => ?_)
    refine lv_aload_n hx hb dX5_look_20 rfl (lv_at hl 2 rfl) ?_
    refine mo_wR C A (T := TX5) iX5 rfl 0 (by decide) tb_61 rfl dX5_look_21 hF (fun v6 hF => ?_)
    refine lv_iload_n hx hb dX5_look_24 rfl (lv_at hl 1 rfl) ?_
    refine mo_cV (n := 1) (As := [.int v1]) (rest := []) C A hml hl.1 (c_X7_hasDomain l D dA b0 v6 v1) (ci := 7) (q := (RX7, TX7, 9)) rfl (fun _ e => (mo_ckE e).1) (tb_v tb_488 tb_180 tb_181 tb_18 tb_182) rfl (by decide +kernel) ⟨Nat.le_trans (by decide) hfr, Nat.le_trans (Nat.le_of_ble_eq_true rfl) hlo⟩ rfl (Nat.le_of_ble_eq_true rfl) rfl dX5_look_25 hF (fun v7 h H locs hF A => ?_)
    show W _ _ _ _ _ _ _ _ _ _ _ _ _ _ _ (F0 m 28 ls [.int v7])
    refine lv_if_eq (tgt := 52) hx hb dX5_look_28 (by decide) (fun c8 => ?_) (fun c8 => ?_)
    · have hF := mo_ifT c8 hF
      refine lv_iconst (v := (0 : Int32)) hx hb dX5_look_52 (by decide) ?_
      rw [hQ]
      exact mo_zret C A hr hlocks dX5_look_53 hF
    · have hF := mo_ifF c8 hF
      refine lv_aload_n hx hb dX5_look_31 rfl (lv_at hl 2 rfl) ?_
      refine mo_wR C A (T := TX5) iX5 rfl 0 (by decide) tb_61 rfl dX5_look_32 hF (fun v9 hF => ?_)
      refine lv_iload_n hx hb dX5_look_35 rfl (lv_at hl 1 rfl) ?_
      refine lv_iload_n hx hb dX5_look_36 rfl (lv_at hl 3 rfl) ?_
      refine mo_cV (n := 2) (As := [.int v1, .int x1]) (rest := []) C A hml hl.1 (c_X7_mayFlow l D dA b0 v9 v1 x1) (ci := 7) (q := (RX7, TX7, 9)) rfl (fun _ e => (mo_ckE e).1) (tb_v tb_489 tb_211 tb_212 tb_18 tb_213) rfl (by decide +kernel) ⟨Nat.le_trans (by decide) hfr, Nat.le_trans (Nat.le_of_ble_eq_true rfl) hlo⟩ rfl (Nat.le_of_ble_eq_true rfl) rfl dX5_look_37 hF (fun v10 h H locs hF A => ?_)
      show W _ _ _ _ _ _ _ _ _ _ _ _ _ _ _ (F0 m 40 ls [.int v10])
      refine lv_if_eq (tgt := 52) hx hb dX5_look_40 (by decide) (fun c11 => ?_) (fun c11 => ?_)
      · have hF := mo_ifT c11 hF
        refine lv_iconst (v := (0 : Int32)) hx hb dX5_look_52 (by decide) ?_
        rw [hQ]
        exact mo_zret C A hr hlocks dX5_look_53 hF
      · have hF := mo_ifF c11 hF
        refine lv_iload hx hb dX5_look_43 (lv_at hl 0 rfl) ?_
        refine lv_iconst (v := (1 : Int32)) hx hb dX5_look_45 (by decide) ?_
        refine mo_cS (n := 2) (As := [.int v5, .int (1 : Int32)]) (rest := []) C A hml hl.1 (c_X3_hasCells l D dA b0 v5 (1 : Int32)) (tb_s tb_447 tb_399 tb_65 tb_400) rfl (by decide +kernel) ⟨Nat.le_trans (by decide) hfr, Nat.le_trans (Nat.le_of_ble_eq_true rfl) hlo⟩ rfl (Nat.le_of_ble_eq_true rfl) rfl dX5_look_46 hF (fun v12 h H locs hF A => ?_)
        show W _ _ _ _ _ _ _ _ _ _ _ _ _ _ _ (F0 m 49 ls [.int v12])
        refine lv_if_ne (tgt := 54) hx hb dX5_look_49 (by decide) (fun c13 => ?_) (fun c13 => ?_)
        · have hF := mo_ifF c13 hF
          refine lv_aload_n hx hb dX5_look_54 rfl (lv_at hl 2 rfl) ?_
          refine mo_wR C A (T := TX5) iX5 rfl 1 (by decide) tb_63 rfl dX5_look_55 hF (fun v14 hF => ?_)
          refine lv_iload_n hx hb dX5_look_58 rfl (lv_at hl 3 rfl) ?_
          refine mo_wlq C A (t := 4) (fun _ => rfl) dX5_look_59 hF (fun v15 hF => ?_)
          refine lv_iload_n hx hb dX5_look_60 rfl (lv_at hl 4 rfl) ?_
          refine mo_cN (n := 1) (As := [.int x2]) (rest := [.ref v15]) C A hml hl.1 (c_X10_partA l D dA b0 x2) (tb_o tb_387) (List.mem_of_getElem? (i := 87) rfl) tb_2 tb_386 rfl (by decide +kernel) ⟨Nat.le_trans (by decide) hfr, Nat.le_trans (Nat.le_of_ble_eq_true rfl) hlo⟩ rfl (Nat.le_of_ble_eq_true rfl) rfl dX5_look_61 hF (fun v16 h H locs hF A => ?_)
          show W _ _ _ _ _ _ _ _ _ _ _ _ _ _ _ (F0 m 64 ls [.int v16, .ref v15])
          refine lv_aload_n hx hb dX5_look_64 rfl (lv_at hl 2 rfl) ?_
          refine mo_wR C A (T := TX5) iX5 rfl 1 (by decide) tb_63 rfl dX5_look_65 hF (fun v17 hF => ?_)
          refine lv_iload_n hx hb dX5_look_68 rfl (lv_at hl 1 rfl) ?_
          refine mo_wlq C A (t := 4) (fun _ => rfl) dX5_look_69 hF (fun v18 hF => ?_)
          refine mo_wRN C A (T := TX3) iX3 rfl 1 (by decide) (List.mem_of_getElem? (i := 21) rfl) rfl dX5_look_70 hF (fun v19 hF => ?_)
          refine lv_iload hx hb dX5_look_73 (lv_at hl 0 rfl) ?_
          refine mo_wla C A dX5_look_75 hF (fun v20 hF => ?_)
          refine mo_cV (n := 2) (As := [.int v16, .int v20]) (rest := []) C A hml hl.1 (c_X3_write l D dA b0 v15 v16 v20) (ci := 3) (q := (RX3, TX3, 9)) rfl (fun _ e => (mo_ckE e).1) (tb_v tb_483 tb_402 tb_403 tb_65 tb_404) rfl (by decide +kernel) ⟨Nat.le_trans (by decide) hfr, Nat.le_trans (Nat.le_of_ble_eq_true rfl) hlo⟩ rfl (Nat.le_of_ble_eq_true rfl) rfl dX5_look_76 hF (fun v21 h H locs hF A => ?_)
          show W _ _ _ _ _ _ _ _ _ _ _ _ _ _ _ (F0 m 79 ls [])
          refine lv_iconst (v := (1 : Int32)) hx hb dX5_look_79 (by decide) ?_
          rw [hQ]
          exact mo_zret C A hr hlocks dX5_look_80 hF
        · have hF := mo_ifT c13 hF
          refine lv_iconst (v := (0 : Int32)) hx hb dX5_look_52 (by decide) ?_
          rw [hQ]
          exact mo_zret C A hr hlocks dX5_look_53 hF
  exact E h0 s.heap [] hF A
set_option maxHeartbeats 4000000 in
set_option maxRecDepth 100000 in
theorem c_X5_channelOfKind (l : Launch) (D : va_G) (dA : Nat → ClassId) (b0 : Nat) (x0 : Nat) (x1 : Int32) (x2 : Int32) : mo_Met l yX5_channelOfKind [Cond.code yX5_channelOfKind cX5_channelOfKind 3 (some (.object "SplitKernel$Channel"))] 0 0 D dA b0 [.ref x0, .int x1, .int x2] (fun r : Option Nat => some (va_rf r)) (F_X5_channelOfKind x0 x1 x2) := by
  refine mo_MetOf (own := RX5) (by decide) (Nat.le_of_ble_eq_true rfl) [(0, .ref x0), (1, .int x1), (2, .int x2)] rfl rfl ?_
  intro p e R s m args below meth c Q h0 h2 z ls hQ C hml hr hlocks hnm hfr hlo hF A hl
  have hx := C.1
  have hb := C.2.1
  have hown := C.2.2.1
  have hts := C.2.2.2.1
  have hK := C.2.2.2.2.1
  have iX4 := inlX4
  have iX5 := inlX5
  have iX7 := inlX7
  have J37 : ∀   (s0 : Option Nat) (h : mo_H) (H : Heap) (locs : List Loc) (ls : Array Slot), mo_A D dA b0 s.heap h0 h H locs → lv_has ls 3 [] → (F_X5_channelOfKind_37 s0).1 h = some (z, h2) → W p l e R s m args below meth c H locs (h.2.1 - h0.2.1) (h.2.2 - h0.2.2) Q (F0 m 37 ls [va_rf s0]) := by
    intro  s0 h H locs ls A hl hF
    unfold F_X5_channelOfKind_37 at hF
    rw [hQ]
    exact mo_qret C A hr (by first | exact Or.inl ⟨_, rfl⟩ | exact Or.inr ⟨_, rfl⟩) hlocks dX5_channelOfKind_37 hF
  have J36 : ∀    (h : mo_H) (H : Heap) (locs : List Loc) (ls : Array Slot), mo_A D dA b0 s.heap h0 h H locs → lv_has ls 3 [] → (F_X5_channelOfKind_36).1 h = some (z, h2) → W p l e R s m args below meth c H locs (h.2.1 - h0.2.1) (h.2.2 - h0.2.2) Q (F0 m 36 ls []) := by
    intro   h H locs ls A hl hF
    unfold F_X5_channelOfKind_36 at hF
    refine lv_null hx hb dX5_channelOfKind_36 ?_
    exact J37 none h H locs ls A (lv_sub hl [] rfl) hF
  unfold F_X5_channelOfKind at hF
  obtain ⟨-, hF⟩ := mo_ckE hF
  have E : ∀ (h : mo_H) (H : Heap) (locs : List Loc), (mo_b (mo_gR x0 5 0) fun v1 => mo_b (mo_gI v1 7 3) fun v2 => (if v2 ≤ x1 then F_X5_channelOfKind_36 else mo_b (mo_gR x0 5 0) fun v4 => mo_b (mo_gR v4 7 2) fun v5 => mo_b (mo_lq 3 v5 x1) fun v6 => mo_b (mo_gI v6 4 2) fun v7 => (if v7 = x2 then mo_b (mo_gR x0 5 2) fun v9 => mo_b (mo_lq 5 v9 x1) fun v10 => F_X5_channelOfKind_37 (some v10) else F_X5_channelOfKind_36))).1 h = some (z, h2) → mo_A D dA b0 s.heap h0 h H locs → W p l e R s m args below meth c H locs (h.2.1 - h0.2.1) (h.2.2 - h0.2.2) Q (F0 m 0 ls []) := by
    intro h H locs hF A
    refine lv_iload_n hx hb dX5_channelOfKind_0 rfl (lv_at hl 1 rfl) ?_
    refine lv_aload_n hx hb dX5_channelOfKind_1 rfl (lv_at hl 0 rfl) ?_
    refine mo_wR C A (T := TX5) iX5 rfl 0 (by decide) tb_61 rfl dX5_channelOfKind_2 hF (fun v1 hF => ?_)
    refine mo_wIN C A (T := TX7) iX7 rfl 3 (by decide) (List.mem_of_getElem? (i := 10) rfl) rfl dX5_channelOfKind_5 hF (fun v2 hF => ?_)
    refine lv_icmp_ge (tgt := 36) hx hb dX5_channelOfKind_8 (by decide) (fun c3 => ?_) (fun c3 => ?_)
    · have hF := mo_ifT c3 hF
      exact J36 h H locs ls A (lv_sub hl [] rfl) hF
    · have hF := mo_ifF c3 hF
      refine lv_aload_n hx hb dX5_channelOfKind_11 rfl (lv_at hl 0 rfl) ?_
      refine mo_wR C A (T := TX5) iX5 rfl 0 (by decide) tb_61 rfl dX5_channelOfKind_12 hF (fun v4 hF => ?_)
      refine mo_wRN C A (T := TX7) iX7 rfl 2 (by decide) (List.mem_of_getElem? (i := 8) rfl) rfl dX5_channelOfKind_15 hF (fun v5 hF => ?_)
      refine lv_iload_n hx hb dX5_channelOfKind_18 rfl (lv_at hl 1 rfl) ?_
      refine mo_wlq C A (t := 3) (fun _ => rfl) dX5_channelOfKind_19 hF (fun v6 hF => ?_)
      refine mo_wIN C A (T := TX4) iX4 rfl 2 (by decide) (List.mem_of_getElem? (i := 73) rfl) rfl dX5_channelOfKind_20 hF (fun v7 hF => ?_)
      refine lv_iload_n hx hb dX5_channelOfKind_23 rfl (lv_at hl 2 rfl) ?_
      refine lv_icmp_ne (tgt := 36) hx hb dX5_channelOfKind_24 (by decide) (fun c8 => ?_) (fun c8 => ?_)
      · have hF := mo_ifF c8 hF
        exact J36 h H locs ls A (lv_sub hl [] rfl) hF
      · have hF := mo_ifT c8 hF
        refine lv_aload_n hx hb dX5_channelOfKind_27 rfl (lv_at hl 0 rfl) ?_
        refine mo_wR C A (T := TX5) iX5 rfl 2 (by decide) tb_67 rfl dX5_channelOfKind_28 hF (fun v9 hF => ?_)
        refine lv_iload_n hx hb dX5_channelOfKind_31 rfl (lv_at hl 1 rfl) ?_
        refine mo_wlq C A (t := 5) (fun _ => rfl) dX5_channelOfKind_32 hF (fun v10 hF => ?_)
        refine lv_goto (tgt := 37) hx hb dX5_channelOfKind_33 (by decide) ?_
        exact J37 (some v10) h H locs ls A (lv_sub hl [] rfl) hF
  exact E h0 s.heap [] hF A
set_option maxHeartbeats 4000000 in
set_option maxRecDepth 100000 in
theorem c_X5_seeBoard (l : Launch) (D : va_G) (dA : Nat → ClassId) (b0 : Nat) (x0 : Nat) (x1 : Int32) (x2 : Int32) : mo_Met l yX5_seeBoard [Cond.code yX5_seeBoard cX5_seeBoard 6 (some .boolean)] 1 22 D dA b0 [.ref x0, .int x1, .int x2] (fun r : Int32 => some (.int r)) (F_X5_seeBoard x0 x1 x2) := by
  refine mo_MetOf (own := RX5) (by decide) (Nat.le_of_ble_eq_true rfl) [(0, .ref x0), (1, .int x1), (2, .int x2)] rfl rfl ?_
  intro p e R s m args below meth c Q h0 h2 z ls hQ C hml hr hlocks hnm hfr hlo hF A hl
  have hx := C.1
  have hb := C.2.1
  have hown := C.2.2.1
  have hts := C.2.2.2.1
  have hK := C.2.2.2.2.1
  have iX1 := inlX1
  have iX2 := inlX2
  have iX3 := inlX3
  have iX4 := inlX4
  have iX5 := inlX5
  unfold F_X5_seeBoard at hF
  obtain ⟨-, hF⟩ := mo_ckE hF
  have E : ∀ (h : mo_H) (H : Heap) (locs : List Loc), (mo_b (mo_gR x0 5 1) fun v1 => mo_b (mo_lq 4 v1 x1) fun v2 => mo_b (F_X10_partA x2) fun v3 => mo_b (F_X5_channelOfKind x0 v3 (1 : Int32)) fun v4 => mo_b (F_X10_partB x2) fun v5 => mo_b (F_X3_read v2 v5) fun v6 => (mo_mO v4 (mo_rz (0 : Int32)) (fun a7 => mo_b (mo_gR a7 1 0) fun v8 => mo_b (mo_gI v8 4 1) fun v9 => (if v9 = x1 then mo_b (mo_gR a7 1 0) fun v11 => mo_b (mo_gI v11 4 3) fun v12 => mo_b (F_X3_hasCells v6 v12) fun v13 => (if v13 = 0 then mo_rz (0 : Int32) else mo_b (mo_gR a7 1 5) fun v15 => mo_b (mo_gR v2 3 1) fun v16 => mo_b (mo_gR a7 1 0) fun v17 => mo_b (mo_gI v17 4 3) fun v18 => mo_b (mo_cp v15 (0 : Int32) v16 v6 v18) fun _ => mo_b (mo_gR x0 5 3) fun v19 => mo_b (mo_gI v19 2 1) fun v20 => mo_b (F_X1_age a7 v20) fun v21 => mo_b (F_X3_report v2 v21) fun v22 => mo_rz (1 : Int32)) else mo_rz (0 : Int32))))).1 h = some (z, h2) → mo_A D dA b0 s.heap h0 h H locs → W p l e R s m args below meth c H locs (h.2.1 - h0.2.1) (h.2.2 - h0.2.2) Q (F0 m 0 ls []) := by
    intro h H locs hF A
    refine lv_aload_n hx hb dX5_seeBoard_0 rfl (lv_at hl 0 rfl) ?_
    refine mo_wR C A (T := TX5) iX5 rfl 1 (by decide) tb_63 rfl dX5_seeBoard_1 hF (fun v1 hF => ?_)
    refine lv_iload_n hx hb dX5_seeBoard_4 rfl (lv_at hl 1 rfl) ?_
    refine mo_wlq C A (t := 4) (fun _ => rfl) dX5_seeBoard_5 hF (fun v2 hF => ?_)
    refine lv_astore_n (lv' := [(3, .ref v2), (0, .ref x0), (1, .int x1), (2, .int x2)]) hx hb dX5_seeBoard_6 rfl hl (by decide) rfl (fun ls hl => ?_)
    refine lv_aload_n hx hb dX5_seeBoard_7 rfl (lv_at hl 1 rfl) ?_
    refine lv_iload_n hx hb dX5_seeBoard_8 rfl (lv_at hl 3 rfl) ?_
    refine mo_cN (n := 1) (As := [.int x2]) (rest := [.ref x0]) C A hml hl.1 (c_X10_partA l D dA b0 x2) (tb_o tb_387) (List.mem_of_getElem? (i := 87) rfl) tb_2 tb_386 rfl (by decide +kernel) ⟨Nat.le_trans (by decide) hfr, Nat.le_trans (Nat.le_of_ble_eq_true rfl) hlo⟩ rfl (Nat.le_of_ble_eq_true rfl) rfl dX5_seeBoard_9 hF (fun v3 h H locs hF A => ?_)
    show W _ _ _ _ _ _ _ _ _ _ _ _ _ _ _ (F0 m 12 ls [.int v3, .ref x0])
    refine lv_iconst (v := (1 : Int32)) hx hb dX5_seeBoard_12 (by decide) ?_
    refine mo_cV (n := 2) (As := [.int v3, .int (1 : Int32)]) (rest := []) C A hml hl.1 (c_X5_channelOfKind l D dA b0 x0 v3 (1 : Int32)) (ci := 5) (q := (RX5, TX5, 5)) rfl (fun _ e => (mo_ckE e).1) (tb_v tb_442 tb_443 tb_444 tb_29 tb_445) rfl (by decide +kernel) ⟨Nat.le_trans (by decide) hfr, Nat.le_trans (Nat.le_of_ble_eq_true rfl) hlo⟩ rfl (Nat.le_of_ble_eq_true rfl) rfl dX5_seeBoard_13 hF (fun v4 h H locs hF A => ?_)
    show W _ _ _ _ _ _ _ _ _ _ _ _ _ _ _ (F0 m 16 ls [va_rf v4])
    refine mo_ast (lv' := [(4, va_rf v4), (3, .ref v2), (0, .ref x0), (1, .int x1), (2, .int x2)]) hx hb dX5_seeBoard_16 hl (by decide) rfl (fun ls hl => ?_)
    refine lv_aload_n hx hb dX5_seeBoard_18 rfl (lv_at hl 1 rfl) ?_
    refine lv_iload_n hx hb dX5_seeBoard_19 rfl (lv_at hl 4 rfl) ?_
    refine mo_cN (n := 1) (As := [.int x2]) (rest := [.ref v2]) C A hml hl.1 (c_X10_partB l D dA b0 x2) (tb_o tb_389) (List.mem_of_getElem? (i := 88) rfl) tb_2 tb_388 rfl (by decide +kernel) ⟨Nat.le_trans (by decide) hfr, Nat.le_trans (Nat.le_of_ble_eq_true rfl) hlo⟩ rfl (Nat.le_of_ble_eq_true rfl) rfl dX5_seeBoard_20 hF (fun v5 h H locs hF A => ?_)
    show W _ _ _ _ _ _ _ _ _ _ _ _ _ _ _ (F0 m 23 ls [.int v5, .ref v2])
    refine mo_cV (n := 1) (As := [.int v5]) (rest := []) C A hml hl.1 (c_X3_read l D dA b0 v2 v5) (ci := 3) (q := (RX3, TX3, 9)) rfl (fun _ e => (mo_ckE e).1) (tb_v tb_446 tb_391 tb_392 tb_65 tb_393) rfl (by decide +kernel) ⟨Nat.le_trans (by decide) hfr, Nat.le_trans (Nat.le_of_ble_eq_true rfl) hlo⟩ rfl (Nat.le_of_ble_eq_true rfl) rfl dX5_seeBoard_23 hF (fun v6 h H locs hF A => ?_)
    show W _ _ _ _ _ _ _ _ _ _ _ _ _ _ _ (F0 m 26 ls [.int v6])
    refine lv_istore (lv' := [(5, .int v6), (4, va_rf v4), (3, .ref v2), (0, .ref x0), (1, .int x1), (2, .int x2)]) hx hb dX5_seeBoard_26 hl (by decide) (by cases v4 <;> rfl) (fun ls hl => ?_)
    refine mo_ald hx hb dX5_seeBoard_28 (lv_at hl 1 rfl) ?_
    rcases v4 with _ | a7
    · refine lv_ifnullN (tgt := 61) hx hb dX5_seeBoard_30 (by decide) ?_
      refine lv_iconst (v := (0 : Int32)) hx hb dX5_seeBoard_61 (by decide) ?_
      rw [hQ]
      exact mo_zret C A hr hlocks dX5_seeBoard_62 hF
    · refine lv_ifnull hx hb dX5_seeBoard_30 ?_
      refine lv_aload hx hb dX5_seeBoard_33 (lv_at hl 1 rfl) ?_
      refine mo_wRN C A (T := TX1) iX1 rfl 0 (by decide) (List.mem_of_getElem? (i := 34) rfl) rfl dX5_seeBoard_35 hF (fun v8 hF => ?_)
      refine mo_wIN C A (T := TX4) iX4 rfl 1 (by decide) (List.mem_of_getElem? (i := 70) rfl) rfl dX5_seeBoard_38 hF (fun v9 hF => ?_)
      refine lv_iload_n hx hb dX5_seeBoard_41 rfl (lv_at hl 4 rfl) ?_
      refine lv_icmp_ne (tgt := 61) hx hb dX5_seeBoard_42 (by decide) (fun c10 => ?_) (fun c10 => ?_)
      · have hF := mo_ifF c10 hF
        refine lv_iconst (v := (0 : Int32)) hx hb dX5_seeBoard_61 (by decide) ?_
        rw [hQ]
        exact mo_zret C A hr hlocks dX5_seeBoard_62 hF
      · have hF := mo_ifT c10 hF
        refine lv_iload hx hb dX5_seeBoard_45 (lv_at hl 0 rfl) ?_
        refine lv_aload hx hb dX5_seeBoard_47 (lv_at hl 1 rfl) ?_
        refine mo_wRN C A (T := TX1) iX1 rfl 0 (by decide) (List.mem_of_getElem? (i := 34) rfl) rfl dX5_seeBoard_49 hF (fun v11 hF => ?_)
        refine mo_wIN C A (T := TX4) iX4 rfl 3 (by decide) (List.mem_of_getElem? (i := 76) rfl) rfl dX5_seeBoard_52 hF (fun v12 hF => ?_)
        refine mo_cS (n := 2) (As := [.int v6, .int v12]) (rest := []) C A hml hl.1 (c_X3_hasCells l D dA b0 v6 v12) (tb_s tb_447 tb_399 tb_65 tb_400) rfl (by decide +kernel) ⟨Nat.le_trans (by decide) hfr, Nat.le_trans (Nat.le_of_ble_eq_true rfl) hlo⟩ rfl (Nat.le_of_ble_eq_true rfl) rfl dX5_seeBoard_55 hF (fun v13 h H locs hF A => ?_)
        show W _ _ _ _ _ _ _ _ _ _ _ _ _ _ _ (F0 m 58 ls [.int v13])
        refine lv_if_ne (tgt := 63) hx hb dX5_seeBoard_58 (by decide) (fun c14 => ?_) (fun c14 => ?_)
        · have hF := mo_ifF c14 hF
          refine lv_aload hx hb dX5_seeBoard_63 (lv_at hl 1 rfl) ?_
          refine mo_wRN C A (T := TX1) iX1 rfl 5 (by decide) (List.mem_of_getElem? (i := 42) rfl) rfl dX5_seeBoard_65 hF (fun v15 hF => ?_)
          refine lv_iconst (v := (0 : Int32)) hx hb dX5_seeBoard_68 (by decide) ?_
          refine lv_aload_n hx hb dX5_seeBoard_69 rfl (lv_at hl 2 rfl) ?_
          refine mo_wRN C A (T := TX3) iX3 rfl 1 (by decide) (List.mem_of_getElem? (i := 21) rfl) rfl dX5_seeBoard_70 hF (fun v16 hF => ?_)
          refine lv_iload hx hb dX5_seeBoard_73 (lv_at hl 0 rfl) ?_
          refine lv_aload hx hb dX5_seeBoard_75 (lv_at hl 1 rfl) ?_
          refine mo_wRN C A (T := TX1) iX1 rfl 0 (by decide) (List.mem_of_getElem? (i := 34) rfl) rfl dX5_seeBoard_77 hF (fun v17 hF => ?_)
          refine mo_wIN C A (T := TX4) iX4 rfl 3 (by decide) (List.mem_of_getElem? (i := 76) rfl) rfl dX5_seeBoard_80 hF (fun v18 hF => ?_)
          refine mo_wcp C A (by rw [hml]; exact hl.1.symm) tb_472 tb_248 tb_249 tb_250 (Nat.le_trans (by decide) hfr) (Nat.le_trans (Nat.le_of_ble_eq_true rfl) hlo) dX5_seeBoard_83 hF (fun h H locs hF A => ?_)
          refine lv_aload_n hx hb dX5_seeBoard_86 rfl (lv_at hl 2 rfl) ?_
          refine lv_aload hx hb dX5_seeBoard_87 (lv_at hl 1 rfl) ?_
          refine lv_aload_n hx hb dX5_seeBoard_89 rfl (lv_at hl 3 rfl) ?_
          refine mo_wR C A (T := TX5) iX5 rfl 3 (by decide) tb_73 rfl dX5_seeBoard_90 hF (fun v19 hF => ?_)
          refine mo_wIN C A (T := TX2) iX2 rfl 1 (by decide) (List.mem_of_getElem? (i := 46) rfl) rfl dX5_seeBoard_93 hF (fun v20 hF => ?_)
          refine mo_cV (n := 1) (As := [.int v20]) (rest := [.ref v2]) C A hml hl.1 (c_X1_age l D dA b0 a7 v20) (ci := 1) (q := (RX1, TX1, 8)) rfl (fun _ e => (mo_ckE e).1) (tb_v tb_477 tb_478 tb_479 tb_69 tb_480) rfl (by decide +kernel) ⟨Nat.le_trans (by decide) hfr, Nat.le_trans (Nat.le_of_ble_eq_true rfl) hlo⟩ rfl (Nat.le_of_ble_eq_true rfl) rfl dX5_seeBoard_96 hF (fun v21 h H locs hF A => ?_)
          show W _ _ _ _ _ _ _ _ _ _ _ _ _ _ _ (F0 m 99 ls [.int v21, .ref v2])
          refine mo_cV (n := 1) (As := [.int v21]) (rest := []) C A hml hl.1 (c_X3_report l D dA b0 v2 v21) (ci := 3) (q := (RX3, TX3, 9)) rfl (fun _ e => (mo_ckE e).1) (tb_v tb_448 tb_419 tb_420 tb_65 tb_421) rfl (by decide +kernel) ⟨Nat.le_trans (by decide) hfr, Nat.le_trans (Nat.le_of_ble_eq_true rfl) hlo⟩ rfl (Nat.le_of_ble_eq_true rfl) rfl dX5_seeBoard_99 hF (fun v22 h H locs hF A => ?_)
          show W _ _ _ _ _ _ _ _ _ _ _ _ _ _ _ (F0 m 102 ls [])
          refine lv_iconst (v := (1 : Int32)) hx hb dX5_seeBoard_102 (by decide) ?_
          rw [hQ]
          exact mo_zret C A hr hlocks dX5_seeBoard_103 hF
        · have hF := mo_ifT c14 hF
          refine lv_iconst (v := (0 : Int32)) hx hb dX5_seeBoard_61 (by decide) ?_
          rw [hQ]
          exact mo_zret C A hr hlocks dX5_seeBoard_62 hF
  exact E h0 s.heap [] hF A
