set_option maxHeartbeats 4000000 in
set_option maxRecDepth 100000 in
theorem c_X5_passWithStep (l : Launch) (D : va_G) (dA : Nat → ClassId) (b0 : Nat) (x0 : Nat) : mo_Met l yX5_passWithStep [Cond.code yX5_passWithStep cX5_passWithStep 1 none] 6 137 D dA b0 [.ref x0] (fun _ : Unit => none) (F_X5_passWithStep x0) := by
  refine mo_MetOf (own := RX5) (by decide) (Nat.le_of_ble_eq_true rfl) [(0, .ref x0)] rfl rfl ?_
  intro p e R s m args below meth c Q h0 h2 z ls hQ C hml hr hlocks hnm hfr hlo hF A hl
  have hx := C.1
  have hb := C.2.1
  have hown := C.2.2.1
  have hts := C.2.2.2.1
  have hK := C.2.2.2.2.1
  have iX5 := inlX5
  unfold F_X5_passWithStep at hF
  obtain ⟨-, hF⟩ := mo_ckE hF
  have E : ∀ (h : mo_H) (H : Heap) (locs : List Loc), (mo_b (F_X5_beginTick x0) fun v1 => mo_b (mo_gR x0 5 3) fun v2 => mo_b (F_X2_slotDomain v2) fun v3 => mo_b (F_X5_makeStep x0 v3) fun v4 => mo_b (F_X5_endTick x0) fun v5 => mo_ret ()).1 h = some (z, h2) → mo_A D dA b0 s.heap h0 h H locs → W p l e R s m args below meth c H locs (h.2.1 - h0.2.1) (h.2.2 - h0.2.2) Q (F0 m 0 ls []) := by
    intro h H locs hF A
    refine lv_aload_n hx hb dX5_passWithStep_0 rfl (lv_at hl 0 rfl) ?_
    refine mo_cV (n := 0) (As := []) (rest := []) C A hml hl.1 (c_X5_beginTick l D dA b0 x0) (ci := 5) (q := (RX5, TX5, 5)) rfl (fun _ e => (mo_ckE e).1) (tb_v tb_352 tb_353 tb_354 tb_29 tb_355) rfl (by decide +kernel) ⟨Nat.le_trans (by decide) hfr, Nat.le_trans (Nat.le_of_ble_eq_true rfl) hlo⟩ rfl (Nat.le_of_ble_eq_true rfl) rfl dX5_passWithStep_1 hF (fun v1 h H locs hF A => ?_)
    show W _ _ _ _ _ _ _ _ _ _ _ _ _ _ _ (F0 m 4 ls [])
    refine lv_aload_n hx hb dX5_passWithStep_4 rfl (lv_at hl 0 rfl) ?_
    refine lv_aload_n hx hb dX5_passWithStep_5 rfl (lv_at hl 0 rfl) ?_
    refine mo_wR C A (T := TX5) iX5 rfl 3 (by decide) tb_73 rfl dX5_passWithStep_6 hF (fun v2 hF => ?_)
    refine mo_cV (n := 0) (As := []) (rest := [.ref x0]) C A hml hl.1 (c_X2_slotDomain l D dA b0 v2) (ci := 2) (q := (RX2, TX2, 6)) rfl (fun _ e => (mo_ckE e).1) (tb_v tb_338 tb_339 tb_340 tb_72 tb_341) rfl (by decide +kernel) ⟨Nat.le_trans (by decide) hfr, Nat.le_trans (Nat.le_of_ble_eq_true rfl) hlo⟩ rfl (Nat.le_of_ble_eq_true rfl) rfl dX5_passWithStep_9 hF (fun v3 h H locs hF A => ?_)
    show W _ _ _ _ _ _ _ _ _ _ _ _ _ _ _ (F0 m 12 ls [.int v3, .ref x0])
    refine mo_cV (n := 1) (As := [.int v3]) (rest := []) C A hml hl.1 (c_X5_makeStep l D dA b0 x0 v3) (ci := 5) (q := (RX5, TX5, 5)) rfl (fun _ e => (mo_ckE e).1) (tb_v tb_371 tb_372 tb_373 tb_29 tb_374) rfl (by decide +kernel) ⟨Nat.le_trans (by decide) hfr, Nat.le_trans (Nat.le_of_ble_eq_true rfl) hlo⟩ rfl (Nat.le_of_ble_eq_true rfl) rfl dX5_passWithStep_12 hF (fun v4 h H locs hF A => ?_)
    show W _ _ _ _ _ _ _ _ _ _ _ _ _ _ _ (F0 m 15 ls [])
    refine lv_aload_n hx hb dX5_passWithStep_15 rfl (lv_at hl 0 rfl) ?_
    refine mo_cV (n := 0) (As := []) (rest := []) C A hml hl.1 (c_X5_endTick l D dA b0 x0) (ci := 5) (q := (RX5, TX5, 5)) rfl (fun _ e => (mo_ckE e).1) (tb_v tb_515 tb_516 tb_517 tb_29 tb_518) rfl (by decide +kernel) ⟨Nat.le_trans (by decide) hfr, Nat.le_trans (Nat.le_of_ble_eq_true rfl) hlo⟩ rfl (Nat.le_of_ble_eq_true rfl) rfl dX5_passWithStep_16 hF (fun v5 h H locs hF A => ?_)
    show W _ _ _ _ _ _ _ _ _ _ _ _ _ _ _ (F0 m 19 ls [])
    rw [hQ]
    exact mo_vret C A hr hlocks dX5_passWithStep_19 hF
  exact E h0 s.heap [] hF A
set_option maxHeartbeats 4000000 in
set_option maxRecDepth 100000 in
theorem c_X5_passIdle (l : Launch) (D : va_G) (dA : Nat → ClassId) (b0 : Nat) (x0 : Nat) : mo_Met l yX5_passIdle [Cond.code yX5_passIdle cX5_passIdle 1 none] 3 64 D dA b0 [.ref x0] (fun _ : Unit => none) (F_X5_passIdle x0) := by
  refine mo_MetOf (own := RX5) (by decide) (Nat.le_of_ble_eq_true rfl) [(0, .ref x0)] rfl rfl ?_
  intro p e R s m args below meth c Q h0 h2 z ls hQ C hml hr hlocks hnm hfr hlo hF A hl
  have hx := C.1
  have hb := C.2.1
  have hown := C.2.2.1
  have hts := C.2.2.2.1
  have hK := C.2.2.2.2.1
  unfold F_X5_passIdle at hF
  obtain ⟨-, hF⟩ := mo_ckE hF
  have E : ∀ (h : mo_H) (H : Heap) (locs : List Loc), (mo_b (F_X5_beginTick x0) fun v1 => mo_b (F_X5_endTick x0) fun v2 => mo_ret ()).1 h = some (z, h2) → mo_A D dA b0 s.heap h0 h H locs → W p l e R s m args below meth c H locs (h.2.1 - h0.2.1) (h.2.2 - h0.2.2) Q (F0 m 0 ls []) := by
    intro h H locs hF A
    refine lv_aload_n hx hb dX5_passIdle_0 rfl (lv_at hl 0 rfl) ?_
    refine mo_cV (n := 0) (As := []) (rest := []) C A hml hl.1 (c_X5_beginTick l D dA b0 x0) (ci := 5) (q := (RX5, TX5, 5)) rfl (fun _ e => (mo_ckE e).1) (tb_v tb_352 tb_353 tb_354 tb_29 tb_355) rfl (by decide +kernel) ⟨Nat.le_trans (by decide) hfr, Nat.le_trans (Nat.le_of_ble_eq_true rfl) hlo⟩ rfl (Nat.le_of_ble_eq_true rfl) rfl dX5_passIdle_1 hF (fun v1 h H locs hF A => ?_)
    show W _ _ _ _ _ _ _ _ _ _ _ _ _ _ _ (F0 m 4 ls [])
    refine lv_aload_n hx hb dX5_passIdle_4 rfl (lv_at hl 0 rfl) ?_
    refine mo_cV (n := 0) (As := []) (rest := []) C A hml hl.1 (c_X5_endTick l D dA b0 x0) (ci := 5) (q := (RX5, TX5, 5)) rfl (fun _ e => (mo_ckE e).1) (tb_v tb_515 tb_516 tb_517 tb_29 tb_518) rfl (by decide +kernel) ⟨Nat.le_trans (by decide) hfr, Nat.le_trans (Nat.le_of_ble_eq_true rfl) hlo⟩ rfl (Nat.le_of_ble_eq_true rfl) rfl dX5_passIdle_5 hF (fun v2 h H locs hF A => ?_)
    show W _ _ _ _ _ _ _ _ _ _ _ _ _ _ _ (F0 m 8 ls [])
    rw [hQ]
    exact mo_vret C A hr hlocks dX5_passIdle_8 hF
  exact E h0 s.heap [] hF A
set_option maxHeartbeats 4000000 in
set_option maxRecDepth 100000 in
theorem c_X5_passIdleUntil (l : Launch) (D : va_G) (dA : Nat → ClassId) (b0 : Nat) (x0 : Nat) (x1 : Int32) : mo_Met l yX5_passIdleUntil [Cond.code yX5_passIdleUntil cX5_passIdleUntil 3 none] 4 84 D dA b0 [.ref x0, .int x1] (fun _ : Unit => none) (F_X5_passIdleUntil x0 x1) := by
  refine mo_MetOf (own := RX5) (by decide) (Nat.le_of_ble_eq_true rfl) [(0, .ref x0), (1, .int x1)] rfl rfl ?_
  intro p e R s m args below meth c Q h0 h2 z ls hQ C hml hr hlocks hnm hfr hlo hF A hl
  have hx := C.1
  have hb := C.2.1
  have hown := C.2.2.1
  have hts := C.2.2.2.1
  have hK := C.2.2.2.2.1
  have iX2 := inlX2
  have iX5 := inlX5
  have J8 : ∀   (fu : Nat) (x0 : Nat) (x1 : Int32) (x2 : Int32) (h : mo_H) (H : Heap) (locs : List Loc) (ls : Array Slot), mo_A D dA b0 s.heap h0 h H locs → lv_has ls 3 [(0, .ref x0), (1, .int x1), (2, .int x2)] → (F_X5_passIdleUntil_8 fu x0 x1 x2).1 h = some (z, h2) → W p l e R s m args below meth c H locs (h.2.1 - h0.2.1) (h.2.2 - h0.2.2) Q (F0 m 8 ls []) := by
    intro  fu
    induction fu with
    | zero =>
      intro x0 x1 x2 h H locs ls A hl hF
      unfold F_X5_passIdleUntil_8 at hF
      cases hF
    | succ fu ih =>
      intro x0 x1 x2 h H locs ls A hl hF
      unfold F_X5_passIdleUntil_8 at hF
      refine lv_iload_n hx hb dX5_passIdleUntil_8 rfl (lv_at hl 2 rfl) ?_
      refine lv_iload_n hx hb dX5_passIdleUntil_9 rfl (lv_at hl 1 rfl) ?_
      refine lv_icmp_ge (tgt := 23) hx hb dX5_passIdleUntil_10 (by decide) (fun c1 => ?_) (fun c1 => ?_)
      · have hF := mo_ifT c1 hF
        rw [hQ]
        exact mo_vret C A hr hlocks dX5_passIdleUntil_23 hF
      · have hF := mo_ifF c1 hF
        refine lv_aload_n hx hb dX5_passIdleUntil_13 rfl (lv_at hl 0 rfl) ?_
        refine mo_cV (n := 0) (As := []) (rest := []) C A hml hl.1 (c_X5_passIdle l D dA b0 x0) (ci := 5) (q := (RX5, TX5, 5)) rfl (fun _ e => (mo_ckE e).1) (tb_v tb_711 tb_524 tb_525 tb_29 tb_526) rfl (by decide +kernel) ⟨Nat.le_trans (by decide) hfr, Nat.le_trans (Nat.le_of_ble_eq_true rfl) hlo⟩ rfl (Nat.le_of_ble_eq_true rfl) rfl dX5_passIdleUntil_14 hF (fun v2 h H locs hF A => ?_)
        show W _ _ _ _ _ _ _ _ _ _ _ _ _ _ _ (F0 m 17 ls [])
        refine lv_iinc (v := (x2 + (1 : Int32))) (lv' := [(2, .int (x2 + (1 : Int32))), (0, .ref x0), (1, .int x1)]) hx hb dX5_passIdleUntil_17 hl (k := 2) rfl rfl (by decide) rfl (fun ls hl => ?_)
        refine lv_goto (tgt := 8) hx hb dX5_passIdleUntil_20 (by decide) ?_
        exact ih x0 x1 (x2 + (1 : Int32)) h H locs ls A (lv_sub hl [1, 2, 0] rfl) hF
  unfold F_X5_passIdleUntil at hF
  obtain ⟨-, hF⟩ := mo_ckE hF
  have E : ∀ (h : mo_H) (H : Heap) (locs : List Loc), (mo_b (mo_gR x0 5 3) fun v3 => mo_b (mo_gI v3 2 1) fun v4 => F_X5_passIdleUntil_8 mo_fu x0 x1 v4).1 h = some (z, h2) → mo_A D dA b0 s.heap h0 h H locs → W p l e R s m args below meth c H locs (h.2.1 - h0.2.1) (h.2.2 - h0.2.2) Q (F0 m 0 ls []) := by
    intro h H locs hF A
    refine lv_aload_n hx hb dX5_passIdleUntil_0 rfl (lv_at hl 0 rfl) ?_
    refine mo_wR C A (T := TX5) iX5 rfl 3 (by decide) tb_73 rfl dX5_passIdleUntil_1 hF (fun v3 hF => ?_)
    refine mo_wIN C A (T := TX2) iX2 rfl 1 (by decide) (List.mem_of_getElem? (i := 46) rfl) rfl dX5_passIdleUntil_4 hF (fun v4 hF => ?_)
    refine lv_istore_n (lv' := [(2, .int v4), (0, .ref x0), (1, .int x1)]) hx hb dX5_passIdleUntil_7 rfl hl (by decide) rfl (fun ls hl => ?_)
    exact J8 mo_fu x0 x1 v4 h H locs ls A (lv_sub hl [1, 2, 0] rfl) hF
  exact E h0 s.heap [] hF A
set_option maxHeartbeats 4000000 in
set_option maxRecDepth 100000 in
theorem c_X5_looksSameTo (l : Launch) (D : va_G) (dA : Nat → ClassId) (b0 : Nat) (x0 : Nat) (x1 : Int32) (x2 : Nat) : mo_Met l yX5_looksSameTo [Cond.code yX5_looksSameTo cX5_looksSameTo 4 (some .boolean)] 3 69 D dA b0 [.ref x0, .int x1, .ref x2] (fun r : Int32 => some (.int r)) (F_X5_looksSameTo x0 x1 x2) := by
  refine mo_MetOf (own := RX5) (by decide) (Nat.le_of_ble_eq_true rfl) [(0, .ref x0), (1, .int x1), (2, .ref x2)] rfl rfl ?_
  intro p e R s m args below meth c Q h0 h2 z ls hQ C hml hr hlocks hnm hfr hlo hF A hl
  have hx := C.1
  have hb := C.2.1
  have hown := C.2.2.1
  have hts := C.2.2.2.1
  have hK := C.2.2.2.2.1
  have iX1 := inlX1
  have iX2 := inlX2
  have iX4 := inlX4
  have iX5 := inlX5
  have iX7 := inlX7
  have J76 : ∀ (k22 : Nat → Int32 → Nat → Int32 → mo_M Int32) (hk22 : ∀ (x0 : Nat) (x1 : Int32) (x2 : Nat) (x3 : Int32) (h : mo_H) (H : Heap) (locs : List Loc) (ls : Array Slot), mo_A D dA b0 s.heap h0 h H locs → lv_has ls 4 [(0, .ref x0), (1, .int x1), (2, .ref x2), (3, .int x3)] → (k22 x0 x1 x2 x3).1 h = some (z, h2) → W p l e R s m args below meth c H locs (h.2.1 - h0.2.1) (h.2.2 - h0.2.2) Q (F0 m 22 ls [])) (x0 : Nat) (x1 : Int32) (x2 : Nat) (x3 : Int32) (h : mo_H) (H : Heap) (locs : List Loc) (ls : Array Slot), mo_A D dA b0 s.heap h0 h H locs → lv_has ls 4 [(0, .ref x0), (1, .int x1), (2, .ref x2), (3, .int x3)] → (F_X5_looksSameTo_76 k22 x0 x1 x2 x3).1 h = some (z, h2) → W p l e R s m args below meth c H locs (h.2.1 - h0.2.1) (h.2.2 - h0.2.2) Q (F0 m 76 ls []) := by
    intro k22 hk22 x0 x1 x2 x3 h H locs ls A hl hF
    unfold F_X5_looksSameTo_76 at hF
    refine lv_iinc (v := (x3 + (1 : Int32))) (lv' := [(3, .int (x3 + (1 : Int32))), (0, .ref x0), (1, .int x1), (2, .ref x2)]) hx hb dX5_looksSameTo_76 hl (k := 3) rfl rfl (by decide) rfl (fun ls hl => ?_)
    refine lv_goto (tgt := 22) hx hb dX5_looksSameTo_79 (by decide) ?_
    exact hk22 x0 x1 x2 (x3 + (1 : Int32)) h H locs ls A (lv_sub hl [1, 2, 3, 0] rfl) hF
  have J22 : ∀   (fu : Nat) (x0 : Nat) (x1 : Int32) (x2 : Nat) (x3 : Int32) (h : mo_H) (H : Heap) (locs : List Loc) (ls : Array Slot), mo_A D dA b0 s.heap h0 h H locs → lv_has ls 4 [(0, .ref x0), (1, .int x1), (2, .ref x2), (3, .int x3)] → (F_X5_looksSameTo_22 fu x0 x1 x2 x3).1 h = some (z, h2) → W p l e R s m args below meth c H locs (h.2.1 - h0.2.1) (h.2.2 - h0.2.2) Q (F0 m 22 ls []) := by
    intro  fu
    induction fu with
    | zero =>
      intro x0 x1 x2 x3 h H locs ls A hl hF
      unfold F_X5_looksSameTo_22 at hF
      cases hF
    | succ fu ih =>
      intro x0 x1 x2 x3 h H locs ls A hl hF
      unfold F_X5_looksSameTo_22 at hF
      refine lv_iload_n hx hb dX5_looksSameTo_22 rfl (lv_at hl 3 rfl) ?_
      refine lv_aload_n hx hb dX5_looksSameTo_23 rfl (lv_at hl 0 rfl) ?_
      refine mo_wR C A (T := TX5) iX5 rfl 0 (by decide) tb_61 rfl dX5_looksSameTo_24 hF (fun v1 hF => ?_)
      refine mo_wIN C A (T := TX7) iX7 rfl 3 (by decide) (List.mem_of_getElem? (i := 10) rfl) rfl dX5_looksSameTo_27 hF (fun v2 hF => ?_)
      refine lv_icmp_ge (tgt := 82) hx hb dX5_looksSameTo_30 (by decide) (fun c3 => ?_) (fun c3 => ?_)
      · have hF := mo_ifT c3 hF
        refine lv_iconst (v := (1 : Int32)) hx hb dX5_looksSameTo_82 (by decide) ?_
        rw [hQ]
        exact mo_zret C A hr hlocks dX5_looksSameTo_83 hF
      · have hF := mo_ifF c3 hF
        refine lv_aload_n hx hb dX5_looksSameTo_33 rfl (lv_at hl 0 rfl) ?_
        refine mo_wR C A (T := TX5) iX5 rfl 2 (by decide) tb_67 rfl dX5_looksSameTo_34 hF (fun v4 hF => ?_)
        refine lv_iload_n hx hb dX5_looksSameTo_37 rfl (lv_at hl 3 rfl) ?_
        refine mo_wlq C A (t := 5) (fun _ => rfl) dX5_looksSameTo_38 hF (fun v5 hF => ?_)
        refine mo_wRN C A (T := TX1) iX1 rfl 0 (by decide) (List.mem_of_getElem? (i := 34) rfl) rfl dX5_looksSameTo_39 hF (fun v6 hF => ?_)
        refine mo_wIN C A (T := TX4) iX4 rfl 1 (by decide) (List.mem_of_getElem? (i := 70) rfl) rfl dX5_looksSameTo_42 hF (fun v7 hF => ?_)
        refine lv_iload_n hx hb dX5_looksSameTo_45 rfl (lv_at hl 1 rfl) ?_
        refine lv_icmp_ne (tgt := 76) hx hb dX5_looksSameTo_46 (by decide) (fun c8 => ?_) (fun c8 => ?_)
        · have hF := mo_ifF c8 hF
          exact J76 (F_X5_looksSameTo_22  fu) ih x0 x1 x2 x3 h H locs ls A (lv_sub hl [0, 1, 2, 3] rfl) hF
        · have hF := mo_ifT c8 hF
          refine lv_aload_n hx hb dX5_looksSameTo_49 rfl (lv_at hl 0 rfl) ?_
          refine mo_wR C A (T := TX5) iX5 rfl 2 (by decide) tb_67 rfl dX5_looksSameTo_50 hF (fun v9 hF => ?_)
          refine lv_iload_n hx hb dX5_looksSameTo_53 rfl (lv_at hl 3 rfl) ?_
          refine mo_wlq C A (t := 5) (fun _ => rfl) dX5_looksSameTo_54 hF (fun v10 hF => ?_)
          refine lv_aload_n hx hb dX5_looksSameTo_55 rfl (lv_at hl 2 rfl) ?_
          refine mo_wR C A (T := TX5) iX5 rfl 2 (by decide) tb_67 rfl dX5_looksSameTo_56 hF (fun v11 hF => ?_)
          refine lv_iload_n hx hb dX5_looksSameTo_59 rfl (lv_at hl 3 rfl) ?_
          refine mo_wlq C A (t := 5) (fun _ => rfl) dX5_looksSameTo_60 hF (fun v12 hF => ?_)
          refine lv_aload_n hx hb dX5_looksSameTo_61 rfl (lv_at hl 0 rfl) ?_
          refine mo_wR C A (T := TX5) iX5 rfl 3 (by decide) tb_73 rfl dX5_looksSameTo_62 hF (fun v13 hF => ?_)
          refine mo_wIN C A (T := TX2) iX2 rfl 1 (by decide) (List.mem_of_getElem? (i := 46) rfl) rfl dX5_looksSameTo_65 hF (fun v14 hF => ?_)
          refine mo_cV (n := 2) (As := [.ref v12, .int v14]) (rest := []) C A hml hl.1 (c_X1_looksSame l D dA b0 v10 v12 v14) (ci := 1) (q := (RX1, TX1, 8)) rfl (fun _ e => (mo_ckE e).1) (tb_v tb_759 tb_760 tb_761 tb_69 tb_762) rfl (by decide +kernel) ⟨Nat.le_trans (by decide) hfr, Nat.le_trans (Nat.le_of_ble_eq_true rfl) hlo⟩ rfl (Nat.le_of_ble_eq_true rfl) rfl dX5_looksSameTo_68 hF (fun v15 h H locs hF A => ?_)
          show W _ _ _ _ _ _ _ _ _ _ _ _ _ _ _ (F0 m 71 ls [.int v15])
          refine lv_if_ne (tgt := 76) hx hb dX5_looksSameTo_71 (by decide) (fun c16 => ?_) (fun c16 => ?_)
          · have hF := mo_ifF c16 hF
            exact J76 (F_X5_looksSameTo_22  fu) ih x0 x1 x2 x3 h H locs ls A (lv_sub hl [0, 1, 2, 3] rfl) hF
          · have hF := mo_ifT c16 hF
            refine lv_iconst (v := (0 : Int32)) hx hb dX5_looksSameTo_74 (by decide) ?_
            rw [hQ]
            exact mo_zret C A hr hlocks dX5_looksSameTo_75 hF
  unfold F_X5_looksSameTo at hF
  obtain ⟨-, hF⟩ := mo_ckE hF
  have E : ∀ (h : mo_H) (H : Heap) (locs : List Loc), (mo_b (mo_gR x0 5 1) fun v17 => mo_b (mo_lq 4 v17 x1) fun v18 => mo_b (mo_gR x2 5 1) fun v19 => mo_b (mo_lq 4 v19 x1) fun v20 => mo_b (F_X3_isSame v18 v20) fun v21 => (if v21 = 0 then mo_rz (0 : Int32) else F_X5_looksSameTo_22 mo_fu x0 x1 x2 (0 : Int32))).1 h = some (z, h2) → mo_A D dA b0 s.heap h0 h H locs → W p l e R s m args below meth c H locs (h.2.1 - h0.2.1) (h.2.2 - h0.2.2) Q (F0 m 0 ls []) := by
    intro h H locs hF A
    refine lv_aload_n hx hb dX5_looksSameTo_0 rfl (lv_at hl 0 rfl) ?_
    refine mo_wR C A (T := TX5) iX5 rfl 1 (by decide) tb_63 rfl dX5_looksSameTo_1 hF (fun v17 hF => ?_)
    refine lv_iload_n hx hb dX5_looksSameTo_4 rfl (lv_at hl 1 rfl) ?_
    refine mo_wlq C A (t := 4) (fun _ => rfl) dX5_looksSameTo_5 hF (fun v18 hF => ?_)
    refine lv_aload_n hx hb dX5_looksSameTo_6 rfl (lv_at hl 2 rfl) ?_
    refine mo_wR C A (T := TX5) iX5 rfl 1 (by decide) tb_63 rfl dX5_looksSameTo_7 hF (fun v19 hF => ?_)
    refine lv_iload_n hx hb dX5_looksSameTo_10 rfl (lv_at hl 1 rfl) ?_
    refine mo_wlq C A (t := 4) (fun _ => rfl) dX5_looksSameTo_11 hF (fun v20 hF => ?_)
    refine mo_cV (n := 1) (As := [.ref v20]) (rest := []) C A hml hl.1 (c_X3_isSame l D dA b0 v18 v20) (ci := 3) (q := (RX3, TX3, 9)) rfl (fun _ e => (mo_ckE e).1) (tb_v tb_751 tb_752 tb_753 tb_65 tb_754) rfl (by decide +kernel) ⟨Nat.le_trans (by decide) hfr, Nat.le_trans (Nat.le_of_ble_eq_true rfl) hlo⟩ rfl (Nat.le_of_ble_eq_true rfl) rfl dX5_looksSameTo_12 hF (fun v21 h H locs hF A => ?_)
    show W _ _ _ _ _ _ _ _ _ _ _ _ _ _ _ (F0 m 15 ls [.int v21])
    refine lv_if_ne (tgt := 20) hx hb dX5_looksSameTo_15 (by decide) (fun c22 => ?_) (fun c22 => ?_)
    · have hF := mo_ifF c22 hF
      refine lv_iconst (v := (0 : Int32)) hx hb dX5_looksSameTo_20 (by decide) ?_
      refine lv_istore_n (lv' := [(3, .int (0 : Int32)), (0, .ref x0), (1, .int x1), (2, .ref x2)]) hx hb dX5_looksSameTo_21 rfl hl (by decide) rfl (fun ls hl => ?_)
      exact J22 mo_fu x0 x1 x2 (0 : Int32) h H locs ls A (lv_sub hl [1, 2, 3, 0] rfl) hF
    · have hF := mo_ifT c22 hF
      refine lv_iconst (v := (0 : Int32)) hx hb dX5_looksSameTo_18 (by decide) ?_
      rw [hQ]
      exact mo_zret C A hr hlocks dX5_looksSameTo_19 hF
  exact E h0 s.heap [] hF A
set_option maxHeartbeats 4000000 in
set_option maxRecDepth 100000 in
theorem c_X7_init (l : Launch) (D : va_G) (dA : Nat → ClassId) (b0 : Nat) (x0 : Nat) (x1 : Int32) : mo_Met l yX7_init [Cond.code yX7_init cX7_init 3 none] 2 35 D dA b0 [.ref x0, .int x1] (fun _ : Unit => none) (F_X7_init x0 x1) := by
  refine mo_MetOf (own := RX7) (by decide) (Nat.le_of_ble_eq_true rfl) [(0, .ref x0), (1, .int x1)] rfl rfl ?_
  intro p e R s m args below meth c Q h0 h2 z ls hQ C hml hr hlocks hnm hfr hlo hF A hl
  have hx := C.1
  have hb := C.2.1
  have hown := C.2.2.1
  have hts := C.2.2.2.1
  have hK := C.2.2.2.2.1
  have iX7 := inlX7
  have iX9 := inlX9
  have J95 : ∀   (fu : Nat) (x0 : Nat) (x2 : Int32) (h : mo_H) (H : Heap) (locs : List Loc) (ls : Array Slot), mo_A D dA b0 s.heap h0 h H locs → lv_has ls 3 [(0, .ref x0), (2, .int x2)] → (F_X7_init_95 fu x0 x2).1 h = some (z, h2) → W p l e R s m args below meth c H locs (h.2.1 - h0.2.1) (h.2.2 - h0.2.2) Q (F0 m 95 ls []) := by
    intro  fu
    induction fu with
    | zero =>
      intro x0 x2 h H locs ls A hl hF
      unfold F_X7_init_95 at hF
      cases hF
    | succ fu ih =>
      intro x0 x2 h H locs ls A hl hF
      unfold F_X7_init_95 at hF
      refine lv_iload_n hx hb dX7_init_95 rfl (lv_at hl 1 rfl) ?_
      refine lv_iconst (v := (3 : Int32)) hx hb dX7_init_96 (by decide) ?_
      refine lv_icmp_ge (tgt := 134) hx hb dX7_init_97 (by decide) (fun c1 => ?_) (fun c1 => ?_)
      · have hF := mo_ifT c1 hF
        rw [hQ]
        exact mo_vret C A hr hlocks dX7_init_134 hF
      · have hF := mo_ifF c1 hF
        refine lv_aload_n hx hb dX7_init_100 rfl (lv_at hl 0 rfl) ?_
        refine mo_wR C A (T := TX7) iX7 rfl 6 (by decide) tb_49 rfl dX7_init_101 hF (fun v2 hF => ?_)
        refine lv_iload_n hx hb dX7_init_104 rfl (lv_at hl 1 rfl) ?_
        refine mo_wnc C A (T := TX9) iX9 tyX9 tyX9_ok rfl tb_42 tb_45 tb_46 dfX9_ok rfl dX7_init_105 hF (fun v3 h H hF A => ?_)
        refine lv_dup hx hb dX7_init_108 rfl ?_
        refine lv_iconst (v := (4 : Int32)) hx hb dX7_init_109 (by decide) ?_
        refine mo_cI (n := 1) (As := [.int (4 : Int32)]) (rest := [.ref v3, .int x2, .ref v2]) C A hml hl.1 (c_X9_init l D dA b0 v3 (4 : Int32)) (tb_o tb_53) rfl tb_46 tb_51 tb_52 rfl (by decide +kernel) ⟨Nat.le_trans (by decide) hfr, Nat.le_trans (Nat.le_of_ble_eq_true rfl) hlo⟩ rfl (Nat.le_of_ble_eq_true rfl) rfl dX7_init_110 hF (fun v4 h H locs hF A => ?_)
        show W _ _ _ _ _ _ _ _ _ _ _ _ _ _ _ (F0 m 113 ls [.ref v3, .int x2, .ref v2])
        refine mo_wsq C A (t := 2) (ci := 9) (r := (RX9, TX9, 2)) (fun _ => rfl) rfl dX7_init_113 hF (fun h H locs hF A => ?_)
        refine lv_aload_n hx hb dX7_init_114 rfl (lv_at hl 0 rfl) ?_
        refine mo_wR C A (T := TX7) iX7 rfl 7 (by decide) tb_50 rfl dX7_init_115 hF (fun v5 hF => ?_)
        refine lv_iload_n hx hb dX7_init_118 rfl (lv_at hl 1 rfl) ?_
        refine mo_wnc C A (T := TX9) iX9 tyX9 tyX9_ok rfl tb_42 tb_45 tb_46 dfX9_ok rfl dX7_init_119 hF (fun v6 h H hF A => ?_)
        refine lv_dup hx hb dX7_init_122 rfl ?_
        refine lv_iconst (v := (4 : Int32)) hx hb dX7_init_123 (by decide) ?_
        refine mo_cI (n := 1) (As := [.int (4 : Int32)]) (rest := [.ref v6, .int x2, .ref v5]) C A hml hl.1 (c_X9_init l D dA b0 v6 (4 : Int32)) (tb_o tb_53) rfl tb_46 tb_51 tb_52 rfl (by decide +kernel) ⟨Nat.le_trans (by decide) hfr, Nat.le_trans (Nat.le_of_ble_eq_true rfl) hlo⟩ rfl (Nat.le_of_ble_eq_true rfl) rfl dX7_init_124 hF (fun v7 h H locs hF A => ?_)
        show W _ _ _ _ _ _ _ _ _ _ _ _ _ _ _ (F0 m 127 ls [.ref v6, .int x2, .ref v5])
        refine mo_wsq C A (t := 2) (ci := 9) (r := (RX9, TX9, 2)) (fun _ => rfl) rfl dX7_init_127 hF (fun h H locs hF A => ?_)
        refine lv_iinc (v := (x2 + (1 : Int32))) (lv' := [(2, .int (x2 + (1 : Int32))), (0, .ref x0)]) hx hb dX7_init_128 hl (k := 1) rfl rfl (by decide) rfl (fun ls hl => ?_)
        refine lv_goto (tgt := 95) hx hb dX7_init_131 (by decide) ?_
        exact ih x0 (x2 + (1 : Int32)) h H locs ls A (lv_sub hl [1, 0] rfl) hF
  have J68 : ∀   (x0 : Nat) (h : mo_H) (H : Heap) (locs : List Loc) (ls : Array Slot), mo_A D dA b0 s.heap h0 h H locs → lv_has ls 3 [(0, .ref x0)] → (F_X7_init_68 x0).1 h = some (z, h2) → W p l e R s m args below meth c H locs (h.2.1 - h0.2.1) (h.2.2 - h0.2.2) Q (F0 m 68 ls []) := by
    intro  x0 h H locs ls A hl hF
    unfold F_X7_init_68 at hF
    refine lv_aload_n hx hb dX7_init_68 rfl (lv_at hl 0 rfl) ?_
    refine lv_bipush (v := (12 : Int32)) hx hb dX7_init_69 (by decide) ?_
    refine mo_wnq C A (t := 3) (fun _ => rfl) hK.2.2.2.1 tb_47 dX7_init_71 hF (fun v8 h H hF A => ?_)
    refine mo_wpF C A (T := TX7) iX7 tyX7 tyX7_ok nmX7 rfl 2 (by decide) tb_48 rfl rfl hnm rfl rfl rfl dX7_init_74 hF (fun h H locs hF A => ?_)
    refine lv_aload_n hx hb dX7_init_77 rfl (lv_at hl 0 rfl) ?_
    refine lv_iconst (v := (3 : Int32)) hx hb dX7_init_78 (by decide) ?_
    refine mo_wnq C A (t := 2) (fun _ => rfl) hK.2.2.1 tb_42 dX7_init_79 hF (fun v9 h H hF A => ?_)
    refine mo_wpF C A (T := TX7) iX7 tyX7 tyX7_ok nmX7 rfl 6 (by decide) tb_49 rfl rfl hnm rfl rfl rfl dX7_init_82 hF (fun h H locs hF A => ?_)
    refine lv_aload_n hx hb dX7_init_85 rfl (lv_at hl 0 rfl) ?_
    refine lv_iconst (v := (3 : Int32)) hx hb dX7_init_86 (by decide) ?_
    refine mo_wnq C A (t := 2) (fun _ => rfl) hK.2.2.1 tb_42 dX7_init_87 hF (fun v10 h H hF A => ?_)
    refine mo_wpF C A (T := TX7) iX7 tyX7 tyX7_ok nmX7 rfl 7 (by decide) tb_50 rfl rfl hnm rfl rfl rfl dX7_init_90 hF (fun h H locs hF A => ?_)
    refine lv_iconst (v := (0 : Int32)) hx hb dX7_init_93 (by decide) ?_
    refine lv_istore_n (lv' := [(2, .int (0 : Int32)), (0, .ref x0)]) hx hb dX7_init_94 rfl hl (by decide) rfl (fun ls hl => ?_)
    exact J95 mo_fu x0 (0 : Int32) h H locs ls A (lv_sub hl [1, 0] rfl) hF
  have J33 : ∀   (fu : Nat) (x0 : Nat) (x1 : Int32) (x2 : Int32) (h : mo_H) (H : Heap) (locs : List Loc) (ls : Array Slot), mo_A D dA b0 s.heap h0 h H locs → lv_has ls 3 [(0, .ref x0), (1, .int x1), (2, .int x2)] → (F_X7_init_33 fu x0 x1 x2).1 h = some (z, h2) → W p l e R s m args below meth c H locs (h.2.1 - h0.2.1) (h.2.2 - h0.2.2) Q (F0 m 33 ls []) := by
    intro  fu
    induction fu with
    | zero =>
      intro x0 x1 x2 h H locs ls A hl hF
      unfold F_X7_init_33 at hF
      cases hF
    | succ fu ih =>
      intro x0 x1 x2 h H locs ls A hl hF
      unfold F_X7_init_33 at hF
      refine lv_iload_n hx hb dX7_init_33 rfl (lv_at hl 2 rfl) ?_
      refine lv_iload_n hx hb dX7_init_34 rfl (lv_at hl 1 rfl) ?_
      refine lv_icmp_ge (tgt := 68) hx hb dX7_init_35 (by decide) (fun c11 => ?_) (fun c11 => ?_)
      · have hF := mo_ifT c11 hF
        exact J68 x0 h H locs ls A (lv_sub hl [0] rfl) hF
      · have hF := mo_ifF c11 hF
        refine lv_aload_n hx hb dX7_init_38 rfl (lv_at hl 0 rfl) ?_
        refine mo_wR C A (T := TX7) iX7 rfl 1 (by decide) tb_41 rfl dX7_init_39 hF (fun v12 hF => ?_)
        refine lv_iload_n hx hb dX7_init_42 rfl (lv_at hl 2 rfl) ?_
        refine lv_iconst (v := (1 : Int32)) hx hb dX7_init_43 (by decide) ?_
        refine lv_iload_n hx hb dX7_init_44 rfl (lv_at hl 2 rfl) ?_
        refine lv_ishl hx hb dX7_init_45 ?_
        refine mo_wsa C A dX7_init_46 hF (fun h H locs hF A => ?_)
        refine lv_aload_n hx hb dX7_init_47 rfl (lv_at hl 0 rfl) ?_
        refine mo_wR C A (T := TX7) iX7 rfl 4 (by decide) tb_43 rfl dX7_init_48 hF (fun v13 hF => ?_)
        refine lv_iload_n hx hb dX7_init_51 rfl (lv_at hl 2 rfl) ?_
        refine mo_wnc C A (T := TX9) iX9 tyX9 tyX9_ok rfl tb_42 tb_45 tb_46 dfX9_ok rfl dX7_init_52 hF (fun v14 h H hF A => ?_)
        refine lv_dup hx hb dX7_init_55 rfl ?_
        refine lv_bipush (v := (8 : Int32)) hx hb dX7_init_56 (by decide) ?_
        refine mo_cI (n := 1) (As := [.int (8 : Int32)]) (rest := [.ref v14, .int x2, .ref v13]) C A hml hl.1 (c_X9_init l D dA b0 v14 (8 : Int32)) (tb_o tb_53) rfl tb_46 tb_51 tb_52 rfl (by decide +kernel) ⟨Nat.le_trans (by decide) hfr, Nat.le_trans (Nat.le_of_ble_eq_true rfl) hlo⟩ rfl (Nat.le_of_ble_eq_true rfl) rfl dX7_init_58 hF (fun v15 h H locs hF A => ?_)
        show W _ _ _ _ _ _ _ _ _ _ _ _ _ _ _ (F0 m 61 ls [.ref v14, .int x2, .ref v13])
        refine mo_wsq C A (t := 2) (ci := 9) (r := (RX9, TX9, 2)) (fun _ => rfl) rfl dX7_init_61 hF (fun h H locs hF A => ?_)
        refine lv_iinc (v := (x2 + (1 : Int32))) (lv' := [(2, .int (x2 + (1 : Int32))), (0, .ref x0), (1, .int x1)]) hx hb dX7_init_62 hl (k := 2) rfl rfl (by decide) rfl (fun ls hl => ?_)
        refine lv_goto (tgt := 33) hx hb dX7_init_65 (by decide) ?_
        exact ih x0 x1 (x2 + (1 : Int32)) h H locs ls A (lv_sub hl [1, 2, 0] rfl) hF
  unfold F_X7_init at hF
  have E : ∀ (h : mo_H) (H : Heap) (locs : List Loc), (mo_b (mo_pV x0 7 0 (.int x1)) fun _ => mo_b (mo_na 0 x1) fun v16 => mo_b (mo_pV x0 7 1 (.ref v16)) fun _ => mo_b (mo_nq 2 x1) fun v17 => mo_b (mo_pV x0 7 4 (.ref v17)) fun _ => mo_b (mo_na 0 x1) fun v18 => mo_b (mo_pV x0 7 5 (.ref v18)) fun _ => F_X7_init_33 mo_fu x0 x1 (0 : Int32)).1 h = some (z, h2) → mo_A D dA b0 s.heap h0 h H locs → W p l e R s m args below meth c H locs (h.2.1 - h0.2.1) (h.2.2 - h0.2.2) Q (F0 m 0 ls []) := by
    intro h H locs hF A
    refine lv_aload_n hx hb dX7_init_0 rfl (lv_at hl 0 rfl) ?_
    refine W.objInit hx hb hown (hts _ tb_38) (hts _ tb_14) (hts _ tb_15) rfl (by rw [hml]; exact hl.1) rfl dX7_init_1 (Nat.le_trans (by decide) hfr) (Nat.le_trans (Nat.le_of_ble_eq_true rfl) hlo) ?_
    refine W.eq (g2 := F0 m 4 ls []) rfl ?_
    refine lv_aload_n hx hb dX7_init_4 rfl (lv_at hl 0 rfl) ?_
    refine lv_iload_n hx hb dX7_init_5 rfl (lv_at hl 1 rfl) ?_
    refine mo_wpF C A (T := TX7) iX7 tyX7 tyX7_ok nmX7 rfl 0 (by decide) tb_39 rfl rfl hnm rfl rfl rfl dX7_init_6 hF (fun h H locs hF A => ?_)
    refine lv_aload_n hx hb dX7_init_9 rfl (lv_at hl 0 rfl) ?_
    refine lv_iload_n hx hb dX7_init_10 rfl (lv_at hl 1 rfl) ?_
    refine mo_wna C A (t := 0) (ty := .int) rfl (fun _ => rfl) (fun _ _ h => h) (by decide) rfl tb_40 dX7_init_11 hF (fun v16 h H hF A => ?_)
    refine mo_wpF C A (T := TX7) iX7 tyX7 tyX7_ok nmX7 rfl 1 (by decide) tb_41 rfl rfl hnm rfl rfl rfl dX7_init_13 hF (fun h H locs hF A => ?_)
    refine lv_aload_n hx hb dX7_init_16 rfl (lv_at hl 0 rfl) ?_
    refine lv_iload_n hx hb dX7_init_17 rfl (lv_at hl 1 rfl) ?_
    refine mo_wnq C A (t := 2) (fun _ => rfl) hK.2.2.1 tb_42 dX7_init_18 hF (fun v17 h H hF A => ?_)
    refine mo_wpF C A (T := TX7) iX7 tyX7 tyX7_ok nmX7 rfl 4 (by decide) tb_43 rfl rfl hnm rfl rfl rfl dX7_init_21 hF (fun h H locs hF A => ?_)
    refine lv_aload_n hx hb dX7_init_24 rfl (lv_at hl 0 rfl) ?_
    refine lv_iload_n hx hb dX7_init_25 rfl (lv_at hl 1 rfl) ?_
    refine mo_wna C A (t := 0) (ty := .int) rfl (fun _ => rfl) (fun _ _ h => h) (by decide) rfl tb_40 dX7_init_26 hF (fun v18 h H hF A => ?_)
    refine mo_wpF C A (T := TX7) iX7 tyX7 tyX7_ok nmX7 rfl 5 (by decide) tb_44 rfl rfl hnm rfl rfl rfl dX7_init_28 hF (fun h H locs hF A => ?_)
    refine lv_iconst (v := (0 : Int32)) hx hb dX7_init_31 (by decide) ?_
    refine lv_istore_n (lv' := [(2, .int (0 : Int32)), (0, .ref x0), (1, .int x1)]) hx hb dX7_init_32 rfl hl (by decide) rfl (fun ls hl => ?_)
    exact J33 mo_fu x0 x1 (0 : Int32) h H locs ls A (lv_sub hl [1, 2, 0] rfl) hF
  exact E h0 s.heap [] hF A
set_option maxHeartbeats 4000000 in
set_option maxRecDepth 100000 in
theorem c_X7_setFlow (l : Launch) (D : va_G) (dA : Nat → ClassId) (b0 : Nat) (x0 : Nat) (x1 : Int32) (x2 : Int32) (x3 : Int32) : mo_Met l yX7_setFlow [Cond.code yX7_setFlow cX7_setFlow 4 none] 0 0 D dA b0 [.ref x0, .int x1, .int x2, .int x3] (fun _ : Unit => none) (F_X7_setFlow x0 x1 x2 x3) := by
  refine mo_MetOf (own := RX7) (by decide) (Nat.le_of_ble_eq_true rfl) [(0, .ref x0), (1, .int x1), (2, .int x2), (3, .int x3)] rfl rfl ?_
  intro p e R s m args below meth c Q h0 h2 z ls hQ C hml hr hlocks hnm hfr hlo hF A hl
  have hx := C.1
  have hb := C.2.1
  have hown := C.2.2.1
  have hts := C.2.2.2.1
  have hK := C.2.2.2.2.1
  have iX7 := inlX7
  have J34 : ∀   (s0 : Nat) (s1 : Int32) (s2 : Int32) (h : mo_H) (H : Heap) (locs : List Loc) (ls : Array Slot), mo_A D dA b0 s.heap h0 h H locs → lv_has ls 4 [] → (F_X7_setFlow_34 s0 s1 s2).1 h = some (z, h2) → W p l e R s m args below meth c H locs (h.2.1 - h0.2.1) (h.2.2 - h0.2.2) Q (F0 m 34 ls [.int s2, .int s1, .ref s0]) := by
    intro  s0 s1 s2 h H locs ls A hl hF
    unfold F_X7_setFlow_34 at hF
    refine mo_wsa C A dX7_setFlow_34 hF (fun h H locs hF A => ?_)
    rw [hQ]
    exact mo_vret C A hr hlocks dX7_setFlow_35 hF
  unfold F_X7_setFlow at hF
  obtain ⟨-, hF⟩ := mo_ckE hF
  have E : ∀ (h : mo_H) (H : Heap) (locs : List Loc), (mo_b (mo_gR x0 7 1) fun v1 => (if x3 = 0 then mo_b (mo_gR x0 7 1) fun v3 => mo_b (mo_la 0 v3 x1) fun v4 => F_X7_setFlow_34 v1 x1 (v4 &&& (((1 : Int32) <<< (x2 &&& 31)) ^^^ (-1 : Int32))) else mo_b (mo_gR x0 7 1) fun v5 => mo_b (mo_la 0 v5 x1) fun v6 => F_X7_setFlow_34 v1 x1 (v6 ||| ((1 : Int32) <<< (x2 &&& 31))))).1 h = some (z, h2) → mo_A D dA b0 s.heap h0 h H locs → W p l e R s m args below meth c H locs (h.2.1 - h0.2.1) (h.2.2 - h0.2.2) Q (F0 m 0 ls []) := by
    intro h H locs hF A
    refine lv_aload_n hx hb dX7_setFlow_0 rfl (lv_at hl 0 rfl) ?_
    refine mo_wR C A (T := TX7) iX7 rfl 1 (by decide) tb_41 rfl dX7_setFlow_1 hF (fun v1 hF => ?_)
    refine lv_iload_n hx hb dX7_setFlow_4 rfl (lv_at hl 1 rfl) ?_
    refine lv_iload_n hx hb dX7_setFlow_5 rfl (lv_at hl 3 rfl) ?_
    refine lv_if_eq (tgt := 22) hx hb dX7_setFlow_6 (by decide) (fun c2 => ?_) (fun c2 => ?_)
    · have hF := mo_ifT c2 hF
      refine lv_aload_n hx hb dX7_setFlow_22 rfl (lv_at hl 0 rfl) ?_
      refine mo_wR C A (T := TX7) iX7 rfl 1 (by decide) tb_41 rfl dX7_setFlow_23 hF (fun v3 hF => ?_)
      refine lv_iload_n hx hb dX7_setFlow_26 rfl (lv_at hl 1 rfl) ?_
      refine mo_wla C A dX7_setFlow_27 hF (fun v4 hF => ?_)
      refine lv_iconst (v := (1 : Int32)) hx hb dX7_setFlow_28 (by decide) ?_
      refine lv_iload_n hx hb dX7_setFlow_29 rfl (lv_at hl 2 rfl) ?_
      refine lv_ishl hx hb dX7_setFlow_30 ?_
      refine lv_iconst (v := (-1 : Int32)) hx hb dX7_setFlow_31 (by decide) ?_
      refine lv_ixor hx hb dX7_setFlow_32 ?_
      refine lv_iand hx hb dX7_setFlow_33 ?_
      exact J34 v1 x1 (v4 &&& (((1 : Int32) <<< (x2 &&& 31)) ^^^ (-1 : Int32))) h H locs ls A (lv_sub hl [] rfl) hF
    · have hF := mo_ifF c2 hF
      refine lv_aload_n hx hb dX7_setFlow_9 rfl (lv_at hl 0 rfl) ?_
      refine mo_wR C A (T := TX7) iX7 rfl 1 (by decide) tb_41 rfl dX7_setFlow_10 hF (fun v5 hF => ?_)
      refine lv_iload_n hx hb dX7_setFlow_13 rfl (lv_at hl 1 rfl) ?_
      refine mo_wla C A dX7_setFlow_14 hF (fun v6 hF => ?_)
      refine lv_iconst (v := (1 : Int32)) hx hb dX7_setFlow_15 (by decide) ?_
      refine lv_iload_n hx hb dX7_setFlow_16 rfl (lv_at hl 2 rfl) ?_
      refine lv_ishl hx hb dX7_setFlow_17 ?_
      refine lv_ior hx hb dX7_setFlow_18 ?_
      refine lv_goto (tgt := 34) hx hb dX7_setFlow_19 (by decide) ?_
      exact J34 v1 x1 (v6 ||| ((1 : Int32) <<< (x2 &&& 31))) h H locs ls A (lv_sub hl [] rfl) hF
  exact E h0 s.heap [] hF A
set_option maxHeartbeats 4000000 in
set_option maxRecDepth 100000 in
theorem c_X7_hasLink (l : Launch) (D : va_G) (dA : Nat → ClassId) (b0 : Nat) (x0 : Nat) (x1 : Int32) (x2 : Int32) : mo_Met l yX7_hasLink [Cond.code yX7_hasLink cX7_hasLink 4 (some .boolean)] 0 0 D dA b0 [.ref x0, .int x1, .int x2] (fun r : Int32 => some (.int r)) (F_X7_hasLink x0 x1 x2) := by
  refine mo_MetOf (own := RX7) (by decide) (Nat.le_of_ble_eq_true rfl) [(0, .ref x0), (1, .int x1), (2, .int x2)] rfl rfl ?_
  intro p e R s m args below meth c Q h0 h2 z ls hQ C hml hr hlocks hnm hfr hlo hF A hl
  have hx := C.1
  have hb := C.2.1
  have hown := C.2.2.1
  have hts := C.2.2.2.1
  have hK := C.2.2.2.2.1
  have iX4 := inlX4
  have iX7 := inlX7
  have J38 : ∀ (k2 : Nat → Int32 → Int32 → Int32 → mo_M Int32) (hk2 : ∀ (x0 : Nat) (x1 : Int32) (x2 : Int32) (x3 : Int32) (h : mo_H) (H : Heap) (locs : List Loc) (ls : Array Slot), mo_A D dA b0 s.heap h0 h H locs → lv_has ls 4 [(0, .ref x0), (1, .int x1), (2, .int x2), (3, .int x3)] → (k2 x0 x1 x2 x3).1 h = some (z, h2) → W p l e R s m args below meth c H locs (h.2.1 - h0.2.1) (h.2.2 - h0.2.2) Q (F0 m 2 ls [])) (x0 : Nat) (x1 : Int32) (x2 : Int32) (x3 : Int32) (h : mo_H) (H : Heap) (locs : List Loc) (ls : Array Slot), mo_A D dA b0 s.heap h0 h H locs → lv_has ls 4 [(0, .ref x0), (1, .int x1), (2, .int x2), (3, .int x3)] → (F_X7_hasLink_38 k2 x0 x1 x2 x3).1 h = some (z, h2) → W p l e R s m args below meth c H locs (h.2.1 - h0.2.1) (h.2.2 - h0.2.2) Q (F0 m 38 ls []) := by
    intro k2 hk2 x0 x1 x2 x3 h H locs ls A hl hF
    unfold F_X7_hasLink_38 at hF
    refine lv_iinc (v := (x3 + (1 : Int32))) (lv' := [(3, .int (x3 + (1 : Int32))), (0, .ref x0), (1, .int x1), (2, .int x2)]) hx hb dX7_hasLink_38 hl (k := 3) rfl rfl (by decide) rfl (fun ls hl => ?_)
    refine lv_goto (tgt := 2) hx hb dX7_hasLink_41 (by decide) ?_
    exact hk2 x0 x1 x2 (x3 + (1 : Int32)) h H locs ls A (lv_sub hl [1, 2, 3, 0] rfl) hF
  have J2 : ∀   (fu : Nat) (x0 : Nat) (x1 : Int32) (x2 : Int32) (x3 : Int32) (h : mo_H) (H : Heap) (locs : List Loc) (ls : Array Slot), mo_A D dA b0 s.heap h0 h H locs → lv_has ls 4 [(0, .ref x0), (1, .int x1), (2, .int x2), (3, .int x3)] → (F_X7_hasLink_2 fu x0 x1 x2 x3).1 h = some (z, h2) → W p l e R s m args below meth c H locs (h.2.1 - h0.2.1) (h.2.2 - h0.2.2) Q (F0 m 2 ls []) := by
    intro  fu
    induction fu with
    | zero =>
      intro x0 x1 x2 x3 h H locs ls A hl hF
      unfold F_X7_hasLink_2 at hF
      cases hF
    | succ fu ih =>
      intro x0 x1 x2 x3 h H locs ls A hl hF
      unfold F_X7_hasLink_2 at hF
      refine lv_iload_n hx hb dX7_hasLink_2 rfl (lv_at hl 3 rfl) ?_
      refine lv_aload_n hx hb dX7_hasLink_3 rfl (lv_at hl 0 rfl) ?_
      refine mo_wI C A (T := TX7) iX7 rfl 3 (by decide) tb_187 rfl dX7_hasLink_4 hF (fun v1 hF => ?_)
      refine lv_icmp_ge (tgt := 44) hx hb dX7_hasLink_7 (by decide) (fun c2 => ?_) (fun c2 => ?_)
      · have hF := mo_ifT c2 hF
        refine lv_iconst (v := (0 : Int32)) hx hb dX7_hasLink_44 (by decide) ?_
        rw [hQ]
        exact mo_zret C A hr hlocks dX7_hasLink_45 hF
      · have hF := mo_ifF c2 hF
        refine lv_aload_n hx hb dX7_hasLink_10 rfl (lv_at hl 0 rfl) ?_
        refine mo_wR C A (T := TX7) iX7 rfl 2 (by decide) tb_48 rfl dX7_hasLink_11 hF (fun v3 hF => ?_)
        refine lv_iload_n hx hb dX7_hasLink_14 rfl (lv_at hl 3 rfl) ?_
        refine mo_wlq C A (t := 3) (fun _ => rfl) dX7_hasLink_15 hF (fun v4 hF => ?_)
        refine mo_wIN C A (T := TX4) iX4 rfl 0 (by decide) (List.mem_of_getElem? (i := 66) rfl) rfl dX7_hasLink_16 hF (fun v5 hF => ?_)
        refine lv_iload_n hx hb dX7_hasLink_19 rfl (lv_at hl 1 rfl) ?_
        refine lv_icmp_ne (tgt := 38) hx hb dX7_hasLink_20 (by decide) (fun c6 => ?_) (fun c6 => ?_)
        · have hF := mo_ifF c6 hF
          exact J38 (F_X7_hasLink_2  fu) ih x0 x1 x2 x3 h H locs ls A (lv_sub hl [0, 1, 2, 3] rfl) hF
        · have hF := mo_ifT c6 hF
          refine lv_aload_n hx hb dX7_hasLink_23 rfl (lv_at hl 0 rfl) ?_
          refine mo_wR C A (T := TX7) iX7 rfl 2 (by decide) tb_48 rfl dX7_hasLink_24 hF (fun v7 hF => ?_)
          refine lv_iload_n hx hb dX7_hasLink_27 rfl (lv_at hl 3 rfl) ?_
          refine mo_wlq C A (t := 3) (fun _ => rfl) dX7_hasLink_28 hF (fun v8 hF => ?_)
          refine mo_wIN C A (T := TX4) iX4 rfl 1 (by decide) (List.mem_of_getElem? (i := 69) rfl) rfl dX7_hasLink_29 hF (fun v9 hF => ?_)
          refine lv_iload_n hx hb dX7_hasLink_32 rfl (lv_at hl 2 rfl) ?_
          refine lv_icmp_ne (tgt := 38) hx hb dX7_hasLink_33 (by decide) (fun c10 => ?_) (fun c10 => ?_)
          · have hF := mo_ifF c10 hF
            exact J38 (F_X7_hasLink_2  fu) ih x0 x1 x2 x3 h H locs ls A (lv_sub hl [0, 1, 2, 3] rfl) hF
          · have hF := mo_ifT c10 hF
            refine lv_iconst (v := (1 : Int32)) hx hb dX7_hasLink_36 (by decide) ?_
            rw [hQ]
            exact mo_zret C A hr hlocks dX7_hasLink_37 hF
  unfold F_X7_hasLink at hF
  obtain ⟨-, hF⟩ := mo_ckE hF
  have E : ∀ (h : mo_H) (H : Heap) (locs : List Loc), (F_X7_hasLink_2 mo_fu x0 x1 x2 (0 : Int32)).1 h = some (z, h2) → mo_A D dA b0 s.heap h0 h H locs → W p l e R s m args below meth c H locs (h.2.1 - h0.2.1) (h.2.2 - h0.2.2) Q (F0 m 0 ls []) := by
    intro h H locs hF A
    refine lv_iconst (v := (0 : Int32)) hx hb dX7_hasLink_0 (by decide) ?_
    refine lv_istore_n (lv' := [(3, .int (0 : Int32)), (0, .ref x0), (1, .int x1), (2, .int x2)]) hx hb dX7_hasLink_1 rfl hl (by decide) rfl (fun ls hl => ?_)
    exact J2 mo_fu x0 x1 x2 (0 : Int32) h H locs ls A (lv_sub hl [1, 2, 3, 0] rfl) hF
  exact E h0 s.heap [] hF A
set_option maxHeartbeats 4000000 in
set_option maxRecDepth 100000 in
theorem c_X8_init (l : Launch) (D : va_G) (dA : Nat → ClassId) (b0 : Nat) (x0 : Nat) (x1 : Nat) : mo_Met l yX8_init [Cond.code yX8_init cX8_init 2 none] 4 80 D dA b0 [.ref x0, .ref x1] (fun _ : Unit => none) (F_X8_init x0 x1) := by
  refine mo_MetOf (own := RX8) (by decide) (Nat.le_of_ble_eq_true rfl) [(0, .ref x0), (1, .ref x1)] rfl rfl ?_
  intro p e R s m args below meth c Q h0 h2 z ls hQ C hml hr hlocks hnm hfr hlo hF A hl
  have hx := C.1
  have hb := C.2.1
  have hown := C.2.2.1
  have hts := C.2.2.2.1
  have hK := C.2.2.2.2.1
  have iX5 := inlX5
  have iX8 := inlX8
  unfold F_X8_init at hF
  have E : ∀ (h : mo_H) (H : Heap) (locs : List Loc), (mo_b (mo_pV x0 8 0 (.ref x1)) fun _ => mo_b (mo_nc 5 dfX5) fun v1 => mo_b (F_X5_init v1 x1) fun v2 => mo_b (mo_pV x0 8 1 (.ref v1)) fun _ => mo_b (mo_na 1 (32 : Int32)) fun v3 => mo_b (mo_pV x0 8 2 (.ref v3)) fun _ => mo_ret ()).1 h = some (z, h2) → mo_A D dA b0 s.heap h0 h H locs → W p l e R s m args below meth c H locs (h.2.1 - h0.2.1) (h.2.2 - h0.2.2) Q (F0 m 0 ls []) := by
    intro h H locs hF A
    refine lv_aload_n hx hb dX8_init_0 rfl (lv_at hl 0 rfl) ?_
    refine W.objInit hx hb hown (hts _ tb_667) (hts _ tb_14) (hts _ tb_15) rfl (by rw [hml]; exact hl.1) rfl dX8_init_1 (Nat.le_trans (by decide) hfr) (Nat.le_trans (Nat.le_of_ble_eq_true rfl) hlo) ?_
    refine W.eq (g2 := F0 m 4 ls []) rfl ?_
    refine lv_aload_n hx hb dX8_init_4 rfl (lv_at hl 0 rfl) ?_
    refine lv_aload_n hx hb dX8_init_5 rfl (lv_at hl 1 rfl) ?_
    refine mo_wpF C A (T := TX8) iX8 tyX8 tyX8_ok nmX8 rfl 0 (by decide) tb_668 rfl rfl hnm rfl rfl rfl dX8_init_6 hF (fun h H locs hF A => ?_)
    refine lv_aload_n hx hb dX8_init_9 rfl (lv_at hl 0 rfl) ?_
    refine mo_wnc C A (T := TX5) iX5 tyX5 tyX5_ok rfl tb_669 tb_28 tb_29 dfX5_ok rfl dX8_init_10 hF (fun v1 h H hF A => ?_)
    refine lv_dup hx hb dX8_init_13 rfl ?_
    refine lv_aload_n hx hb dX8_init_14 rfl (lv_at hl 1 rfl) ?_
    refine mo_cI (n := 1) (As := [.ref x1]) (rest := [.ref v1, .ref x0]) C A hml hl.1 (c_X5_init l D dA b0 v1 x1) (tb_o tb_59) rfl tb_29 tb_672 tb_58 rfl (by decide +kernel) ⟨Nat.le_trans (by decide) hfr, Nat.le_trans (Nat.le_of_ble_eq_true rfl) hlo⟩ rfl (Nat.le_of_ble_eq_true rfl) rfl dX8_init_15 hF (fun v2 h H locs hF A => ?_)
    show W _ _ _ _ _ _ _ _ _ _ _ _ _ _ _ (F0 m 18 ls [.ref v1, .ref x0])
    refine mo_wpF C A (T := TX8) iX8 tyX8 tyX8_ok nmX8 rfl 1 (by decide) tb_670 rfl rfl hnm rfl rfl rfl dX8_init_18 hF (fun h H locs hF A => ?_)
    refine lv_aload_n hx hb dX8_init_21 rfl (lv_at hl 0 rfl) ?_
    refine lv_bipush (v := (32 : Int32)) hx hb dX8_init_22 (by decide) ?_
    refine mo_wna C A (t := 1) (ty := .boolean) rfl (fun _ => rfl) (fun _ _ h => h) (by decide) rfl tb_120 dX8_init_24 hF (fun v3 h H hF A => ?_)
    refine mo_wpV C A (T := TX8) iX8 tyX8 tyX8_ok nmX8 rfl 2 (by decide) tb_671 rfl rfl rfl rfl dX8_init_26 hF (fun h H locs hF A => ?_)
    rw [hQ]
    exact mo_vret C A hr hlocks dX8_init_29 hF
  exact E h0 s.heap [] hF A
set_option maxHeartbeats 4000000 in
set_option maxRecDepth 100000 in
theorem c_X8_choose (l : Launch) (D : va_G) (dA : Nat → ClassId) (b0 : Nat) (x0 : Nat) (x1 : Nat) (x2 : Int32) : mo_Met l yX8_choose [Cond.code yX8_choose cX8_choose 6 none] 1 21 D dA b0 [.ref x0, .ref x1, .int x2] (fun _ : Unit => none) (F_X8_choose x0 x1 x2) := by
  refine mo_MetOf (own := RX8) (by decide) (Nat.le_of_ble_eq_true rfl) [(0, .ref x0), (1, .ref x1), (2, .int x2)] rfl rfl ?_
  intro p e R s m args below meth c Q h0 h2 z ls hQ C hml hr hlocks hnm hfr hlo hF A hl
  have hx := C.1
  have hb := C.2.1
  have hown := C.2.2.1
  have hts := C.2.2.2.1
  have hK := C.2.2.2.2.1
  have iX0 := inlX0
  have iX7 := inlX7
  have iX8 := inlX8
  have J127 : ∀ (k57 : Nat → Nat → Int32 → Int32 → mo_M Unit) (hk57 : ∀ (x0 : Nat) (x1 : Nat) (x3 : Int32) (x4 : Int32) (h : mo_H) (H : Heap) (locs : List Loc) (ls : Array Slot), mo_A D dA b0 s.heap h0 h H locs → lv_has ls 6 [(0, .ref x0), (1, .ref x1), (3, .int x3), (4, .int x4)] → (k57 x0 x1 x3 x4).1 h = some (z, h2) → W p l e R s m args below meth c H locs (h.2.1 - h0.2.1) (h.2.2 - h0.2.2) Q (F0 m 57 ls [])) (x0 : Nat) (x1 : Nat) (x3 : Int32) (x4 : Int32) (h : mo_H) (H : Heap) (locs : List Loc) (ls : Array Slot), mo_A D dA b0 s.heap h0 h H locs → lv_has ls 6 [(0, .ref x0), (1, .ref x1), (3, .int x3), (4, .int x4)] → (F_X8_choose_127 k57 x0 x1 x3 x4).1 h = some (z, h2) → W p l e R s m args below meth c H locs (h.2.1 - h0.2.1) (h.2.2 - h0.2.2) Q (F0 m 127 ls []) := by
    intro k57 hk57 x0 x1 x3 x4 h H locs ls A hl hF
    unfold F_X8_choose_127 at hF
    refine lv_iinc (v := (x4 + (-1 : Int32))) (lv' := [(4, .int (x4 + (-1 : Int32))), (0, .ref x0), (1, .ref x1), (3, .int x3)]) hx hb dX8_choose_127 hl (k := 3) rfl rfl (by decide) rfl (fun ls hl => ?_)
    refine lv_goto (tgt := 57) hx hb dX8_choose_130 (by decide) ?_
    exact hk57 x0 x1 x3 (x4 + (-1 : Int32)) h H locs ls A (lv_sub hl [1, 2, 3, 0] rfl) hF
  have J99 : ∀ (k57 : Nat → Nat → Int32 → Int32 → mo_M Unit) (hk57 : ∀ (x0 : Nat) (x1 : Nat) (x3 : Int32) (x4 : Int32) (h : mo_H) (H : Heap) (locs : List Loc) (ls : Array Slot), mo_A D dA b0 s.heap h0 h H locs → lv_has ls 6 [(0, .ref x0), (1, .ref x1), (3, .int x3), (4, .int x4)] → (k57 x0 x1 x3 x4).1 h = some (z, h2) → W p l e R s m args below meth c H locs (h.2.1 - h0.2.1) (h.2.2 - h0.2.2) Q (F0 m 57 ls [])) (x0 : Nat) (x1 : Nat) (x3 : Int32) (x4 : Int32) (x5 : Int32) (s0 : Nat) (s1 : Int32) (s2 : Int32) (h : mo_H) (H : Heap) (locs : List Loc) (ls : Array Slot), mo_A D dA b0 s.heap h0 h H locs → lv_has ls 6 [(0, .ref x0), (1, .ref x1), (3, .int x3), (4, .int x4), (5, .int x5)] → (F_X8_choose_99 k57 x0 x1 x3 x4 x5 s0 s1 s2).1 h = some (z, h2) → W p l e R s m args below meth c H locs (h.2.1 - h0.2.1) (h.2.2 - h0.2.2) Q (F0 m 99 ls [.int s2, .int s1, .ref s0]) := by
    intro k57 hk57 x0 x1 x3 x4 x5 s0 s1 s2 h H locs ls A hl hF
    unfold F_X8_choose_99 at hF
    refine mo_wsz C A dX8_choose_99 hF (fun h H locs hF A => ?_)
    refine lv_aload_n hx hb dX8_choose_100 rfl (lv_at hl 0 rfl) ?_
    refine mo_wR C A (T := TX8) iX8 rfl 2 (by decide) tb_671 rfl dX8_choose_101 hF (fun v1 hF => ?_)
    refine lv_iload hx hb dX8_choose_104 (lv_at hl 3 rfl) ?_
    refine mo_wlz C A dX8_choose_106 hF (fun v2 hF => ?_)
    refine lv_if_eq (tgt := 127) hx hb dX8_choose_107 (by decide) (fun c3 => ?_) (fun c3 => ?_)
    · have hF := mo_ifT c3 hF
      exact J127 k57 hk57 x0 x1 x3 x4 h H locs ls A (lv_sub hl [0, 1, 2, 3] rfl) hF
    · have hF := mo_ifF c3 hF
      refine lv_iload_n hx hb dX8_choose_110 rfl (lv_at hl 2 rfl) ?_
      refine lv_iconst (v := (1 : Int32)) hx hb dX8_choose_111 (by decide) ?_
      refine lv_iload hx hb dX8_choose_112 (lv_at hl 4 rfl) ?_
      refine lv_ishl hx hb dX8_choose_114 ?_
      refine lv_ior hx hb dX8_choose_115 ?_
      refine lv_istore_n (lv' := [(3, .int (x3 ||| ((1 : Int32) <<< (x5 &&& 31)))), (0, .ref x0), (1, .ref x1), (4, .int x4), (5, .int x5)]) hx hb dX8_choose_116 rfl hl (by decide) rfl (fun ls hl => ?_)
      refine lv_aload_n hx hb dX8_choose_117 rfl (lv_at hl 1 rfl) ?_
      refine lv_dup hx hb dX8_choose_118 rfl ?_
      refine mo_wI C A (T := TX8) iX8 rfl 4 (by decide) tb_679 rfl dX8_choose_119 hF (fun v4 hF => ?_)
      refine lv_iconst (v := (1 : Int32)) hx hb dX8_choose_122 (by decide) ?_
      refine lv_iadd hx hb dX8_choose_123 ?_
      refine mo_wpV C A (T := TX8) iX8 tyX8 tyX8_ok nmX8 rfl 4 (by decide) tb_679 rfl rfl rfl rfl dX8_choose_124 hF (fun h H locs hF A => ?_)
      exact J127 k57 hk57 x0 x1 (x3 ||| ((1 : Int32) <<< (x5 &&& 31))) x4 h H locs ls A (lv_sub hl [1, 2, 0, 3] rfl) hF
  have J57 : ∀   (fu : Nat) (x0 : Nat) (x1 : Nat) (x3 : Int32) (x4 : Int32) (h : mo_H) (H : Heap) (locs : List Loc) (ls : Array Slot), mo_A D dA b0 s.heap h0 h H locs → lv_has ls 6 [(0, .ref x0), (1, .ref x1), (3, .int x3), (4, .int x4)] → (F_X8_choose_57 fu x0 x1 x3 x4).1 h = some (z, h2) → W p l e R s m args below meth c H locs (h.2.1 - h0.2.1) (h.2.2 - h0.2.2) Q (F0 m 57 ls []) := by
    intro  fu
    induction fu with
    | zero =>
      intro x0 x1 x3 x4 h H locs ls A hl hF
      unfold F_X8_choose_57 at hF
      cases hF
    | succ fu ih =>
      intro x0 x1 x3 x4 h H locs ls A hl hF
      unfold F_X8_choose_57 at hF
      refine lv_iload hx hb dX8_choose_57 (lv_at hl 3 rfl) ?_
      refine lv_if_lt (tgt := 133) hx hb dX8_choose_59 (by decide) (fun c5 => ?_) (fun c5 => ?_)
      · have hF := mo_ifT c5 hF
        rw [hQ]
        exact mo_vret C A hr hlocks dX8_choose_133 hF
      · have hF := mo_ifF c5 hF
        refine lv_aload_n hx hb dX8_choose_62 rfl (lv_at hl 1 rfl) ?_
        refine mo_wRN C A (T := TX0) iX0 rfl 0 (by decide) (List.mem_of_getElem? (i := 58) rfl) rfl dX8_choose_63 hF (fun v6 hF => ?_)
        refine lv_iload hx hb dX8_choose_66 (lv_at hl 3 rfl) ?_
        refine mo_cV (n := 1) (As := [.int x4]) (rest := []) C A hml hl.1 (c_X9_get l D dA b0 v6 x4) (ci := 9) (q := (RX9, TX9, 2)) rfl (fun _ e => (mo_ckE e).1) (tb_v tb_681 tb_288 tb_289 tb_46 tb_290) rfl (by decide +kernel) ⟨Nat.le_trans (by decide) hfr, Nat.le_trans (Nat.le_of_ble_eq_true rfl) hlo⟩ rfl (Nat.le_of_ble_eq_true rfl) rfl dX8_choose_68 hF (fun v7 h H locs hF A => ?_)
        show W _ _ _ _ _ _ _ _ _ _ _ _ _ _ _ (F0 m 71 ls [.int v7])
        refine lv_istore (lv' := [(5, .int v7), (0, .ref x0), (1, .ref x1), (3, .int x3), (4, .int x4)]) hx hb dX8_choose_71 hl (by decide) rfl (fun ls hl => ?_)
        refine lv_aload_n hx hb dX8_choose_73 rfl (lv_at hl 1 rfl) ?_
        refine mo_wR C A (T := TX8) iX8 rfl 2 (by decide) tb_671 rfl dX8_choose_74 hF (fun v8 hF => ?_)
        refine lv_iload hx hb dX8_choose_77 (lv_at hl 4 rfl) ?_
        refine lv_aload_n hx hb dX8_choose_79 rfl (lv_at hl 1 rfl) ?_
        refine mo_wR C A (T := TX8) iX8 rfl 0 (by decide) tb_668 rfl dX8_choose_80 hF (fun v9 hF => ?_)
        refine mo_wRN C A (T := TX7) iX7 rfl 1 (by decide) (List.mem_of_getElem? (i := 7) rfl) rfl dX8_choose_83 hF (fun v10 hF => ?_)
        refine lv_iload hx hb dX8_choose_86 (lv_at hl 0 rfl) ?_
        refine mo_wla C A dX8_choose_88 hF (fun v11 hF => ?_)
        refine lv_iload_n hx hb dX8_choose_89 rfl (lv_at hl 3 rfl) ?_
        refine lv_iand hx hb dX8_choose_90 ?_
        refine lv_if_eq (tgt := 98) hx hb dX8_choose_91 (by decide) (fun c12 => ?_) (fun c12 => ?_)
        · have hF := mo_ifT c12 hF
          refine lv_iconst (v := (0 : Int32)) hx hb dX8_choose_98 (by decide) ?_
          exact J99 (F_X8_choose_57  fu) ih x0 x1 x3 x4 v7 v8 x4 (0 : Int32) h H locs ls A (lv_sub hl [1, 2, 3, 4, 0] rfl) hF
        · have hF := mo_ifF c12 hF
          refine lv_iconst (v := (1 : Int32)) hx hb dX8_choose_94 (by decide) ?_
          refine lv_goto (tgt := 99) hx hb dX8_choose_95 (by decide) ?_
          exact J99 (F_X8_choose_57  fu) ih x0 x1 x3 x4 v7 v8 x4 (1 : Int32) h H locs ls A (lv_sub hl [1, 2, 3, 4, 0] rfl) hF
  have J40 : ∀   (x0 : Nat) (x1 : Nat) (x2 : Int32) (h : mo_H) (H : Heap) (locs : List Loc) (ls : Array Slot), mo_A D dA b0 s.heap h0 h H locs → lv_has ls 6 [(0, .ref x0), (1, .ref x1), (2, .int x2)] → (F_X8_choose_40 x0 x1 x2).1 h = some (z, h2) → W p l e R s m args below meth c H locs (h.2.1 - h0.2.1) (h.2.2 - h0.2.2) Q (F0 m 40 ls []) := by
    intro  x0 x1 x2 h H locs ls A hl hF
    unfold F_X8_choose_40 at hF
    refine lv_aload_n hx hb dX8_choose_40 rfl (lv_at hl 0 rfl) ?_
    refine lv_iconst (v := (0 : Int32)) hx hb dX8_choose_41 (by decide) ?_
    refine mo_wpV C A (T := TX8) iX8 tyX8 tyX8_ok nmX8 rfl 4 (by decide) tb_679 rfl rfl rfl rfl dX8_choose_42 hF (fun h H locs hF A => ?_)
    refine lv_iconst (v := (1 : Int32)) hx hb dX8_choose_45 (by decide) ?_
    refine lv_iload_n hx hb dX8_choose_46 rfl (lv_at hl 2 rfl) ?_
    refine lv_ishl hx hb dX8_choose_47 ?_
    refine lv_istore_n (lv' := [(3, .int ((1 : Int32) <<< (x2 &&& 31))), (0, .ref x0), (1, .ref x1), (2, .int x2)]) hx hb dX8_choose_48 rfl hl (by decide) rfl (fun ls hl => ?_)
    refine lv_aload_n hx hb dX8_choose_49 rfl (lv_at hl 1 rfl) ?_
    refine mo_wI C A (T := TX8) iX8 rfl 3 (by decide) tb_677 rfl dX8_choose_50 hF (fun v13 hF => ?_)
    refine lv_iconst (v := (1 : Int32)) hx hb dX8_choose_53 (by decide) ?_
    refine lv_isub hx hb dX8_choose_54 ?_
    refine lv_istore (lv' := [(4, .int (v13 - (1 : Int32))), (3, .int ((1 : Int32) <<< (x2 &&& 31))), (0, .ref x0), (1, .ref x1), (2, .int x2)]) hx hb dX8_choose_55 hl (by decide) rfl (fun ls hl => ?_)
    exact J57 mo_fu x0 x1 ((1 : Int32) <<< (x2 &&& 31)) (v13 - (1 : Int32)) h H locs ls A (lv_sub hl [2, 3, 1, 0] rfl) hF
  unfold F_X8_choose at hF
  obtain ⟨-, hF⟩ := mo_ckE hF
  have E : ∀ (h : mo_H) (H : Heap) (locs : List Loc), (mo_b (F_X0_count x1) fun v14 => mo_b (mo_pV x0 8 3 (.int v14)) fun _ => mo_b (mo_gR x0 8 2) fun v15 => mo_b (mo_ln v15) fun v16 => mo_b (mo_gI x0 8 3) fun v17 => (if v17 ≤ v16 then F_X8_choose_40 x0 x1 x2 else mo_b (mo_gI x0 8 3) fun v19 => mo_b (mo_gR x0 8 2) fun v20 => mo_b (mo_ln v20) fun v21 => mo_b (mo_na 1 (if v19 < ((2 : Int32) * v21) then ((2 : Int32) * v21) else v19)) fun v22 => mo_b (mo_pV x0 8 2 (.ref v22)) fun _ => F_X8_choose_40 x0 x1 x2)).1 h = some (z, h2) → mo_A D dA b0 s.heap h0 h H locs → W p l e R s m args below meth c H locs (h.2.1 - h0.2.1) (h.2.2 - h0.2.2) Q (F0 m 0 ls []) := by
    intro h H locs hF A
    refine lv_aload_n hx hb dX8_choose_0 rfl (lv_at hl 0 rfl) ?_
    refine lv_aload_n hx hb dX8_choose_1 rfl (lv_at hl 1 rfl) ?_
    refine mo_cV (n := 0) (As := []) (rest := [.ref x0]) C A hml hl.1 (c_X0_count l D dA b0 x1) (ci := 0) (q := (RX0, TX0, 4)) rfl (fun _ e => (mo_ckE e).1) (tb_v tb_680 tb_304 tb_305 tb_33 tb_306) rfl (by decide +kernel) ⟨Nat.le_trans (by decide) hfr, Nat.le_trans (Nat.le_of_ble_eq_true rfl) hlo⟩ rfl (Nat.le_of_ble_eq_true rfl) rfl dX8_choose_2 hF (fun v14 h H locs hF A => ?_)
    show W _ _ _ _ _ _ _ _ _ _ _ _ _ _ _ (F0 m 5 ls [.int v14, .ref x0])
    refine mo_wpV C A (T := TX8) iX8 tyX8 tyX8_ok nmX8 rfl 3 (by decide) tb_677 rfl rfl rfl rfl dX8_choose_5 hF (fun h H locs hF A => ?_)
    refine lv_aload_n hx hb dX8_choose_8 rfl (lv_at hl 0 rfl) ?_
    refine mo_wR C A (T := TX8) iX8 rfl 2 (by decide) tb_671 rfl dX8_choose_9 hF (fun v15 hF => ?_)
    refine mo_wln C A dX8_choose_12 hF (fun v16 hF => ?_)
    refine lv_aload_n hx hb dX8_choose_13 rfl (lv_at hl 0 rfl) ?_
    refine mo_wI C A (T := TX8) iX8 rfl 3 (by decide) tb_677 rfl dX8_choose_14 hF (fun v17 hF => ?_)
    refine lv_icmp_ge (tgt := 40) hx hb dX8_choose_17 (by decide) (fun c18 => ?_) (fun c18 => ?_)
    · have hF := mo_ifT c18 hF
      exact J40 x0 x1 x2 h H locs ls A (lv_sub hl [0, 1, 2] rfl) hF
    · have hF := mo_ifF c18 hF
      refine lv_aload_n hx hb dX8_choose_20 rfl (lv_at hl 0 rfl) ?_
      refine lv_aload_n hx hb dX8_choose_21 rfl (lv_at hl 0 rfl) ?_
      refine mo_wI C A (T := TX8) iX8 rfl 3 (by decide) tb_677 rfl dX8_choose_22 hF (fun v19 hF => ?_)
      refine lv_iconst (v := (2 : Int32)) hx hb dX8_choose_25 (by decide) ?_
      refine lv_aload_n hx hb dX8_choose_26 rfl (lv_at hl 0 rfl) ?_
      refine mo_wR C A (T := TX8) iX8 rfl 2 (by decide) tb_671 rfl dX8_choose_27 hF (fun v20 hF => ?_)
      refine mo_wln C A dX8_choose_30 hF (fun v21 hF => ?_)
      refine lv_imul hx hb dX8_choose_31 ?_
      refine mo_wmx C A (by rw [hml]; exact hl.1.symm) tb_678 tb_24 tb_21 tb_25 (Nat.le_trans (by decide) hfr) (Nat.le_trans (Nat.le_of_ble_eq_true rfl) hlo) dX8_choose_32 hF ?_
      refine mo_wna C A (t := 1) (ty := .boolean) rfl (fun _ => rfl) (fun _ _ h => h) (by decide) rfl tb_120 dX8_choose_35 hF (fun v22 h H hF A => ?_)
      refine mo_wpV C A (T := TX8) iX8 tyX8 tyX8_ok nmX8 rfl 2 (by decide) tb_671 rfl rfl rfl rfl dX8_choose_37 hF (fun h H locs hF A => ?_)
      exact J40 x0 x1 x2 h H locs ls A (lv_sub hl [0, 1, 2] rfl) hF
  exact E h0 s.heap [] hF A
set_option maxHeartbeats 4000000 in
set_option maxRecDepth 100000 in
theorem c_X8_redo (l : Launch) (D : va_G) (dA : Nat → ClassId) (b0 : Nat) (x0 : Nat) (x1 : Nat) (x2 : Int32) : mo_Met l yX8_redo [Cond.code yX8_redo cX8_redo 4 none] 7 157 D dA b0 [.ref x0, .ref x1, .int x2] (fun _ : Unit => none) (F_X8_redo x0 x1 x2) := by
  refine mo_MetOf (own := RX8) (by decide) (Nat.le_of_ble_eq_true rfl) [(0, .ref x0), (1, .ref x1), (2, .int x2)] rfl rfl ?_
  intro p e R s m args below meth c Q h0 h2 z ls hQ C hml hr hlocks hnm hfr hlo hF A hl
  have hx := C.1
  have hb := C.2.1
  have hown := C.2.2.1
  have hts := C.2.2.2.1
  have hK := C.2.2.2.2.1
  have iX0 := inlX0
  have iX3 := inlX3
  have iX5 := inlX5
  have iX8 := inlX8
  have J96 : ∀ (k9 : Nat → Nat → Int32 → Int32 → mo_M Unit) (hk9 : ∀ (x0 : Nat) (x1 : Nat) (x2 : Int32) (x3 : Int32) (h : mo_H) (H : Heap) (locs : List Loc) (ls : Array Slot), mo_A D dA b0 s.heap h0 h H locs → lv_has ls 4 [(0, .ref x0), (1, .ref x1), (2, .int x2), (3, .int x3)] → (k9 x0 x1 x2 x3).1 h = some (z, h2) → W p l e R s m args below meth c H locs (h.2.1 - h0.2.1) (h.2.2 - h0.2.2) Q (F0 m 9 ls [])) (x0 : Nat) (x1 : Nat) (x2 : Int32) (x3 : Int32) (h : mo_H) (H : Heap) (locs : List Loc) (ls : Array Slot), mo_A D dA b0 s.heap h0 h H locs → lv_has ls 4 [(0, .ref x0), (1, .ref x1), (2, .int x2), (3, .int x3)] → (F_X8_redo_96 k9 x0 x1 x2 x3).1 h = some (z, h2) → W p l e R s m args below meth c H locs (h.2.1 - h0.2.1) (h.2.2 - h0.2.2) Q (F0 m 96 ls []) := by
    intro k9 hk9 x0 x1 x2 x3 h H locs ls A hl hF
    unfold F_X8_redo_96 at hF
    refine lv_iinc (v := (x3 + (1 : Int32))) (lv' := [(3, .int (x3 + (1 : Int32))), (0, .ref x0), (1, .ref x1), (2, .int x2)]) hx hb dX8_redo_96 hl (k := 3) rfl rfl (by decide) rfl (fun ls hl => ?_)
    refine lv_goto (tgt := 9) hx hb dX8_redo_99 (by decide) ?_
    exact hk9 x0 x1 x2 (x3 + (1 : Int32)) h H locs ls A (lv_sub hl [1, 2, 3, 0] rfl) hF
  have J102 : ∀   (x0 : Nat) (x2 : Int32) (h : mo_H) (H : Heap) (locs : List Loc) (ls : Array Slot), mo_A D dA b0 s.heap h0 h H locs → lv_has ls 4 [(0, .ref x0), (2, .int x2)] → (F_X8_redo_102 x0 x2).1 h = some (z, h2) → W p l e R s m args below meth c H locs (h.2.1 - h0.2.1) (h.2.2 - h0.2.2) Q (F0 m 102 ls []) := by
    intro  x0 x2 h H locs ls A hl hF
    unfold F_X8_redo_102 at hF
    refine lv_aload_n hx hb dX8_redo_102 rfl (lv_at hl 0 rfl) ?_
    refine mo_wR C A (T := TX8) iX8 rfl 1 (by decide) tb_670 rfl dX8_redo_103 hF (fun v1 hF => ?_)
    refine lv_iload_n hx hb dX8_redo_106 rfl (lv_at hl 1 rfl) ?_
    refine mo_cV (n := 1) (As := [.int x2]) (rest := []) C A hml hl.1 (c_X5_passIdleUntil l D dA b0 v1 x2) (ci := 5) (q := (RX5, TX5, 5)) rfl (fun _ e => (mo_ckE e).1) (tb_v tb_707 tb_708 tb_709 tb_29 tb_710) rfl (by decide +kernel) ⟨Nat.le_trans (by decide) hfr, Nat.le_trans (Nat.le_of_ble_eq_true rfl) hlo⟩ rfl (Nat.le_of_ble_eq_true rfl) rfl dX8_redo_107 hF (fun v2 h H locs hF A => ?_)
    show W _ _ _ _ _ _ _ _ _ _ _ _ _ _ _ (F0 m 110 ls [])
    rw [hQ]
    exact mo_vret C A hr hlocks dX8_redo_110 hF
  have J9 : ∀   (fu : Nat) (x0 : Nat) (x1 : Nat) (x2 : Int32) (x3 : Int32) (h : mo_H) (H : Heap) (locs : List Loc) (ls : Array Slot), mo_A D dA b0 s.heap h0 h H locs → lv_has ls 4 [(0, .ref x0), (1, .ref x1), (2, .int x2), (3, .int x3)] → (F_X8_redo_9 fu x0 x1 x2 x3).1 h = some (z, h2) → W p l e R s m args below meth c H locs (h.2.1 - h0.2.1) (h.2.2 - h0.2.2) Q (F0 m 9 ls []) := by
    intro  fu
    induction fu with
    | zero =>
      intro x0 x1 x2 x3 h H locs ls A hl hF
      unfold F_X8_redo_9 at hF
      cases hF
    | succ fu ih =>
      intro x0 x1 x2 x3 h H locs ls A hl hF
      unfold F_X8_redo_9 at hF
      refine lv_iload_n hx hb dX8_redo_9 rfl (lv_at hl 3 rfl) ?_
      refine lv_aload_n hx hb dX8_redo_10 rfl (lv_at hl 0 rfl) ?_
      refine mo_wI C A (T := TX8) iX8 rfl 3 (by decide) tb_677 rfl dX8_redo_11 hF (fun v3 hF => ?_)
      refine lv_icmp_ge (tgt := 102) hx hb dX8_redo_14 (by decide) (fun c4 => ?_) (fun c4 => ?_)
      · have hF := mo_ifT c4 hF
        exact J102 x0 x2 h H locs ls A (lv_sub hl [0, 2] rfl) hF
      · have hF := mo_ifF c4 hF
        refine lv_aload_n hx hb dX8_redo_17 rfl (lv_at hl 0 rfl) ?_
        refine mo_wR C A (T := TX8) iX8 rfl 2 (by decide) tb_671 rfl dX8_redo_18 hF (fun v5 hF => ?_)
        refine lv_iload_n hx hb dX8_redo_21 rfl (lv_at hl 3 rfl) ?_
        refine mo_wlz C A dX8_redo_22 hF (fun v6 hF => ?_)
        refine lv_if_ne (tgt := 29) hx hb dX8_redo_23 (by decide) (fun c7 => ?_) (fun c7 => ?_)
        · have hF := mo_ifF c7 hF
          refine lv_aload_n hx hb dX8_redo_29 rfl (lv_at hl 0 rfl) ?_
          refine mo_wR C A (T := TX8) iX8 rfl 1 (by decide) tb_670 rfl dX8_redo_30 hF (fun v8 hF => ?_)
          refine lv_aload_n hx hb dX8_redo_33 rfl (lv_at hl 1 rfl) ?_
          refine mo_wRN C A (T := TX0) iX0 rfl 2 (by decide) (List.mem_of_getElem? (i := 62) rfl) rfl dX8_redo_34 hF (fun v9 hF => ?_)
          refine lv_iload_n hx hb dX8_redo_37 rfl (lv_at hl 3 rfl) ?_
          refine mo_cV (n := 1) (As := [.int x3]) (rest := [.ref v8]) C A hml hl.1 (c_X9_get l D dA b0 v9 x3) (ci := 9) (q := (RX9, TX9, 2)) rfl (fun _ e => (mo_ckE e).1) (tb_v tb_681 tb_288 tb_289 tb_46 tb_290) rfl (by decide +kernel) ⟨Nat.le_trans (by decide) hfr, Nat.le_trans (Nat.le_of_ble_eq_true rfl) hlo⟩ rfl (Nat.le_of_ble_eq_true rfl) rfl dX8_redo_38 hF (fun v10 h H locs hF A => ?_)
          show W _ _ _ _ _ _ _ _ _ _ _ _ _ _ _ (F0 m 41 ls [.int v10, .ref v8])
          refine mo_cV (n := 1) (As := [.int v10]) (rest := []) C A hml hl.1 (c_X5_passIdleUntil l D dA b0 v8 v10) (ci := 5) (q := (RX5, TX5, 5)) rfl (fun _ e => (mo_ckE e).1) (tb_v tb_707 tb_708 tb_709 tb_29 tb_710) rfl (by decide +kernel) ⟨Nat.le_trans (by decide) hfr, Nat.le_trans (Nat.le_of_ble_eq_true rfl) hlo⟩ rfl (Nat.le_of_ble_eq_true rfl) rfl dX8_redo_41 hF (fun v11 h H locs hF A => ?_)
          show W _ _ _ _ _ _ _ _ _ _ _ _ _ _ _ (F0 m 44 ls [])
          refine lv_aload_n hx hb dX8_redo_44 rfl (lv_at hl 1 rfl) ?_
          refine mo_wRN C A (T := TX0) iX0 rfl 1 (by decide) (List.mem_of_getElem? (i := 60) rfl) rfl dX8_redo_45 hF (fun v12 hF => ?_)
          refine lv_iload_n hx hb dX8_redo_48 rfl (lv_at hl 3 rfl) ?_
          refine mo_cV (n := 1) (As := [.int x3]) (rest := []) C A hml hl.1 (c_X9_get l D dA b0 v12 x3) (ci := 9) (q := (RX9, TX9, 2)) rfl (fun _ e => (mo_ckE e).1) (tb_v tb_681 tb_288 tb_289 tb_46 tb_290) rfl (by decide +kernel) ⟨Nat.le_trans (by decide) hfr, Nat.le_trans (Nat.le_of_ble_eq_true rfl) hlo⟩ rfl (Nat.le_of_ble_eq_true rfl) rfl dX8_redo_49 hF (fun v13 h H locs hF A => ?_)
          show W _ _ _ _ _ _ _ _ _ _ _ _ _ _ _ (F0 m 52 ls [.int v13])
          refine lv_iconst (v := (1 : Int32)) hx hb dX8_redo_52 (by decide) ?_
          refine lv_icmp_ne (tgt := 89) hx hb dX8_redo_53 (by decide) (fun c14 => ?_) (fun c14 => ?_)
          · have hF := mo_ifF c14 hF
            refine lv_aload_n hx hb dX8_redo_89 rfl (lv_at hl 0 rfl) ?_
            refine mo_wR C A (T := TX8) iX8 rfl 1 (by decide) tb_670 rfl dX8_redo_90 hF (fun v15 hF => ?_)
            refine mo_cV (n := 0) (As := []) (rest := []) C A hml hl.1 (c_X5_passWithStep l D dA b0 v15) (ci := 5) (q := (RX5, TX5, 5)) rfl (fun _ e => (mo_ckE e).1) (tb_v tb_713 tb_349 tb_350 tb_29 tb_351) rfl (by decide +kernel) ⟨Nat.le_trans (by decide) hfr, Nat.le_trans (Nat.le_of_ble_eq_true rfl) hlo⟩ rfl (Nat.le_of_ble_eq_true rfl) rfl dX8_redo_93 hF (fun v16 h H locs hF A => ?_)
            show W _ _ _ _ _ _ _ _ _ _ _ _ _ _ _ (F0 m 96 ls [])
            exact J96 (F_X8_redo_9  fu) ih x0 x1 x2 x3 h H locs ls A (lv_sub hl [0, 1, 2, 3] rfl) hF
          · have hF := mo_ifT c14 hF
            refine lv_aload_n hx hb dX8_redo_56 rfl (lv_at hl 0 rfl) ?_
            refine mo_wR C A (T := TX8) iX8 rfl 1 (by decide) tb_670 rfl dX8_redo_57 hF (fun v17 hF => ?_)
            refine mo_wRN C A (T := TX5) iX5 rfl 1 (by decide) (List.mem_of_getElem? (i := 54) rfl) rfl dX8_redo_60 hF (fun v18 hF => ?_)
            refine lv_aload_n hx hb dX8_redo_63 rfl (lv_at hl 1 rfl) ?_
            refine mo_wRN C A (T := TX0) iX0 rfl 0 (by decide) (List.mem_of_getElem? (i := 58) rfl) rfl dX8_redo_64 hF (fun v19 hF => ?_)
            refine lv_iload_n hx hb dX8_redo_67 rfl (lv_at hl 3 rfl) ?_
            refine mo_cV (n := 1) (As := [.int x3]) (rest := [.ref v18]) C A hml hl.1 (c_X9_get l D dA b0 v19 x3) (ci := 9) (q := (RX9, TX9, 2)) rfl (fun _ e => (mo_ckE e).1) (tb_v tb_681 tb_288 tb_289 tb_46 tb_290) rfl (by decide +kernel) ⟨Nat.le_trans (by decide) hfr, Nat.le_trans (Nat.le_of_ble_eq_true rfl) hlo⟩ rfl (Nat.le_of_ble_eq_true rfl) rfl dX8_redo_68 hF (fun v20 h H locs hF A => ?_)
            show W _ _ _ _ _ _ _ _ _ _ _ _ _ _ _ (F0 m 71 ls [.int v20, .ref v18])
            refine mo_wlq C A (t := 4) (fun _ => rfl) dX8_redo_71 hF (fun v21 hF => ?_)
            refine mo_wRN C A (T := TX3) iX3 rfl 2 (by decide) (List.mem_of_getElem? (i := 22) rfl) rfl dX8_redo_72 hF (fun v22 hF => ?_)
            refine lv_aload_n hx hb dX8_redo_75 rfl (lv_at hl 1 rfl) ?_
            refine mo_wRN C A (T := TX0) iX0 rfl 3 (by decide) (List.mem_of_getElem? (i := 64) rfl) rfl dX8_redo_76 hF (fun v23 hF => ?_)
            refine lv_iload_n hx hb dX8_redo_79 rfl (lv_at hl 3 rfl) ?_
            refine mo_cV (n := 1) (As := [.int x3]) (rest := [.ref v22]) C A hml hl.1 (c_X9_get l D dA b0 v23 x3) (ci := 9) (q := (RX9, TX9, 2)) rfl (fun _ e => (mo_ckE e).1) (tb_v tb_681 tb_288 tb_289 tb_46 tb_290) rfl (by decide +kernel) ⟨Nat.le_trans (by decide) hfr, Nat.le_trans (Nat.le_of_ble_eq_true rfl) hlo⟩ rfl (Nat.le_of_ble_eq_true rfl) rfl dX8_redo_80 hF (fun v24 h H locs hF A => ?_)
            show W _ _ _ _ _ _ _ _ _ _ _ _ _ _ _ (F0 m 83 ls [.int v24, .ref v22])
            refine mo_cV (n := 1) (As := [.int v24]) (rest := []) C A hml hl.1 (c_X9_add l D dA b0 v22 v24) (ci := 9) (q := (RX9, TX9, 2)) rfl (fun _ e => (mo_ckE e).1) (tb_v tb_712 tb_232 tb_233 tb_46 tb_234) rfl (by decide +kernel) ⟨Nat.le_trans (by decide) hfr, Nat.le_trans (Nat.le_of_ble_eq_true rfl) hlo⟩ rfl (Nat.le_of_ble_eq_true rfl) rfl dX8_redo_83 hF (fun v25 h H locs hF A => ?_)
            show W _ _ _ _ _ _ _ _ _ _ _ _ _ _ _ (F0 m 86 ls [])
            refine lv_goto (tgt := 96) hx hb dX8_redo_86 (by decide) ?_
            exact J96 (F_X8_redo_9  fu) ih x0 x1 x2 x3 h H locs ls A (lv_sub hl [0, 1, 2, 3] rfl) hF
        · have hF := mo_ifT c7 hF
          refine lv_goto (tgt := 96) hx hb dX8_redo_26 (by decide) ?_
          exact J96 (F_X8_redo_9  fu) ih x0 x1 x2 x3 h H locs ls A (lv_sub hl [0, 1, 2, 3] rfl) hF
  unfold F_X8_redo at hF
  obtain ⟨-, hF⟩ := mo_ckE hF
  have E : ∀ (h : mo_H) (H : Heap) (locs : List Loc), (mo_b (mo_gR x0 8 1) fun v26 => mo_b (F_X5_reset v26) fun v27 => F_X8_redo_9 mo_fu x0 x1 x2 (0 : Int32)).1 h = some (z, h2) → mo_A D dA b0 s.heap h0 h H locs → W p l e R s m args below meth c H locs (h.2.1 - h0.2.1) (h.2.2 - h0.2.2) Q (F0 m 0 ls []) := by
    intro h H locs hF A
    refine lv_aload_n hx hb dX8_redo_0 rfl (lv_at hl 0 rfl) ?_
    refine mo_wR C A (T := TX8) iX8 rfl 1 (by decide) tb_670 rfl dX8_redo_1 hF (fun v26 hF => ?_)
    refine mo_cV (n := 0) (As := []) (rest := []) C A hml hl.1 (c_X5_reset l D dA b0 v26) (ci := 5) (q := (RX5, TX5, 5)) rfl (fun _ e => (mo_ckE e).1) (tb_v tb_686 tb_687 tb_688 tb_29 tb_689) rfl (by decide +kernel) ⟨Nat.le_trans (by decide) hfr, Nat.le_trans (Nat.le_of_ble_eq_true rfl) hlo⟩ rfl (Nat.le_of_ble_eq_true rfl) rfl dX8_redo_4 hF (fun v27 h H locs hF A => ?_)
    show W _ _ _ _ _ _ _ _ _ _ _ _ _ _ _ (F0 m 7 ls [])
    refine lv_iconst (v := (0 : Int32)) hx hb dX8_redo_7 (by decide) ?_
    refine lv_istore_n (lv' := [(3, .int (0 : Int32)), (0, .ref x0), (1, .ref x1), (2, .int x2)]) hx hb dX8_redo_8 rfl hl (by decide) rfl (fun ls hl => ?_)
    exact J9 mo_fu x0 x1 x2 (0 : Int32) h H locs ls A (lv_sub hl [1, 2, 3, 0] rfl) hF
  exact E h0 s.heap [] hF A
