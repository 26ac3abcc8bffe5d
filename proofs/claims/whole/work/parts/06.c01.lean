set_option maxHeartbeats 4000000 in
set_option maxRecDepth 100000 in
theorem c_X2_init (l : Launch) (D : va_G) (dA : Nat → ClassId) (b0 : Nat) (x0 : Nat) (x1 : Nat) : mo_Met l yX2_init [Cond.code yX2_init cX2_init 2 none] 1 12 D dA b0 [.ref x0, .ref x1] (fun _ : Unit => none) (F_X2_init x0 x1) := by
  refine mo_MetOf (own := RX2) (by decide) (Nat.le_of_ble_eq_true rfl) [(0, .ref x0), (1, .ref x1)] rfl rfl ?_
  intro p e R s m args below meth c Q h0 h2 z ls hQ C hml hr hlocks hnm hfr hlo hF A hl
  have hx := C.1
  have hb := C.2.1
  have hown := C.2.2.1
  have hts := C.2.2.2.1
  have hK := C.2.2.2.2.1
  have iX2 := inlX2
  unfold F_X2_init at hF
  have E : ∀ (h : mo_H) (H : Heap) (locs : List Loc), (mo_b (mo_pV x0 2 0 (.ref x1)) fun _ => mo_ret ()).1 h = some (z, h2) → mo_A D dA b0 s.heap h0 h H locs → W p l e R s m args below meth c H locs (h.2.1 - h0.2.1) (h.2.2 - h0.2.2) Q (F0 m 0 ls []) := by
    intro h H locs hF A
    refine lv_aload_n hx hb dX2_init_0 rfl (lv_at hl 0 rfl) ?_
    refine W.objInit hx hb hown (hts _ tb_104) (hts _ tb_14) (hts _ tb_15) rfl (by rw [hml]; exact hl.1) rfl dX2_init_1 (Nat.le_trans (by decide) hfr) (Nat.le_trans (Nat.le_of_ble_eq_true rfl) hlo) ?_
    refine W.eq (g2 := F0 m 4 ls []) rfl ?_
    refine lv_aload_n hx hb dX2_init_4 rfl (lv_at hl 0 rfl) ?_
    refine lv_aload_n hx hb dX2_init_5 rfl (lv_at hl 1 rfl) ?_
    refine mo_wpF C A (T := TX2) iX2 tyX2 tyX2_ok nmX2 rfl 0 (by decide) tb_105 rfl rfl hnm rfl rfl rfl dX2_init_6 hF (fun h H locs hF A => ?_)
    rw [hQ]
    exact mo_vret C A hr hlocks dX2_init_9 hF
  exact E h0 s.heap [] hF A
set_option maxHeartbeats 4000000 in
set_option maxRecDepth 100000 in
theorem c_X9_get (l : Launch) (D : va_G) (dA : Nat → ClassId) (b0 : Nat) (x0 : Nat) (x1 : Int32) : mo_Met l yX9_get [Cond.code yX9_get cX9_get 2 (some .int)] 0 0 D dA b0 [.ref x0, .int x1] (fun r : Int32 => some (.int r)) (F_X9_get x0 x1) := by
  refine mo_MetOf (own := RX9) (by decide) (Nat.le_of_ble_eq_true rfl) [(0, .ref x0), (1, .int x1)] rfl rfl ?_
  intro p e R s m args below meth c Q h0 h2 z ls hQ C hml hr hlocks hnm hfr hlo hF A hl
  have hx := C.1
  have hb := C.2.1
  have hown := C.2.2.1
  have hts := C.2.2.2.1
  have hK := C.2.2.2.2.1
  have iX9 := inlX9
  unfold F_X9_get at hF
  obtain ⟨-, hF⟩ := mo_ckE hF
  have E : ∀ (h : mo_H) (H : Heap) (locs : List Loc), ((if x1 < 0 then mo_ret (0 : Int32) else mo_b (mo_gI x0 9 1) fun v2 => (if v2 ≤ x1 then mo_ret (0 : Int32) else mo_b (mo_gR x0 9 0) fun v4 => mo_b (mo_la 0 v4 x1) fun v5 => mo_ret v5))).1 h = some (z, h2) → mo_A D dA b0 s.heap h0 h H locs → W p l e R s m args below meth c H locs (h.2.1 - h0.2.1) (h.2.2 - h0.2.2) Q (F0 m 0 ls []) := by
    intro h H locs hF A
    refine lv_iload_n hx hb dX9_get_0 rfl (lv_at hl 1 rfl) ?_
    refine lv_if_lt (tgt := 21) hx hb dX9_get_1 (by decide) (fun c1 => ?_) (fun c1 => ?_)
    · have hF := mo_ifT c1 hF
      refine lv_iconst (v := (0 : Int32)) hx hb dX9_get_21 (by decide) ?_
      rw [hQ]
      exact mo_iret C A hr hlocks dX9_get_22 hF
    · have hF := mo_ifF c1 hF
      refine lv_iload_n hx hb dX9_get_4 rfl (lv_at hl 1 rfl) ?_
      refine lv_aload_n hx hb dX9_get_5 rfl (lv_at hl 0 rfl) ?_
      refine mo_wI C A (T := TX9) iX9 rfl 1 (by decide) tb_235 rfl dX9_get_6 hF (fun v2 hF => ?_)
      refine lv_icmp_ge (tgt := 21) hx hb dX9_get_9 (by decide) (fun c3 => ?_) (fun c3 => ?_)
      · have hF := mo_ifT c3 hF
        refine lv_iconst (v := (0 : Int32)) hx hb dX9_get_21 (by decide) ?_
        rw [hQ]
        exact mo_iret C A hr hlocks dX9_get_22 hF
      · have hF := mo_ifF c3 hF
        refine lv_aload_n hx hb dX9_get_12 rfl (lv_at hl 0 rfl) ?_
        refine mo_wR C A (T := TX9) iX9 rfl 0 (by decide) tb_56 rfl dX9_get_13 hF (fun v4 hF => ?_)
        refine lv_iload_n hx hb dX9_get_16 rfl (lv_at hl 1 rfl) ?_
        refine mo_wla C A dX9_get_17 hF (fun v5 hF => ?_)
        refine lv_goto (tgt := 22) hx hb dX9_get_18 (by decide) ?_
        rw [hQ]
        exact mo_iret C A hr hlocks dX9_get_22 hF
  exact E h0 s.heap [] hF A
set_option maxHeartbeats 4000000 in
set_option maxRecDepth 100000 in
theorem c_X2_start (l : Launch) (D : va_G) (dA : Nat → ClassId) (b0 : Nat) (x0 : Nat) : mo_Met l yX2_start [Cond.code yX2_start cX2_start 1 none] 1 21 D dA b0 [.ref x0] (fun _ : Unit => none) (F_X2_start x0) := by
  refine mo_MetOf (own := RX2) (by decide) (Nat.le_of_ble_eq_true rfl) [(0, .ref x0)] rfl rfl ?_
  intro p e R s m args below meth c Q h0 h2 z ls hQ C hml hr hlocks hnm hfr hlo hF A hl
  have hx := C.1
  have hb := C.2.1
  have hown := C.2.2.1
  have hts := C.2.2.2.1
  have hK := C.2.2.2.2.1
  have iX2 := inlX2
  have iX7 := inlX7
  unfold F_X2_start at hF
  obtain ⟨-, hF⟩ := mo_ckE hF
  have E : ∀ (h : mo_H) (H : Heap) (locs : List Loc), (mo_b (mo_pV x0 2 1 (.int (0 : Int32))) fun _ => mo_b (mo_pV x0 2 2 (.int (0 : Int32))) fun _ => mo_b (mo_pV x0 2 3 (.int (0 : Int32))) fun _ => mo_b (mo_gR x0 2 0) fun v1 => mo_b (mo_gR v1 7 7) fun v2 => mo_b (mo_lq 2 v2 (0 : Int32)) fun v3 => mo_b (F_X9_get v3 (0 : Int32)) fun v4 => mo_b (mo_pV x0 2 4 (.int v4)) fun _ => mo_b (mo_pV x0 2 5 (.int (0 : Int32))) fun _ => mo_ret ()).1 h = some (z, h2) → mo_A D dA b0 s.heap h0 h H locs → W p l e R s m args below meth c H locs (h.2.1 - h0.2.1) (h.2.2 - h0.2.2) Q (F0 m 0 ls []) := by
    intro h H locs hF A
    refine lv_aload_n hx hb dX2_start_0 rfl (lv_at hl 0 rfl) ?_
    refine lv_iconst (v := (0 : Int32)) hx hb dX2_start_1 (by decide) ?_
    refine mo_wpV C A (T := TX2) iX2 tyX2 tyX2_ok nmX2 rfl 1 (by decide) tb_282 rfl rfl rfl rfl dX2_start_2 hF (fun h H locs hF A => ?_)
    refine lv_aload_n hx hb dX2_start_5 rfl (lv_at hl 0 rfl) ?_
    refine lv_iconst (v := (0 : Int32)) hx hb dX2_start_6 (by decide) ?_
    refine mo_wpV C A (T := TX2) iX2 tyX2 tyX2_ok nmX2 rfl 2 (by decide) tb_283 rfl rfl rfl rfl dX2_start_7 hF (fun h H locs hF A => ?_)
    refine lv_aload_n hx hb dX2_start_10 rfl (lv_at hl 0 rfl) ?_
    refine lv_iconst (v := (0 : Int32)) hx hb dX2_start_11 (by decide) ?_
    refine mo_wpV C A (T := TX2) iX2 tyX2 tyX2_ok nmX2 rfl 3 (by decide) tb_284 rfl rfl rfl rfl dX2_start_12 hF (fun h H locs hF A => ?_)
    refine lv_aload_n hx hb dX2_start_15 rfl (lv_at hl 0 rfl) ?_
    refine lv_aload_n hx hb dX2_start_16 rfl (lv_at hl 0 rfl) ?_
    refine mo_wR C A (T := TX2) iX2 rfl 0 (by decide) tb_105 rfl dX2_start_17 hF (fun v1 hF => ?_)
    refine mo_wRN C A (T := TX7) iX7 rfl 7 (by decide) (List.mem_of_getElem? (i := 18) rfl) rfl dX2_start_20 hF (fun v2 hF => ?_)
    refine lv_iconst (v := (0 : Int32)) hx hb dX2_start_23 (by decide) ?_
    refine mo_wlq C A (t := 2) (fun _ => rfl) dX2_start_24 hF (fun v3 hF => ?_)
    refine lv_iconst (v := (0 : Int32)) hx hb dX2_start_25 (by decide) ?_
    refine mo_cV (n := 1) (As := [.int (0 : Int32)]) (rest := [.ref x0]) C A hml hl.1 (c_X9_get l D dA b0 v3 (0 : Int32)) (ci := 9) (q := (RX9, TX9, 2)) rfl (fun _ e => (mo_ckE e).1) (tb_v tb_287 tb_288 tb_289 tb_46 tb_290) rfl (by decide +kernel) ⟨Nat.le_trans (by decide) hfr, Nat.le_trans (Nat.le_of_ble_eq_true rfl) hlo⟩ rfl (Nat.le_of_ble_eq_true rfl) rfl dX2_start_26 hF (fun v4 h H locs hF A => ?_)
    show W _ _ _ _ _ _ _ _ _ _ _ _ _ _ _ (F0 m 29 ls [.int v4, .ref x0])
    refine mo_wpV C A (T := TX2) iX2 tyX2 tyX2_ok nmX2 rfl 4 (by decide) tb_285 rfl rfl rfl rfl dX2_start_29 hF (fun h H locs hF A => ?_)
    refine lv_aload_n hx hb dX2_start_32 rfl (lv_at hl 0 rfl) ?_
    refine lv_iconst (v := (0 : Int32)) hx hb dX2_start_33 (by decide) ?_
    refine mo_wpV C A (T := TX2) iX2 tyX2 tyX2_ok nmX2 rfl 5 (by decide) tb_286 rfl rfl rfl rfl dX2_start_34 hF (fun h H locs hF A => ?_)
    rw [hQ]
    exact mo_vret C A hr hlocks dX2_start_37 hF
  exact E h0 s.heap [] hF A
set_option maxHeartbeats 4000000 in
set_option maxRecDepth 100000 in
theorem c_X2_slotDomain (l : Launch) (D : va_G) (dA : Nat → ClassId) (b0 : Nat) (x0 : Nat) : mo_Met l yX2_slotDomain [Cond.code yX2_slotDomain cX2_slotDomain 1 (some .int)] 1 21 D dA b0 [.ref x0] (fun r : Int32 => some (.int r)) (F_X2_slotDomain x0) := by
  refine mo_MetOf (own := RX2) (by decide) (Nat.le_of_ble_eq_true rfl) [(0, .ref x0)] rfl rfl ?_
  intro p e R s m args below meth c Q h0 h2 z ls hQ C hml hr hlocks hnm hfr hlo hF A hl
  have hx := C.1
  have hb := C.2.1
  have hown := C.2.2.1
  have hts := C.2.2.2.1
  have hK := C.2.2.2.2.1
  have iX2 := inlX2
  have iX7 := inlX7
  unfold F_X2_slotDomain at hF
  obtain ⟨-, hF⟩ := mo_ckE hF
  have E : ∀ (h : mo_H) (H : Heap) (locs : List Loc), (mo_b (mo_gR x0 2 0) fun v1 => mo_b (mo_gR v1 7 6) fun v2 => mo_b (mo_gI x0 2 2) fun v3 => mo_b (mo_lq 2 v2 v3) fun v4 => mo_b (mo_gI x0 2 3) fun v5 => mo_b (F_X9_get v4 v5) fun v6 => mo_ret v6).1 h = some (z, h2) → mo_A D dA b0 s.heap h0 h H locs → W p l e R s m args below meth c H locs (h.2.1 - h0.2.1) (h.2.2 - h0.2.2) Q (F0 m 0 ls []) := by
    intro h H locs hF A
    refine lv_aload_n hx hb dX2_slotDomain_0 rfl (lv_at hl 0 rfl) ?_
    refine mo_wR C A (T := TX2) iX2 rfl 0 (by decide) tb_105 rfl dX2_slotDomain_1 hF (fun v1 hF => ?_)
    refine mo_wRN C A (T := TX7) iX7 rfl 6 (by decide) (List.mem_of_getElem? (i := 16) rfl) rfl dX2_slotDomain_4 hF (fun v2 hF => ?_)
    refine lv_aload_n hx hb dX2_slotDomain_7 rfl (lv_at hl 0 rfl) ?_
    refine mo_wI C A (T := TX2) iX2 rfl 2 (by decide) tb_283 rfl dX2_slotDomain_8 hF (fun v3 hF => ?_)
    refine mo_wlq C A (t := 2) (fun _ => rfl) dX2_slotDomain_11 hF (fun v4 hF => ?_)
    refine lv_aload_n hx hb dX2_slotDomain_12 rfl (lv_at hl 0 rfl) ?_
    refine mo_wI C A (T := TX2) iX2 rfl 3 (by decide) tb_284 rfl dX2_slotDomain_13 hF (fun v5 hF => ?_)
    refine mo_cV (n := 1) (As := [.int v5]) (rest := []) C A hml hl.1 (c_X9_get l D dA b0 v4 v5) (ci := 9) (q := (RX9, TX9, 2)) rfl (fun _ e => (mo_ckE e).1) (tb_v tb_287 tb_288 tb_289 tb_46 tb_290) rfl (by decide +kernel) ⟨Nat.le_trans (by decide) hfr, Nat.le_trans (Nat.le_of_ble_eq_true rfl) hlo⟩ rfl (Nat.le_of_ble_eq_true rfl) rfl dX2_slotDomain_16 hF (fun v6 h H locs hF A => ?_)
    show W _ _ _ _ _ _ _ _ _ _ _ _ _ _ _ (F0 m 19 ls [.int v6])
    rw [hQ]
    exact mo_iret C A hr hlocks dX2_slotDomain_19 hF
  exact E h0 s.heap [] hF A
set_option maxHeartbeats 4000000 in
set_option maxRecDepth 100000 in
theorem c_X2_beginsSlot (l : Launch) (D : va_G) (dA : Nat → ClassId) (b0 : Nat) (x0 : Nat) : mo_Met l yX2_beginsSlot [Cond.code yX2_beginsSlot cX2_beginsSlot 1 (some .boolean)] 1 21 D dA b0 [.ref x0] (fun r : Int32 => some (.int r)) (F_X2_beginsSlot x0) := by
  refine mo_MetOf (own := RX2) (by decide) (Nat.le_of_ble_eq_true rfl) [(0, .ref x0)] rfl rfl ?_
  intro p e R s m args below meth c Q h0 h2 z ls hQ C hml hr hlocks hnm hfr hlo hF A hl
  have hx := C.1
  have hb := C.2.1
  have hown := C.2.2.1
  have hts := C.2.2.2.1
  have hK := C.2.2.2.2.1
  have iX2 := inlX2
  have iX7 := inlX7
  unfold F_X2_beginsSlot at hF
  obtain ⟨-, hF⟩ := mo_ckE hF
  have E : ∀ (h : mo_H) (H : Heap) (locs : List Loc), (mo_b (mo_gI x0 2 4) fun v1 => mo_b (mo_gR x0 2 0) fun v2 => mo_b (mo_gR v2 7 7) fun v3 => mo_b (mo_gI x0 2 2) fun v4 => mo_b (mo_lq 2 v3 v4) fun v5 => mo_b (mo_gI x0 2 3) fun v6 => mo_b (F_X9_get v5 v6) fun v7 => (if v1 = v7 then mo_rz (1 : Int32) else mo_rz (0 : Int32))).1 h = some (z, h2) → mo_A D dA b0 s.heap h0 h H locs → W p l e R s m args below meth c H locs (h.2.1 - h0.2.1) (h.2.2 - h0.2.2) Q (F0 m 0 ls []) := by
    intro h H locs hF A
    refine lv_aload_n hx hb dX2_beginsSlot_0 rfl (lv_at hl 0 rfl) ?_
    refine mo_wI C A (T := TX2) iX2 rfl 4 (by decide) tb_285 rfl dX2_beginsSlot_1 hF (fun v1 hF => ?_)
    refine lv_aload_n hx hb dX2_beginsSlot_4 rfl (lv_at hl 0 rfl) ?_
    refine mo_wR C A (T := TX2) iX2 rfl 0 (by decide) tb_105 rfl dX2_beginsSlot_5 hF (fun v2 hF => ?_)
    refine mo_wRN C A (T := TX7) iX7 rfl 7 (by decide) (List.mem_of_getElem? (i := 18) rfl) rfl dX2_beginsSlot_8 hF (fun v3 hF => ?_)
    refine lv_aload_n hx hb dX2_beginsSlot_11 rfl (lv_at hl 0 rfl) ?_
    refine mo_wI C A (T := TX2) iX2 rfl 2 (by decide) tb_283 rfl dX2_beginsSlot_12 hF (fun v4 hF => ?_)
    refine mo_wlq C A (t := 2) (fun _ => rfl) dX2_beginsSlot_15 hF (fun v5 hF => ?_)
    refine lv_aload_n hx hb dX2_beginsSlot_16 rfl (lv_at hl 0 rfl) ?_
    refine mo_wI C A (T := TX2) iX2 rfl 3 (by decide) tb_284 rfl dX2_beginsSlot_17 hF (fun v6 hF => ?_)
    refine mo_cV (n := 1) (As := [.int v6]) (rest := [.int v1]) C A hml hl.1 (c_X9_get l D dA b0 v5 v6) (ci := 9) (q := (RX9, TX9, 2)) rfl (fun _ e => (mo_ckE e).1) (tb_v tb_287 tb_288 tb_289 tb_46 tb_290) rfl (by decide +kernel) ⟨Nat.le_trans (by decide) hfr, Nat.le_trans (Nat.le_of_ble_eq_true rfl) hlo⟩ rfl (Nat.le_of_ble_eq_true rfl) rfl dX2_beginsSlot_20 hF (fun v7 h H locs hF A => ?_)
    show W _ _ _ _ _ _ _ _ _ _ _ _ _ _ _ (F0 m 23 ls [.int v7, .int v1])
    refine lv_icmp_ne (tgt := 30) hx hb dX2_beginsSlot_23 (by decide) (fun c8 => ?_) (fun c8 => ?_)
    · have hF := mo_ifF c8 hF
      refine lv_iconst (v := (0 : Int32)) hx hb dX2_beginsSlot_30 (by decide) ?_
      rw [hQ]
      exact mo_zret C A hr hlocks dX2_beginsSlot_31 hF
    · have hF := mo_ifT c8 hF
      refine lv_iconst (v := (1 : Int32)) hx hb dX2_beginsSlot_26 (by decide) ?_
      refine lv_goto (tgt := 31) hx hb dX2_beginsSlot_27 (by decide) ?_
      rw [hQ]
      exact mo_zret C A hr hlocks dX2_beginsSlot_31 hF
  exact E h0 s.heap [] hF A
set_option maxHeartbeats 4000000 in
set_option maxRecDepth 100000 in
theorem c_X2_advance (l : Launch) (D : va_G) (dA : Nat → ClassId) (b0 : Nat) (x0 : Nat) : mo_Met l yX2_advance [Cond.code yX2_advance cX2_advance 1 none] 1 21 D dA b0 [.ref x0] (fun _ : Unit => none) (F_X2_advance x0) := by
  refine mo_MetOf (own := RX2) (by decide) (Nat.le_of_ble_eq_true rfl) [(0, .ref x0)] rfl rfl ?_
  intro p e R s m args below meth c Q h0 h2 z ls hQ C hml hr hlocks hnm hfr hlo hF A hl
  have hx := C.1
  have hb := C.2.1
  have hown := C.2.2.1
  have hts := C.2.2.2.1
  have hK := C.2.2.2.2.1
  have iX2 := inlX2
  have iX7 := inlX7
  have iX9 := inlX9
  have J95 : ∀   (x0 : Nat) (h : mo_H) (H : Heap) (locs : List Loc) (ls : Array Slot), mo_A D dA b0 s.heap h0 h H locs → lv_has ls 1 [(0, .ref x0)] → (F_X2_advance_95 x0).1 h = some (z, h2) → W p l e R s m args below meth c H locs (h.2.1 - h0.2.1) (h.2.2 - h0.2.2) Q (F0 m 95 ls []) := by
    intro  x0 h H locs ls A hl hF
    unfold F_X2_advance_95 at hF
    refine lv_aload_n hx hb dX2_advance_95 rfl (lv_at hl 0 rfl) ?_
    refine lv_aload_n hx hb dX2_advance_96 rfl (lv_at hl 0 rfl) ?_
    refine mo_wR C A (T := TX2) iX2 rfl 0 (by decide) tb_105 rfl dX2_advance_97 hF (fun v1 hF => ?_)
    refine mo_wRN C A (T := TX7) iX7 rfl 7 (by decide) (List.mem_of_getElem? (i := 18) rfl) rfl dX2_advance_100 hF (fun v2 hF => ?_)
    refine lv_aload_n hx hb dX2_advance_103 rfl (lv_at hl 0 rfl) ?_
    refine mo_wI C A (T := TX2) iX2 rfl 2 (by decide) tb_283 rfl dX2_advance_104 hF (fun v3 hF => ?_)
    refine mo_wlq C A (t := 2) (fun _ => rfl) dX2_advance_107 hF (fun v4 hF => ?_)
    refine lv_aload_n hx hb dX2_advance_108 rfl (lv_at hl 0 rfl) ?_
    refine mo_wI C A (T := TX2) iX2 rfl 3 (by decide) tb_284 rfl dX2_advance_109 hF (fun v5 hF => ?_)
    refine mo_cV (n := 1) (As := [.int v5]) (rest := [.ref x0]) C A hml hl.1 (c_X9_get l D dA b0 v4 v5) (ci := 9) (q := (RX9, TX9, 2)) rfl (fun _ e => (mo_ckE e).1) (tb_v tb_287 tb_288 tb_289 tb_46 tb_290) rfl (by decide +kernel) ⟨Nat.le_trans (by decide) hfr, Nat.le_trans (Nat.le_of_ble_eq_true rfl) hlo⟩ rfl (Nat.le_of_ble_eq_true rfl) rfl dX2_advance_112 hF (fun v6 h H locs hF A => ?_)
    show W _ _ _ _ _ _ _ _ _ _ _ _ _ _ _ (F0 m 115 ls [.int v6, .ref x0])
    refine mo_wpV C A (T := TX2) iX2 tyX2 tyX2_ok nmX2 rfl 4 (by decide) tb_285 rfl rfl rfl rfl dX2_advance_115 hF (fun h H locs hF A => ?_)
    rw [hQ]
    exact mo_vret C A hr hlocks dX2_advance_118 hF
  have J87 : ∀   (x0 : Nat) (s0 : Nat) (s1 : Int32) (h : mo_H) (H : Heap) (locs : List Loc) (ls : Array Slot), mo_A D dA b0 s.heap h0 h H locs → lv_has ls 1 [(0, .ref x0)] → (F_X2_advance_87 x0 s0 s1).1 h = some (z, h2) → W p l e R s m args below meth c H locs (h.2.1 - h0.2.1) (h.2.2 - h0.2.2) Q (F0 m 87 ls [.int s1, .ref s0]) := by
    intro  x0 s0 s1 h H locs ls A hl hF
    unfold F_X2_advance_87 at hF
    refine mo_wpV C A (T := TX2) iX2 tyX2 tyX2_ok nmX2 rfl 2 (by decide) tb_283 rfl rfl rfl rfl dX2_advance_87 hF (fun h H locs hF A => ?_)
    refine lv_aload_n hx hb dX2_advance_90 rfl (lv_at hl 0 rfl) ?_
    refine lv_iconst (v := (0 : Int32)) hx hb dX2_advance_91 (by decide) ?_
    refine mo_wpV C A (T := TX2) iX2 tyX2 tyX2_ok nmX2 rfl 3 (by decide) tb_284 rfl rfl rfl rfl dX2_advance_92 hF (fun h H locs hF A => ?_)
    exact J95 x0 h H locs ls A (lv_sub hl [0] rfl) hF
  unfold F_X2_advance at hF
  obtain ⟨-, hF⟩ := mo_ckE hF
  have E : ∀ (h : mo_H) (H : Heap) (locs : List Loc), (mo_b (mo_gI x0 2 1) fun v7 => mo_b (mo_pV x0 2 1 (.int (v7 + (1 : Int32)))) fun _ => mo_b (mo_gI x0 2 4) fun v8 => mo_b (mo_pV x0 2 4 (.int (v8 - (1 : Int32)))) fun _ => mo_b (mo_gI x0 2 4) fun v9 => (if v9 ≤ 0 then mo_b (mo_gI x0 2 3) fun v11 => mo_b (mo_pV x0 2 3 (.int (v11 + (1 : Int32)))) fun _ => mo_b (mo_gI x0 2 3) fun v12 => mo_b (mo_gR x0 2 0) fun v13 => mo_b (mo_gR v13 7 7) fun v14 => mo_b (mo_gI x0 2 2) fun v15 => mo_b (mo_lq 2 v14 v15) fun v16 => mo_b (mo_gI v16 9 1) fun v17 => (if v12 < v17 then F_X2_advance_95 x0 else mo_b (mo_gR x0 2 0) fun v19 => mo_b (mo_gR v19 7 7) fun v20 => mo_b (mo_gI x0 2 5) fun v21 => mo_b (mo_lq 2 v20 v21) fun v22 => mo_b (mo_gI v22 9 1) fun v23 => (if v23 ≤ 0 then F_X2_advance_87 x0 x0 (0 : Int32) else mo_b (mo_gI x0 2 5) fun v25 => F_X2_advance_87 x0 x0 v25)) else mo_ret ())).1 h = some (z, h2) → mo_A D dA b0 s.heap h0 h H locs → W p l e R s m args below meth c H locs (h.2.1 - h0.2.1) (h.2.2 - h0.2.2) Q (F0 m 0 ls []) := by
    intro h H locs hF A
    refine lv_aload_n hx hb dX2_advance_0 rfl (lv_at hl 0 rfl) ?_
    refine lv_dup hx hb dX2_advance_1 rfl ?_
    refine mo_wI C A (T := TX2) iX2 rfl 1 (by decide) tb_282 rfl dX2_advance_2 hF (fun v7 hF => ?_)
    refine lv_iconst (v := (1 : Int32)) hx hb dX2_advance_5 (by decide) ?_
    refine lv_iadd hx hb dX2_advance_6 ?_
    refine mo_wpV C A (T := TX2) iX2 tyX2 tyX2_ok nmX2 rfl 1 (by decide) tb_282 rfl rfl rfl rfl dX2_advance_7 hF (fun h H locs hF A => ?_)
    refine lv_aload_n hx hb dX2_advance_10 rfl (lv_at hl 0 rfl) ?_
    refine lv_dup hx hb dX2_advance_11 rfl ?_
    refine mo_wI C A (T := TX2) iX2 rfl 4 (by decide) tb_285 rfl dX2_advance_12 hF (fun v8 hF => ?_)
    refine lv_iconst (v := (1 : Int32)) hx hb dX2_advance_15 (by decide) ?_
    refine lv_isub hx hb dX2_advance_16 ?_
    refine mo_wpV C A (T := TX2) iX2 tyX2 tyX2_ok nmX2 rfl 4 (by decide) tb_285 rfl rfl rfl rfl dX2_advance_17 hF (fun h H locs hF A => ?_)
    refine lv_aload_n hx hb dX2_advance_20 rfl (lv_at hl 0 rfl) ?_
    refine mo_wI C A (T := TX2) iX2 rfl 4 (by decide) tb_285 rfl dX2_advance_21 hF (fun v9 hF => ?_)
    refine lv_if_le (tgt := 28) hx hb dX2_advance_24 (by decide) (fun c10 => ?_) (fun c10 => ?_)
    · have hF := mo_ifT c10 hF
      refine lv_aload_n hx hb dX2_advance_28 rfl (lv_at hl 0 rfl) ?_
      refine lv_dup hx hb dX2_advance_29 rfl ?_
      refine mo_wI C A (T := TX2) iX2 rfl 3 (by decide) tb_284 rfl dX2_advance_30 hF (fun v11 hF => ?_)
      refine lv_iconst (v := (1 : Int32)) hx hb dX2_advance_33 (by decide) ?_
      refine lv_iadd hx hb dX2_advance_34 ?_
      refine mo_wpV C A (T := TX2) iX2 tyX2 tyX2_ok nmX2 rfl 3 (by decide) tb_284 rfl rfl rfl rfl dX2_advance_35 hF (fun h H locs hF A => ?_)
      refine lv_aload_n hx hb dX2_advance_38 rfl (lv_at hl 0 rfl) ?_
      refine mo_wI C A (T := TX2) iX2 rfl 3 (by decide) tb_284 rfl dX2_advance_39 hF (fun v12 hF => ?_)
      refine lv_aload_n hx hb dX2_advance_42 rfl (lv_at hl 0 rfl) ?_
      refine mo_wR C A (T := TX2) iX2 rfl 0 (by decide) tb_105 rfl dX2_advance_43 hF (fun v13 hF => ?_)
      refine mo_wRN C A (T := TX7) iX7 rfl 7 (by decide) (List.mem_of_getElem? (i := 18) rfl) rfl dX2_advance_46 hF (fun v14 hF => ?_)
      refine lv_aload_n hx hb dX2_advance_49 rfl (lv_at hl 0 rfl) ?_
      refine mo_wI C A (T := TX2) iX2 rfl 2 (by decide) tb_283 rfl dX2_advance_50 hF (fun v15 hF => ?_)
      refine mo_wlq C A (t := 2) (fun _ => rfl) dX2_advance_53 hF (fun v16 hF => ?_)
      refine mo_wIN C A (T := TX9) iX9 rfl 1 (by decide) (List.mem_of_getElem? (i := 2) rfl) rfl dX2_advance_54 hF (fun v17 hF => ?_)
      refine lv_icmp_lt (tgt := 95) hx hb dX2_advance_57 (by decide) (fun c18 => ?_) (fun c18 => ?_)
      · have hF := mo_ifT c18 hF
        exact J95 x0 h H locs ls A (lv_sub hl [0] rfl) hF
      · have hF := mo_ifF c18 hF
        refine lv_aload_n hx hb dX2_advance_60 rfl (lv_at hl 0 rfl) ?_
        refine lv_aload_n hx hb dX2_advance_61 rfl (lv_at hl 0 rfl) ?_
        refine mo_wR C A (T := TX2) iX2 rfl 0 (by decide) tb_105 rfl dX2_advance_62 hF (fun v19 hF => ?_)
        refine mo_wRN C A (T := TX7) iX7 rfl 7 (by decide) (List.mem_of_getElem? (i := 18) rfl) rfl dX2_advance_65 hF (fun v20 hF => ?_)
        refine lv_aload_n hx hb dX2_advance_68 rfl (lv_at hl 0 rfl) ?_
        refine mo_wI C A (T := TX2) iX2 rfl 5 (by decide) tb_286 rfl dX2_advance_69 hF (fun v21 hF => ?_)
        refine mo_wlq C A (t := 2) (fun _ => rfl) dX2_advance_72 hF (fun v22 hF => ?_)
        refine mo_wIN C A (T := TX9) iX9 rfl 1 (by decide) (List.mem_of_getElem? (i := 2) rfl) rfl dX2_advance_73 hF (fun v23 hF => ?_)
        refine lv_if_le (tgt := 86) hx hb dX2_advance_76 (by decide) (fun c24 => ?_) (fun c24 => ?_)
        · have hF := mo_ifT c24 hF
          refine lv_iconst (v := (0 : Int32)) hx hb dX2_advance_86 (by decide) ?_
          exact J87 x0 x0 (0 : Int32) h H locs ls A (lv_sub hl [0] rfl) hF
        · have hF := mo_ifF c24 hF
          refine lv_aload_n hx hb dX2_advance_79 rfl (lv_at hl 0 rfl) ?_
          refine mo_wI C A (T := TX2) iX2 rfl 5 (by decide) tb_286 rfl dX2_advance_80 hF (fun v25 hF => ?_)
          refine lv_goto (tgt := 87) hx hb dX2_advance_83 (by decide) ?_
          exact J87 x0 x0 v25 h H locs ls A (lv_sub hl [0] rfl) hF
    · have hF := mo_ifF c10 hF
      rw [hQ]
      exact mo_vret C A hr hlocks dX2_advance_27 hF
  exact E h0 s.heap [] hF A
set_option maxHeartbeats 4000000 in
set_option maxRecDepth 100000 in
theorem c_X3_init (l : Launch) (D : va_G) (dA : Nat → ClassId) (b0 : Nat) (x0 : Nat) : mo_Met l yX3_init [Cond.code yX3_init cX3_init 1 none] 2 35 D dA b0 [.ref x0] (fun _ : Unit => none) (F_X3_init x0) := by
  refine mo_MetOf (own := RX3) (by decide) (Nat.le_of_ble_eq_true rfl) [(0, .ref x0)] rfl rfl ?_
  intro p e R s m args below meth c Q h0 h2 z ls hQ C hml hr hlocks hnm hfr hlo hF A hl
  have hx := C.1
  have hb := C.2.1
  have hown := C.2.2.1
  have hts := C.2.2.2.1
  have hK := C.2.2.2.2.1
  have iX3 := inlX3
  have iX9 := inlX9
  unfold F_X3_init at hF
  have E : ∀ (h : mo_H) (H : Heap) (locs : List Loc), (mo_b (mo_na 0 (8 : Int32)) fun v1 => mo_b (mo_pV x0 3 0 (.ref v1)) fun _ => mo_b (mo_na 0 (32 : Int32)) fun v2 => mo_b (mo_pV x0 3 1 (.ref v2)) fun _ => mo_b (mo_nc 9 dfX9) fun v3 => mo_b (F_X9_init v3 (8 : Int32)) fun v4 => mo_b (mo_pV x0 3 2 (.ref v3)) fun _ => mo_b (mo_nc 9 dfX9) fun v5 => mo_b (F_X9_init v5 (8 : Int32)) fun v6 => mo_b (mo_pV x0 3 3 (.ref v5)) fun _ => mo_ret ()).1 h = some (z, h2) → mo_A D dA b0 s.heap h0 h H locs → W p l e R s m args below meth c H locs (h.2.1 - h0.2.1) (h.2.2 - h0.2.2) Q (F0 m 0 ls []) := by
    intro h H locs hF A
    refine lv_aload_n hx hb dX3_init_0 rfl (lv_at hl 0 rfl) ?_
    refine W.objInit hx hb hown (hts _ tb_77) (hts _ tb_14) (hts _ tb_15) rfl (by rw [hml]; exact hl.1) rfl dX3_init_1 (Nat.le_trans (by decide) hfr) (Nat.le_trans (Nat.le_of_ble_eq_true rfl) hlo) ?_
    refine W.eq (g2 := F0 m 4 ls []) rfl ?_
    refine lv_aload_n hx hb dX3_init_4 rfl (lv_at hl 0 rfl) ?_
    refine lv_bipush (v := (8 : Int32)) hx hb dX3_init_5 (by decide) ?_
    refine mo_wna C A (t := 0) (ty := .int) rfl (fun _ => rfl) (fun _ _ h => h) (by decide) rfl tb_40 dX3_init_7 hF (fun v1 h H hF A => ?_)
    refine mo_wpF C A (T := TX3) iX3 tyX3 tyX3_ok nmX3 rfl 0 (by decide) tb_78 rfl rfl hnm rfl rfl rfl dX3_init_9 hF (fun h H locs hF A => ?_)
    refine lv_aload_n hx hb dX3_init_12 rfl (lv_at hl 0 rfl) ?_
    refine lv_bipush (v := (32 : Int32)) hx hb dX3_init_13 (by decide) ?_
    refine mo_wna C A (t := 0) (ty := .int) rfl (fun _ => rfl) (fun _ _ h => h) (by decide) rfl tb_40 dX3_init_15 hF (fun v2 h H hF A => ?_)
    refine mo_wpF C A (T := TX3) iX3 tyX3 tyX3_ok nmX3 rfl 1 (by decide) tb_79 rfl rfl hnm rfl rfl rfl dX3_init_17 hF (fun h H locs hF A => ?_)
    refine lv_aload_n hx hb dX3_init_20 rfl (lv_at hl 0 rfl) ?_
    refine mo_wnc C A (T := TX9) iX9 tyX9 tyX9_ok rfl tb_80 tb_45 tb_46 dfX9_ok rfl dX3_init_21 hF (fun v3 h H hF A => ?_)
    refine lv_dup hx hb dX3_init_24 rfl ?_
    refine lv_bipush (v := (8 : Int32)) hx hb dX3_init_25 (by decide) ?_
    refine mo_cI (n := 1) (As := [.int (8 : Int32)]) (rest := [.ref v3, .ref x0]) C A hml hl.1 (c_X9_init l D dA b0 v3 (8 : Int32)) (tb_o tb_53) rfl tb_46 tb_83 tb_52 rfl (by decide +kernel) ⟨Nat.le_trans (by decide) hfr, Nat.le_trans (Nat.le_of_ble_eq_true rfl) hlo⟩ rfl (Nat.le_of_ble_eq_true rfl) rfl dX3_init_27 hF (fun v4 h H locs hF A => ?_)
    show W _ _ _ _ _ _ _ _ _ _ _ _ _ _ _ (F0 m 30 ls [.ref v3, .ref x0])
    refine mo_wpF C A (T := TX3) iX3 tyX3 tyX3_ok nmX3 rfl 2 (by decide) tb_81 rfl rfl hnm rfl rfl rfl dX3_init_30 hF (fun h H locs hF A => ?_)
    refine lv_aload_n hx hb dX3_init_33 rfl (lv_at hl 0 rfl) ?_
    refine mo_wnc C A (T := TX9) iX9 tyX9 tyX9_ok rfl tb_80 tb_45 tb_46 dfX9_ok rfl dX3_init_34 hF (fun v5 h H hF A => ?_)
    refine lv_dup hx hb dX3_init_37 rfl ?_
    refine lv_bipush (v := (8 : Int32)) hx hb dX3_init_38 (by decide) ?_
    refine mo_cI (n := 1) (As := [.int (8 : Int32)]) (rest := [.ref v5, .ref x0]) C A hml hl.1 (c_X9_init l D dA b0 v5 (8 : Int32)) (tb_o tb_53) rfl tb_46 tb_83 tb_52 rfl (by decide +kernel) ⟨Nat.le_trans (by decide) hfr, Nat.le_trans (Nat.le_of_ble_eq_true rfl) hlo⟩ rfl (Nat.le_of_ble_eq_true rfl) rfl dX3_init_40 hF (fun v6 h H locs hF A => ?_)
    show W _ _ _ _ _ _ _ _ _ _ _ _ _ _ _ (F0 m 43 ls [.ref v5, .ref x0])
    refine mo_wpF C A (T := TX3) iX3 tyX3 tyX3_ok nmX3 rfl 3 (by decide) tb_82 rfl rfl hnm rfl rfl rfl dX3_init_43 hF (fun h H locs hF A => ?_)
    rw [hQ]
    exact mo_vret C A hr hlocks dX3_init_46 hF
  exact E h0 s.heap [] hF A
set_option maxHeartbeats 4000000 in
set_option maxRecDepth 100000 in
theorem c_X3_clearMemory (l : Launch) (D : va_G) (dA : Nat → ClassId) (b0 : Nat) (x0 : Nat) : mo_Met l yX3_clearMemory [Cond.code yX3_clearMemory cX3_clearMemory 1 none] 1 23 D dA b0 [.ref x0] (fun _ : Unit => none) (F_X3_clearMemory x0) := by
  refine mo_MetOf (own := RX3) (by decide) (Nat.le_of_ble_eq_true rfl) [(0, .ref x0)] rfl rfl ?_
  intro p e R s m args below meth c Q h0 h2 z ls hQ C hml hr hlocks hnm hfr hlo hF A hl
  have hx := C.1
  have hb := C.2.1
  have hown := C.2.2.1
  have hts := C.2.2.2.1
  have hK := C.2.2.2.2.1
  have iX3 := inlX3
  unfold F_X3_clearMemory at hF
  obtain ⟨-, hF⟩ := mo_ckE hF
  have E : ∀ (h : mo_H) (H : Heap) (locs : List Loc), (mo_b (mo_pV x0 3 4 (.int (0 : Int32))) fun _ => mo_b (mo_gR x0 3 0) fun v1 => mo_b (F_J7_fill_53178 v1 (0 : Int32)) fun v2 => mo_b (mo_gR x0 3 1) fun v3 => mo_b (F_J7_fill_53178 v3 (0 : Int32)) fun v4 => mo_ret ()).1 h = some (z, h2) → mo_A D dA b0 s.heap h0 h H locs → W p l e R s m args below meth c H locs (h.2.1 - h0.2.1) (h.2.2 - h0.2.2) Q (F0 m 0 ls []) := by
    intro h H locs hF A
    refine lv_aload_n hx hb dX3_clearMemory_0 rfl (lv_at hl 0 rfl) ?_
    refine lv_iconst (v := (0 : Int32)) hx hb dX3_clearMemory_1 (by decide) ?_
    refine mo_wpV C A (T := TX3) iX3 tyX3 tyX3_ok nmX3 rfl 4 (by decide) tb_502 rfl rfl rfl rfl dX3_clearMemory_2 hF (fun h H locs hF A => ?_)
    refine lv_aload_n hx hb dX3_clearMemory_5 rfl (lv_at hl 0 rfl) ?_
    refine mo_wR C A (T := TX3) iX3 rfl 0 (by decide) tb_78 rfl dX3_clearMemory_6 hF (fun v1 hF => ?_)
    refine lv_iconst (v := (0 : Int32)) hx hb dX3_clearMemory_9 (by decide) ?_
    refine mo_cS (n := 2) (As := [.ref v1, .int (0 : Int32)]) (rest := []) C A hml hl.1 (c_J7_fill_53178 l D dA b0 v1 (0 : Int32)) (tb_s tb_512 tb_513 tb_238 tb_514) rfl (by decide +kernel) ⟨Nat.le_trans (by decide) hfr, Nat.le_trans (Nat.le_of_ble_eq_true rfl) hlo⟩ rfl (Nat.le_of_ble_eq_true rfl) rfl dX3_clearMemory_10 hF (fun v2 h H locs hF A => ?_)
    show W _ _ _ _ _ _ _ _ _ _ _ _ _ _ _ (F0 m 13 ls [])
    refine lv_aload_n hx hb dX3_clearMemory_13 rfl (lv_at hl 0 rfl) ?_
    refine mo_wR C A (T := TX3) iX3 rfl 1 (by decide) tb_79 rfl dX3_clearMemory_14 hF (fun v3 hF => ?_)
    refine lv_iconst (v := (0 : Int32)) hx hb dX3_clearMemory_17 (by decide) ?_
    refine mo_cS (n := 2) (As := [.ref v3, .int (0 : Int32)]) (rest := []) C A hml hl.1 (c_J7_fill_53178 l D dA b0 v3 (0 : Int32)) (tb_s tb_512 tb_513 tb_238 tb_514) rfl (by decide +kernel) ⟨Nat.le_trans (by decide) hfr, Nat.le_trans (Nat.le_of_ble_eq_true rfl) hlo⟩ rfl (Nat.le_of_ble_eq_true rfl) rfl dX3_clearMemory_18 hF (fun v4 h H locs hF A => ?_)
    show W _ _ _ _ _ _ _ _ _ _ _ _ _ _ _ (F0 m 21 ls [])
    rw [hQ]
    exact mo_vret C A hr hlocks dX3_clearMemory_21 hF
  exact E h0 s.heap [] hF A
set_option maxHeartbeats 4000000 in
set_option maxRecDepth 100000 in
theorem c_X9_clear (l : Launch) (D : va_G) (dA : Nat → ClassId) (b0 : Nat) (x0 : Nat) : mo_Met l yX9_clear [Cond.code yX9_clear cX9_clear 1 none] 0 0 D dA b0 [.ref x0] (fun _ : Unit => none) (F_X9_clear x0) := by
  refine mo_MetOf (own := RX9) (by decide) (Nat.le_of_ble_eq_true rfl) [(0, .ref x0)] rfl rfl ?_
  intro p e R s m args below meth c Q h0 h2 z ls hQ C hml hr hlocks hnm hfr hlo hF A hl
  have hx := C.1
  have hb := C.2.1
  have hown := C.2.2.1
  have hts := C.2.2.2.1
  have hK := C.2.2.2.2.1
  have iX9 := inlX9
  unfold F_X9_clear at hF
  obtain ⟨-, hF⟩ := mo_ckE hF
  have E : ∀ (h : mo_H) (H : Heap) (locs : List Loc), (mo_b (mo_pV x0 9 1 (.int (0 : Int32))) fun _ => mo_ret ()).1 h = some (z, h2) → mo_A D dA b0 s.heap h0 h H locs → W p l e R s m args below meth c H locs (h.2.1 - h0.2.1) (h.2.2 - h0.2.2) Q (F0 m 0 ls []) := by
    intro h H locs hF A
    refine lv_aload_n hx hb dX9_clear_0 rfl (lv_at hl 0 rfl) ?_
    refine lv_iconst (v := (0 : Int32)) hx hb dX9_clear_1 (by decide) ?_
    refine mo_wpV C A (T := TX9) iX9 tyX9 tyX9_ok nmX9 rfl 1 (by decide) tb_235 rfl rfl rfl rfl dX9_clear_2 hF (fun h H locs hF A => ?_)
    rw [hQ]
    exact mo_vret C A hr hlocks dX9_clear_5 hF
  exact E h0 s.heap [] hF A
set_option maxHeartbeats 4000000 in
set_option maxRecDepth 100000 in
theorem c_X3_reset (l : Launch) (D : va_G) (dA : Nat → ClassId) (b0 : Nat) (x0 : Nat) : mo_Met l yX3_reset [Cond.code yX3_reset cX3_reset 1 none] 2 43 D dA b0 [.ref x0] (fun _ : Unit => none) (F_X3_reset x0) := by
  refine mo_MetOf (own := RX3) (by decide) (Nat.le_of_ble_eq_true rfl) [(0, .ref x0)] rfl rfl ?_
  intro p e R s m args below meth c Q h0 h2 z ls hQ C hml hr hlocks hnm hfr hlo hF A hl
  have hx := C.1
  have hb := C.2.1
  have hown := C.2.2.1
  have hts := C.2.2.2.1
  have hK := C.2.2.2.2.1
  have iX3 := inlX3
  unfold F_X3_reset at hF
  obtain ⟨-, hF⟩ := mo_ckE hF
  have E : ∀ (h : mo_H) (H : Heap) (locs : List Loc), (mo_b (F_X3_clearMemory x0) fun v1 => mo_b (mo_gR x0 3 2) fun v2 => mo_b (F_X9_clear v2) fun v3 => mo_b (mo_gR x0 3 3) fun v4 => mo_b (F_X9_clear v4) fun v5 => mo_b (mo_pV x0 3 5 (.int (0 : Int32))) fun _ => mo_b (mo_pV x0 3 6 (.int (0 : Int32))) fun _ => mo_b (mo_pV x0 3 7 (.int (0 : Int32))) fun _ => mo_b (mo_pV x0 3 8 (.int (0 : Int32))) fun _ => mo_ret ()).1 h = some (z, h2) → mo_A D dA b0 s.heap h0 h H locs → W p l e R s m args below meth c H locs (h.2.1 - h0.2.1) (h.2.2 - h0.2.2) Q (F0 m 0 ls []) := by
    intro h H locs hF A
    refine lv_aload_n hx hb dX3_reset_0 rfl (lv_at hl 0 rfl) ?_
    refine mo_cV (n := 0) (As := []) (rest := []) C A hml hl.1 (c_X3_clearMemory l D dA b0 x0) (ci := 3) (q := (RX3, TX3, 9)) rfl (fun _ e => (mo_ckE e).1) (tb_v tb_508 tb_509 tb_510 tb_65 tb_511) rfl (by decide +kernel) ⟨Nat.le_trans (by decide) hfr, Nat.le_trans (Nat.le_of_ble_eq_true rfl) hlo⟩ rfl (Nat.le_of_ble_eq_true rfl) rfl dX3_reset_1 hF (fun v1 h H locs hF A => ?_)
    show W _ _ _ _ _ _ _ _ _ _ _ _ _ _ _ (F0 m 4 ls [])
    refine lv_aload_n hx hb dX3_reset_4 rfl (lv_at hl 0 rfl) ?_
    refine mo_wR C A (T := TX3) iX3 rfl 2 (by decide) tb_81 rfl dX3_reset_5 hF (fun v2 hF => ?_)
    refine mo_cV (n := 0) (As := []) (rest := []) C A hml hl.1 (c_X9_clear l D dA b0 v2) (ci := 9) (q := (RX9, TX9, 2)) rfl (fun _ e => (mo_ckE e).1) (tb_v tb_696 tb_697 tb_698 tb_46 tb_699) rfl (by decide +kernel) ⟨Nat.le_trans (by decide) hfr, Nat.le_trans (Nat.le_of_ble_eq_true rfl) hlo⟩ rfl (Nat.le_of_ble_eq_true rfl) rfl dX3_reset_8 hF (fun v3 h H locs hF A => ?_)
    show W _ _ _ _ _ _ _ _ _ _ _ _ _ _ _ (F0 m 11 ls [])
    refine lv_aload_n hx hb dX3_reset_11 rfl (lv_at hl 0 rfl) ?_
    refine mo_wR C A (T := TX3) iX3 rfl 3 (by decide) tb_82 rfl dX3_reset_12 hF (fun v4 hF => ?_)
    refine mo_cV (n := 0) (As := []) (rest := []) C A hml hl.1 (c_X9_clear l D dA b0 v4) (ci := 9) (q := (RX9, TX9, 2)) rfl (fun _ e => (mo_ckE e).1) (tb_v tb_696 tb_697 tb_698 tb_46 tb_699) rfl (by decide +kernel) ⟨Nat.le_trans (by decide) hfr, Nat.le_trans (Nat.le_of_ble_eq_true rfl) hlo⟩ rfl (Nat.le_of_ble_eq_true rfl) rfl dX3_reset_15 hF (fun v5 h H locs hF A => ?_)
    show W _ _ _ _ _ _ _ _ _ _ _ _ _ _ _ (F0 m 18 ls [])
    refine lv_aload_n hx hb dX3_reset_18 rfl (lv_at hl 0 rfl) ?_
    refine lv_iconst (v := (0 : Int32)) hx hb dX3_reset_19 (by decide) ?_
    refine mo_wpV C A (T := TX3) iX3 tyX3 tyX3_ok nmX3 rfl 5 (by decide) tb_385 rfl rfl rfl rfl dX3_reset_20 hF (fun h H locs hF A => ?_)
    refine lv_aload_n hx hb dX3_reset_23 rfl (lv_at hl 0 rfl) ?_
    refine lv_iconst (v := (0 : Int32)) hx hb dX3_reset_24 (by decide) ?_
    refine mo_wpV C A (T := TX3) iX3 tyX3 tyX3_ok nmX3 rfl 6 (by decide) tb_507 rfl rfl rfl rfl dX3_reset_25 hF (fun h H locs hF A => ?_)
    refine lv_aload_n hx hb dX3_reset_28 rfl (lv_at hl 0 rfl) ?_
    refine lv_iconst (v := (0 : Int32)) hx hb dX3_reset_29 (by decide) ?_
    refine mo_wpV C A (T := TX3) iX3 tyX3 tyX3_ok nmX3 rfl 7 (by decide) tb_694 rfl rfl rfl rfl dX3_reset_30 hF (fun h H locs hF A => ?_)
    refine lv_aload_n hx hb dX3_reset_33 rfl (lv_at hl 0 rfl) ?_
    refine lv_iconst (v := (0 : Int32)) hx hb dX3_reset_34 (by decide) ?_
    refine mo_wpV C A (T := TX3) iX3 tyX3 tyX3_ok nmX3 rfl 8 (by decide) tb_695 rfl rfl rfl rfl dX3_reset_35 hF (fun h H locs hF A => ?_)
    rw [hQ]
    exact mo_vret C A hr hlocks dX3_reset_38 hF
  exact E h0 s.heap [] hF A
set_option maxHeartbeats 4000000 in
set_option maxRecDepth 100000 in
theorem c_X3_registerOrZero (l : Launch) (D : va_G) (dA : Nat → ClassId) (b0 : Nat) (x0 : Nat) (x1 : Int32) : mo_Met l yX3_registerOrZero [Cond.code yX3_registerOrZero cX3_registerOrZero 2 (some .int)] 0 0 D dA b0 [.ref x0, .int x1] (fun r : Int32 => some (.int r)) (F_X3_registerOrZero x0 x1) := by
  refine mo_MetOf (own := RX3) (by decide) (Nat.le_of_ble_eq_true rfl) [(0, .ref x0), (1, .int x1)] rfl rfl ?_
  intro p e R s m args below meth c Q h0 h2 z ls hQ C hml hr hlocks hnm hfr hlo hF A hl
  have hx := C.1
  have hb := C.2.1
  have hown := C.2.2.1
  have hts := C.2.2.2.1
  have hK := C.2.2.2.2.1
  have iX3 := inlX3
  unfold F_X3_registerOrZero at hF
  obtain ⟨-, hF⟩ := mo_ckE hF
  have E : ∀ (h : mo_H) (H : Heap) (locs : List Loc), ((if x1 < 0 then mo_ret (0 : Int32) else (if (8 : Int32) ≤ x1 then mo_ret (0 : Int32) else mo_b (mo_gR x0 3 0) fun v3 => mo_b (mo_la 0 v3 x1) fun v4 => mo_ret v4))).1 h = some (z, h2) → mo_A D dA b0 s.heap h0 h H locs → W p l e R s m args below meth c H locs (h.2.1 - h0.2.1) (h.2.2 - h0.2.2) Q (F0 m 0 ls []) := by
    intro h H locs hF A
    refine lv_iload_n hx hb dX3_registerOrZero_0 rfl (lv_at hl 1 rfl) ?_
    refine lv_if_lt (tgt := 19) hx hb dX3_registerOrZero_1 (by decide) (fun c1 => ?_) (fun c1 => ?_)
    · have hF := mo_ifT c1 hF
      refine lv_iconst (v := (0 : Int32)) hx hb dX3_registerOrZero_19 (by decide) ?_
      rw [hQ]
      exact mo_iret C A hr hlocks dX3_registerOrZero_20 hF
    · have hF := mo_ifF c1 hF
      refine lv_iload_n hx hb dX3_registerOrZero_4 rfl (lv_at hl 1 rfl) ?_
      refine lv_bipush (v := (8 : Int32)) hx hb dX3_registerOrZero_5 (by decide) ?_
      refine lv_icmp_ge (tgt := 19) hx hb dX3_registerOrZero_7 (by decide) (fun c2 => ?_) (fun c2 => ?_)
      · have hF := mo_ifT c2 hF
        refine lv_iconst (v := (0 : Int32)) hx hb dX3_registerOrZero_19 (by decide) ?_
        rw [hQ]
        exact mo_iret C A hr hlocks dX3_registerOrZero_20 hF
      · have hF := mo_ifF c2 hF
        refine lv_aload_n hx hb dX3_registerOrZero_10 rfl (lv_at hl 0 rfl) ?_
        refine mo_wR C A (T := TX3) iX3 rfl 0 (by decide) tb_78 rfl dX3_registerOrZero_11 hF (fun v3 hF => ?_)
        refine lv_iload_n hx hb dX3_registerOrZero_14 rfl (lv_at hl 1 rfl) ?_
        refine mo_wla C A dX3_registerOrZero_15 hF (fun v4 hF => ?_)
        refine lv_goto (tgt := 20) hx hb dX3_registerOrZero_16 (by decide) ?_
        rw [hQ]
        exact mo_iret C A hr hlocks dX3_registerOrZero_20 hF
  exact E h0 s.heap [] hF A
set_option maxHeartbeats 4000000 in
set_option maxRecDepth 100000 in
theorem c_X3_hasCells (l : Launch) (D : va_G) (dA : Nat → ClassId) (b0 : Nat) (x0 : Int32) (x1 : Int32) : mo_Met l yX3_hasCells [Cond.code yX3_hasCells cX3_hasCells 2 (some .boolean)] 0 0 D dA b0 [.int x0, .int x1] (fun r : Int32 => some (.int r)) (F_X3_hasCells x0 x1) := by
  refine mo_MetOf (own := RX3) (by decide) (Nat.le_of_ble_eq_true rfl) [(0, .int x0), (1, .int x1)] rfl rfl ?_
  intro p e R s m args below meth c Q h0 h2 z ls hQ C hml hr hlocks hnm hfr hlo hF A hl
  have hx := C.1
  have hb := C.2.1
  have hown := C.2.2.1
  have hts := C.2.2.2.1
  have hK := C.2.2.2.2.1
  unfold F_X3_hasCells at hF
  have E : ∀ (h : mo_H) (H : Heap) (locs : List Loc), ((if x0 < 0 then mo_rz (0 : Int32) else (if ((32 : Int32) - x1) < x0 then mo_rz (0 : Int32) else mo_rz (1 : Int32)))).1 h = some (z, h2) → mo_A D dA b0 s.heap h0 h H locs → W p l e R s m args below meth c H locs (h.2.1 - h0.2.1) (h.2.2 - h0.2.2) Q (F0 m 0 ls []) := by
    intro h H locs hF A
    refine lv_iload_n hx hb dX3_hasCells_0 rfl (lv_at hl 0 rfl) ?_
    refine lv_if_lt (tgt := 16) hx hb dX3_hasCells_1 (by decide) (fun c1 => ?_) (fun c1 => ?_)
    · have hF := mo_ifT c1 hF
      refine lv_iconst (v := (0 : Int32)) hx hb dX3_hasCells_16 (by decide) ?_
      rw [hQ]
      exact mo_zret C A hr hlocks dX3_hasCells_17 hF
    · have hF := mo_ifF c1 hF
      refine lv_iload_n hx hb dX3_hasCells_4 rfl (lv_at hl 0 rfl) ?_
      refine lv_bipush (v := (32 : Int32)) hx hb dX3_hasCells_5 (by decide) ?_
      refine lv_iload_n hx hb dX3_hasCells_7 rfl (lv_at hl 1 rfl) ?_
      refine lv_isub hx hb dX3_hasCells_8 ?_
      refine lv_icmp_gt (tgt := 16) hx hb dX3_hasCells_9 (by decide) (fun c2 => ?_) (fun c2 => ?_)
      · have hF := mo_ifT c2 hF
        refine lv_iconst (v := (0 : Int32)) hx hb dX3_hasCells_16 (by decide) ?_
        rw [hQ]
        exact mo_zret C A hr hlocks dX3_hasCells_17 hF
      · have hF := mo_ifF c2 hF
        refine lv_iconst (v := (1 : Int32)) hx hb dX3_hasCells_12 (by decide) ?_
        refine lv_goto (tgt := 17) hx hb dX3_hasCells_13 (by decide) ?_
        rw [hQ]
        exact mo_zret C A hr hlocks dX3_hasCells_17 hF
  exact E h0 s.heap [] hF A
set_option maxHeartbeats 4000000 in
set_option maxRecDepth 100000 in
theorem c_X3_cellOrZero (l : Launch) (D : va_G) (dA : Nat → ClassId) (b0 : Nat) (x0 : Nat) (x1 : Int32) : mo_Met l yX3_cellOrZero [Cond.code yX3_cellOrZero cX3_cellOrZero 2 (some .int)] 1 21 D dA b0 [.ref x0, .int x1] (fun r : Int32 => some (.int r)) (F_X3_cellOrZero x0 x1) := by
  refine mo_MetOf (own := RX3) (by decide) (Nat.le_of_ble_eq_true rfl) [(0, .ref x0), (1, .int x1)] rfl rfl ?_
  intro p e R s m args below meth c Q h0 h2 z ls hQ C hml hr hlocks hnm hfr hlo hF A hl
  have hx := C.1
  have hb := C.2.1
  have hown := C.2.2.1
  have hts := C.2.2.2.1
  have hK := C.2.2.2.2.1
  have iX3 := inlX3
  unfold F_X3_cellOrZero at hF
  obtain ⟨-, hF⟩ := mo_ckE hF
  have E : ∀ (h : mo_H) (H : Heap) (locs : List Loc), (mo_b (F_X3_hasCells x1 (1 : Int32)) fun v1 => (if v1 = 0 then mo_ret (0 : Int32) else mo_b (mo_gR x0 3 1) fun v3 => mo_b (mo_la 0 v3 x1) fun v4 => mo_ret v4)).1 h = some (z, h2) → mo_A D dA b0 s.heap h0 h H locs → W p l e R s m args below meth c H locs (h.2.1 - h0.2.1) (h.2.2 - h0.2.2) Q (F0 m 0 ls []) := by
    intro h H locs hF A
    refine lv_iload_n hx hb dX3_cellOrZero_0 rfl (lv_at hl 1 rfl) ?_
    refine lv_iconst (v := (1 : Int32)) hx hb dX3_cellOrZero_1 (by decide) ?_
    refine mo_cS (n := 2) (As := [.int x1, .int (1 : Int32)]) (rest := []) C A hml hl.1 (c_X3_hasCells l D dA b0 x1 (1 : Int32)) (tb_s tb_398 tb_399 tb_65 tb_400) rfl (by decide +kernel) ⟨Nat.le_trans (by decide) hfr, Nat.le_trans (Nat.le_of_ble_eq_true rfl) hlo⟩ rfl (Nat.le_of_ble_eq_true rfl) rfl dX3_cellOrZero_2 hF (fun v1 h H locs hF A => ?_)
    show W _ _ _ _ _ _ _ _ _ _ _ _ _ _ _ (F0 m 5 ls [.int v1])
    refine lv_if_eq (tgt := 17) hx hb dX3_cellOrZero_5 (by decide) (fun c2 => ?_) (fun c2 => ?_)
    · have hF := mo_ifT c2 hF
      refine lv_iconst (v := (0 : Int32)) hx hb dX3_cellOrZero_17 (by decide) ?_
      rw [hQ]
      exact mo_iret C A hr hlocks dX3_cellOrZero_18 hF
    · have hF := mo_ifF c2 hF
      refine lv_aload_n hx hb dX3_cellOrZero_8 rfl (lv_at hl 0 rfl) ?_
      refine mo_wR C A (T := TX3) iX3 rfl 1 (by decide) tb_79 rfl dX3_cellOrZero_9 hF (fun v3 hF => ?_)
      refine lv_iload_n hx hb dX3_cellOrZero_12 rfl (lv_at hl 1 rfl) ?_
      refine mo_wla C A dX3_cellOrZero_13 hF (fun v4 hF => ?_)
      refine lv_goto (tgt := 18) hx hb dX3_cellOrZero_14 (by decide) ?_
      rw [hQ]
      exact mo_iret C A hr hlocks dX3_cellOrZero_18 hF
  exact E h0 s.heap [] hF A
set_option maxHeartbeats 4000000 in
set_option maxRecDepth 100000 in
theorem c_X3_read (l : Launch) (D : va_G) (dA : Nat → ClassId) (b0 : Nat) (x0 : Nat) (x1 : Int32) : mo_Met l yX3_read [Cond.code yX3_read cX3_read 2 (some .int)] 0 0 D dA b0 [.ref x0, .int x1] (fun r : Int32 => some (.int r)) (F_X3_read x0 x1) := by
  refine mo_MetOf (own := RX3) (by decide) (Nat.le_of_ble_eq_true rfl) [(0, .ref x0), (1, .int x1)] rfl rfl ?_
  intro p e R s m args below meth c Q h0 h2 z ls hQ C hml hr hlocks hnm hfr hlo hF A hl
  have hx := C.1
  have hb := C.2.1
  have hown := C.2.2.1
  have hts := C.2.2.2.1
  have hK := C.2.2.2.2.1
  have iX3 := inlX3
  unfold F_X3_read at hF
  obtain ⟨-, hF⟩ := mo_ckE hF
  have E : ∀ (h : mo_H) (H : Heap) (locs : List Loc), (mo_b (mo_gR x0 3 0) fun v1 => mo_b (mo_la 0 v1 (x1 - x1 / (8 : Int32) * (8 : Int32))) fun v2 => mo_ret v2).1 h = some (z, h2) → mo_A D dA b0 s.heap h0 h H locs → W p l e R s m args below meth c H locs (h.2.1 - h0.2.1) (h.2.2 - h0.2.2) Q (F0 m 0 ls []) := by
    intro h H locs hF A
    refine lv_aload_n hx hb dX3_read_0 rfl (lv_at hl 0 rfl) ?_
    refine mo_wR C A (T := TX3) iX3 rfl 0 (by decide) tb_78 rfl dX3_read_1 hF (fun v1 hF => ?_)
    refine lv_iload_n hx hb dX3_read_4 rfl (lv_at hl 1 rfl) ?_
    refine lv_bipush (v := (8 : Int32)) hx hb dX3_read_5 (by decide) ?_
    refine lv_irem hx hb dX3_read_7 (by decide) ?_
    refine mo_wla C A dX3_read_8 hF (fun v2 hF => ?_)
    rw [hQ]
    exact mo_iret C A hr hlocks dX3_read_9 hF
  exact E h0 s.heap [] hF A
set_option maxHeartbeats 4000000 in
set_option maxRecDepth 100000 in
theorem c_X3_write (l : Launch) (D : va_G) (dA : Nat → ClassId) (b0 : Nat) (x0 : Nat) (x1 : Int32) (x2 : Int32) : mo_Met l yX3_write [Cond.code yX3_write cX3_write 3 none] 0 0 D dA b0 [.ref x0, .int x1, .int x2] (fun _ : Unit => none) (F_X3_write x0 x1 x2) := by
  refine mo_MetOf (own := RX3) (by decide) (Nat.le_of_ble_eq_true rfl) [(0, .ref x0), (1, .int x1), (2, .int x2)] rfl rfl ?_
  intro p e R s m args below meth c Q h0 h2 z ls hQ C hml hr hlocks hnm hfr hlo hF A hl
  have hx := C.1
  have hb := C.2.1
  have hown := C.2.2.1
  have hts := C.2.2.2.1
  have hK := C.2.2.2.2.1
  have iX3 := inlX3
  unfold F_X3_write at hF
  obtain ⟨-, hF⟩ := mo_ckE hF
  have E : ∀ (h : mo_H) (H : Heap) (locs : List Loc), (mo_b (mo_gR x0 3 0) fun v1 => mo_b (mo_sa 0 v1 (x1 - x1 / (8 : Int32) * (8 : Int32)) x2) fun _ => mo_ret ()).1 h = some (z, h2) → mo_A D dA b0 s.heap h0 h H locs → W p l e R s m args below meth c H locs (h.2.1 - h0.2.1) (h.2.2 - h0.2.2) Q (F0 m 0 ls []) := by
    intro h H locs hF A
    refine lv_aload_n hx hb dX3_write_0 rfl (lv_at hl 0 rfl) ?_
    refine mo_wR C A (T := TX3) iX3 rfl 0 (by decide) tb_78 rfl dX3_write_1 hF (fun v1 hF => ?_)
    refine lv_iload_n hx hb dX3_write_4 rfl (lv_at hl 1 rfl) ?_
    refine lv_bipush (v := (8 : Int32)) hx hb dX3_write_5 (by decide) ?_
    refine lv_irem hx hb dX3_write_7 (by decide) ?_
    refine lv_iload_n hx hb dX3_write_8 rfl (lv_at hl 2 rfl) ?_
    refine mo_wsa C A dX3_write_9 hF (fun h H locs hF A => ?_)
    rw [hQ]
    exact mo_vret C A hr hlocks dX3_write_10 hF
  exact E h0 s.heap [] hF A
set_option maxHeartbeats 4000000 in
set_option maxRecDepth 100000 in
theorem c_X3_report (l : Launch) (D : va_G) (dA : Nat → ClassId) (b0 : Nat) (x0 : Nat) (x1 : Int32) : mo_Met l yX3_report [Cond.code yX3_report cX3_report 2 none] 0 0 D dA b0 [.ref x0, .int x1] (fun _ : Unit => none) (F_X3_report x0 x1) := by
  refine mo_MetOf (own := RX3) (by decide) (Nat.le_of_ble_eq_true rfl) [(0, .ref x0), (1, .int x1)] rfl rfl ?_
  intro p e R s m args below meth c Q h0 h2 z ls hQ C hml hr hlocks hnm hfr hlo hF A hl
  have hx := C.1
  have hb := C.2.1
  have hown := C.2.2.1
  have hts := C.2.2.2.1
  have hK := C.2.2.2.2.1
  have iX3 := inlX3
  unfold F_X3_report at hF
  obtain ⟨-, hF⟩ := mo_ckE hF
  have E : ∀ (h : mo_H) (H : Heap) (locs : List Loc), (mo_b (mo_gR x0 3 0) fun v1 => mo_b (mo_sa 0 v1 (7 : Int32) x1) fun _ => mo_ret ()).1 h = some (z, h2) → mo_A D dA b0 s.heap h0 h H locs → W p l e R s m args below meth c H locs (h.2.1 - h0.2.1) (h.2.2 - h0.2.2) Q (F0 m 0 ls []) := by
    intro h H locs hF A
    refine lv_aload_n hx hb dX3_report_0 rfl (lv_at hl 0 rfl) ?_
    refine mo_wR C A (T := TX3) iX3 rfl 0 (by decide) tb_78 rfl dX3_report_1 hF (fun v1 hF => ?_)
    refine lv_bipush (v := (7 : Int32)) hx hb dX3_report_4 (by decide) ?_
    refine lv_iload_n hx hb dX3_report_6 rfl (lv_at hl 1 rfl) ?_
    refine mo_wsa C A dX3_report_7 hF (fun h H locs hF A => ?_)
    rw [hQ]
    exact mo_vret C A hr hlocks dX3_report_8 hF
  exact E h0 s.heap [] hF A
set_option maxHeartbeats 4000000 in
set_option maxRecDepth 100000 in
theorem c_X10_operation (l : Launch) (D : va_G) (dA : Nat → ClassId) (b0 : Nat) (x0 : Int32) : mo_Met l yX10_operation [Cond.code yX10_operation cX10_operation 1 (some .int)] 0 0 D dA b0 [.int x0] (fun r : Int32 => some (.int r)) (F_X10_operation x0) := by
  refine mo_MetOf (own := RX10) (by decide) (Nat.le_of_ble_eq_true rfl) [(0, .int x0)] rfl rfl ?_
  intro p e R s m args below meth c Q h0 h2 z ls hQ C hml hr hlocks hnm hfr hlo hF A hl
  have hx := C.1
  have hb := C.2.1
  have hown := C.2.2.1
  have hts := C.2.2.2.1
  have hK := C.2.2.2.2.1
  unfold F_X10_operation at hF
  have E : ∀ (h : mo_H) (H : Heap) (locs : List Loc), (mo_ret (x0 &&& (255 : Int32))).1 h = some (z, h2) → mo_A D dA b0 s.heap h0 h H locs → W p l e R s m args below meth c H locs (h.2.1 - h0.2.1) (h.2.2 - h0.2.2) Q (F0 m 0 ls []) := by
    intro h H locs hF A
    refine lv_iload_n hx hb dX10_operation_0 rfl (lv_at hl 0 rfl) ?_
    refine lv_sipush (v := (255 : Int32)) hx hb dX10_operation_1 (by decide) ?_
    refine lv_iand hx hb dX10_operation_4 ?_
    rw [hQ]
    exact mo_iret C A hr hlocks dX10_operation_5 hF
  exact E h0 s.heap [] hF A
set_option maxHeartbeats 4000000 in
set_option maxRecDepth 100000 in
theorem c_X10_partA (l : Launch) (D : va_G) (dA : Nat → ClassId) (b0 : Nat) (x0 : Int32) : mo_Met l yX10_partA [Cond.code yX10_partA cX10_partA 1 (some .int)] 0 0 D dA b0 [.int x0] (fun r : Int32 => some (.int r)) (F_X10_partA x0) := by
  refine mo_MetOf (own := RX10) (by decide) (Nat.le_of_ble_eq_true rfl) [(0, .int x0)] rfl rfl ?_
  intro p e R s m args below meth c Q h0 h2 z ls hQ C hml hr hlocks hnm hfr hlo hF A hl
  have hx := C.1
  have hb := C.2.1
  have hown := C.2.2.1
  have hts := C.2.2.2.1
  have hK := C.2.2.2.2.1
  unfold F_X10_partA at hF
  have E : ∀ (h : mo_H) (H : Heap) (locs : List Loc), (mo_ret ((((x0).toUInt32 >>> (((8 : Int32)).toUInt32 &&& Int32.toUInt32 31)).toInt32) &&& (255 : Int32))).1 h = some (z, h2) → mo_A D dA b0 s.heap h0 h H locs → W p l e R s m args below meth c H locs (h.2.1 - h0.2.1) (h.2.2 - h0.2.2) Q (F0 m 0 ls []) := by
    intro h H locs hF A
    refine lv_iload_n hx hb dX10_partA_0 rfl (lv_at hl 0 rfl) ?_
    refine lv_bipush (v := (8 : Int32)) hx hb dX10_partA_1 (by decide) ?_
    refine lv_iushr hx hb dX10_partA_3 rfl ?_
    refine lv_sipush (v := (255 : Int32)) hx hb dX10_partA_4 (by decide) ?_
    refine lv_iand hx hb dX10_partA_7 ?_
    rw [hQ]
    exact mo_iret C A hr hlocks dX10_partA_8 hF
  exact E h0 s.heap [] hF A
set_option maxHeartbeats 4000000 in
set_option maxRecDepth 100000 in
theorem c_X10_partB (l : Launch) (D : va_G) (dA : Nat → ClassId) (b0 : Nat) (x0 : Int32) : mo_Met l yX10_partB [Cond.code yX10_partB cX10_partB 1 (some .int)] 0 0 D dA b0 [.int x0] (fun r : Int32 => some (.int r)) (F_X10_partB x0) := by
  refine mo_MetOf (own := RX10) (by decide) (Nat.le_of_ble_eq_true rfl) [(0, .int x0)] rfl rfl ?_
  intro p e R s m args below meth c Q h0 h2 z ls hQ C hml hr hlocks hnm hfr hlo hF A hl
  have hx := C.1
  have hb := C.2.1
  have hown := C.2.2.1
  have hts := C.2.2.2.1
  have hK := C.2.2.2.2.1
  unfold F_X10_partB at hF
  have E : ∀ (h : mo_H) (H : Heap) (locs : List Loc), (mo_ret ((((x0).toUInt32 >>> (((16 : Int32)).toUInt32 &&& Int32.toUInt32 31)).toInt32) &&& (255 : Int32))).1 h = some (z, h2) → mo_A D dA b0 s.heap h0 h H locs → W p l e R s m args below meth c H locs (h.2.1 - h0.2.1) (h.2.2 - h0.2.2) Q (F0 m 0 ls []) := by
    intro h H locs hF A
    refine lv_iload_n hx hb dX10_partB_0 rfl (lv_at hl 0 rfl) ?_
    refine lv_bipush (v := (16 : Int32)) hx hb dX10_partB_1 (by decide) ?_
    refine lv_iushr hx hb dX10_partB_3 rfl ?_
    refine lv_sipush (v := (255 : Int32)) hx hb dX10_partB_4 (by decide) ?_
    refine lv_iand hx hb dX10_partB_7 ?_
    rw [hQ]
    exact mo_iret C A hr hlocks dX10_partB_8 hF
  exact E h0 s.heap [] hF A
set_option maxHeartbeats 4000000 in
set_option maxRecDepth 100000 in
theorem c_X10_partC (l : Launch) (D : va_G) (dA : Nat → ClassId) (b0 : Nat) (x0 : Int32) : mo_Met l yX10_partC [Cond.code yX10_partC cX10_partC 1 (some .int)] 0 0 D dA b0 [.int x0] (fun r : Int32 => some (.int r)) (F_X10_partC x0) := by
  refine mo_MetOf (own := RX10) (by decide) (Nat.le_of_ble_eq_true rfl) [(0, .int x0)] rfl rfl ?_
  intro p e R s m args below meth c Q h0 h2 z ls hQ C hml hr hlocks hnm hfr hlo hF A hl
  have hx := C.1
  have hb := C.2.1
  have hown := C.2.2.1
  have hts := C.2.2.2.1
  have hK := C.2.2.2.2.1
  unfold F_X10_partC at hF
  have E : ∀ (h : mo_H) (H : Heap) (locs : List Loc), (mo_ret (((x0).toUInt32 >>> (((24 : Int32)).toUInt32 &&& Int32.toUInt32 31)).toInt32)).1 h = some (z, h2) → mo_A D dA b0 s.heap h0 h H locs → W p l e R s m args below meth c H locs (h.2.1 - h0.2.1) (h.2.2 - h0.2.2) Q (F0 m 0 ls []) := by
    intro h H locs hF A
    refine lv_iload_n hx hb dX10_partC_0 rfl (lv_at hl 0 rfl) ?_
    refine lv_bipush (v := (24 : Int32)) hx hb dX10_partC_1 (by decide) ?_
    refine lv_iushr hx hb dX10_partC_3 rfl ?_
    rw [hQ]
    exact mo_iret C A hr hlocks dX10_partC_4 hF
  exact E h0 s.heap [] hF A
set_option maxHeartbeats 4000000 in
set_option maxRecDepth 100000 in
theorem c_X3_computed (l : Launch) (D : va_G) (dA : Nat → ClassId) (b0 : Nat) (x0 : Nat) (x1 : Int32) : mo_Met l yX3_computed [Cond.code yX3_computed cX3_computed 4 (some .int)] 1 21 D dA b0 [.ref x0, .int x1] (fun r : Int32 => some (.int r)) (F_X3_computed x0 x1) := by
  refine mo_MetOf (own := RX3) (by decide) (Nat.le_of_ble_eq_true rfl) [(0, .ref x0), (1, .int x1)] rfl rfl ?_
  intro p e R s m args below meth c Q h0 h2 z ls hQ C hml hr hlocks hnm hfr hlo hF A hl
  have hx := C.1
  have hb := C.2.1
  have hown := C.2.2.1
  have hts := C.2.2.2.1
  have hK := C.2.2.2.2.1
  unfold F_X3_computed at hF
  obtain ⟨-, hF⟩ := mo_ckE hF
  have E : ∀ (h : mo_H) (H : Heap) (locs : List Loc), (mo_b (F_X10_partB x1) fun v1 => mo_b (F_X3_read x0 v1) fun v2 => mo_b (F_X10_partC x1) fun v3 => mo_b (F_X3_read x0 v3) fun v4 => mo_b (F_X10_operation x1) fun v5 => (if v5 = (1 : Int32) then mo_ret (x1 >>> ((16 : Int32) &&& 31)) else (if v5 = (2 : Int32) then mo_ret v2 else (if v5 = (3 : Int32) then mo_ret (v2 + v4) else (if v5 = (4 : Int32) then mo_ret (v2 - v4) else (if v5 = (5 : Int32) then mo_ret (v2 * v4) else (if v5 = (6 : Int32) then mo_ret (v2 &&& v4) else (if v5 = (7 : Int32) then mo_ret (v2 ^^^ v4) else (if v4 ≤ v2 then mo_ret (0 : Int32) else mo_ret (1 : Int32)))))))))).1 h = some (z, h2) → mo_A D dA b0 s.heap h0 h H locs → W p l e R s m args below meth c H locs (h.2.1 - h0.2.1) (h.2.2 - h0.2.2) Q (F0 m 0 ls []) := by
    intro h H locs hF A
    refine lv_aload_n hx hb dX3_computed_0 rfl (lv_at hl 0 rfl) ?_
    refine lv_iload_n hx hb dX3_computed_1 rfl (lv_at hl 1 rfl) ?_
    refine mo_cN (n := 1) (As := [.int x1]) (rest := [.ref x0]) C A hml hl.1 (c_X10_partB l D dA b0 x1) (tb_o tb_389) (List.mem_of_getElem? (i := 84) rfl) tb_2 tb_388 rfl (by decide +kernel) ⟨Nat.le_trans (by decide) hfr, Nat.le_trans (Nat.le_of_ble_eq_true rfl) hlo⟩ rfl (Nat.le_of_ble_eq_true rfl) rfl dX3_computed_2 hF (fun v1 h H locs hF A => ?_)
    show W _ _ _ _ _ _ _ _ _ _ _ _ _ _ _ (F0 m 5 ls [.int v1, .ref x0])
    refine mo_cV (n := 1) (As := [.int v1]) (rest := []) C A hml hl.1 (c_X3_read l D dA b0 x0 v1) (ci := 3) (q := (RX3, TX3, 9)) rfl (fun _ e => (mo_ckE e).1) (tb_v tb_390 tb_391 tb_392 tb_65 tb_393) rfl (by decide +kernel) ⟨Nat.le_trans (by decide) hfr, Nat.le_trans (Nat.le_of_ble_eq_true rfl) hlo⟩ rfl (Nat.le_of_ble_eq_true rfl) rfl dX3_computed_5 hF (fun v2 h H locs hF A => ?_)
    show W _ _ _ _ _ _ _ _ _ _ _ _ _ _ _ (F0 m 8 ls [.int v2])
    refine lv_istore_n (lv' := [(2, .int v2), (0, .ref x0), (1, .int x1)]) hx hb dX3_computed_8 rfl hl (by decide) rfl (fun ls hl => ?_)
    refine lv_aload_n hx hb dX3_computed_9 rfl (lv_at hl 1 rfl) ?_
    refine lv_iload_n hx hb dX3_computed_10 rfl (lv_at hl 2 rfl) ?_
    refine mo_cN (n := 1) (As := [.int x1]) (rest := [.ref x0]) C A hml hl.1 (c_X10_partC l D dA b0 x1) (tb_o tb_433) (List.mem_of_getElem? (i := 86) rfl) tb_2 tb_432 rfl (by decide +kernel) ⟨Nat.le_trans (by decide) hfr, Nat.le_trans (Nat.le_of_ble_eq_true rfl) hlo⟩ rfl (Nat.le_of_ble_eq_true rfl) rfl dX3_computed_11 hF (fun v3 h H locs hF A => ?_)
    show W _ _ _ _ _ _ _ _ _ _ _ _ _ _ _ (F0 m 14 ls [.int v3, .ref x0])
    refine mo_cV (n := 1) (As := [.int v3]) (rest := []) C A hml hl.1 (c_X3_read l D dA b0 x0 v3) (ci := 3) (q := (RX3, TX3, 9)) rfl (fun _ e => (mo_ckE e).1) (tb_v tb_390 tb_391 tb_392 tb_65 tb_393) rfl (by decide +kernel) ⟨Nat.le_trans (by decide) hfr, Nat.le_trans (Nat.le_of_ble_eq_true rfl) hlo⟩ rfl (Nat.le_of_ble_eq_true rfl) rfl dX3_computed_14 hF (fun v4 h H locs hF A => ?_)
    show W _ _ _ _ _ _ _ _ _ _ _ _ _ _ _ (F0 m 17 ls [.int v4])
    refine lv_istore_n (lv' := [(3, .int v4), (2, .int v2), (0, .ref x0), (1, .int x1)]) hx hb dX3_computed_17 rfl hl (by decide) rfl (fun ls hl => ?_)
    refine lv_iload_n hx hb dX3_computed_18 rfl (lv_at hl 3 rfl) ?_
    refine mo_cN (n := 1) (As := [.int x1]) (rest := []) C A hml hl.1 (c_X10_operation l D dA b0 x1) (tb_o tb_377) (List.mem_of_getElem? (i := 85) rfl) tb_2 tb_376 rfl (by decide +kernel) ⟨Nat.le_trans (by decide) hfr, Nat.le_trans (Nat.le_of_ble_eq_true rfl) hlo⟩ rfl (Nat.le_of_ble_eq_true rfl) rfl dX3_computed_19 hF (fun v5 h H locs hF A => ?_)
    show W _ _ _ _ _ _ _ _ _ _ _ _ _ _ _ (F0 m 22 ls [.int v5])
    by_cases c6 : v5 = (1 : Int32)
    · have hF := mo_ifT c6 hF
      refine mo_tsI hx hb (1 : Int32) (tgt := 64) (off := 42) dX3_computed_22 c6 (by decide) (by decide) rfl (by decide) ?_
      refine lv_iload_n hx hb dX3_computed_64 rfl (lv_at hl 3 rfl) ?_
      refine lv_bipush (v := (16 : Int32)) hx hb dX3_computed_65 (by decide) ?_
      refine lv_ishr hx hb dX3_computed_67 ?_
      rw [hQ]
      exact mo_iret C A hr hlocks dX3_computed_68 hF
    have hF := mo_ifF c6 hF
    by_cases c7 : v5 = (2 : Int32)
    · have hF := mo_ifT c7 hF
      refine mo_tsI hx hb (2 : Int32) (tgt := 69) (off := 47) dX3_computed_22 c7 (by decide) (by decide) rfl (by decide) ?_
      refine lv_iload_n hx hb dX3_computed_69 rfl (lv_at hl 1 rfl) ?_
      rw [hQ]
      exact mo_iret C A hr hlocks dX3_computed_70 hF
    have hF := mo_ifF c7 hF
    by_cases c8 : v5 = (3 : Int32)
    · have hF := mo_ifT c8 hF
      refine mo_tsI hx hb (3 : Int32) (tgt := 71) (off := 49) dX3_computed_22 c8 (by decide) (by decide) rfl (by decide) ?_
      refine lv_iload_n hx hb dX3_computed_71 rfl (lv_at hl 1 rfl) ?_
      refine lv_iload_n hx hb dX3_computed_72 rfl (lv_at hl 0 rfl) ?_
      refine lv_iadd hx hb dX3_computed_73 ?_
      rw [hQ]
      exact mo_iret C A hr hlocks dX3_computed_74 hF
    have hF := mo_ifF c8 hF
    by_cases c9 : v5 = (4 : Int32)
    · have hF := mo_ifT c9 hF
      refine mo_tsI hx hb (4 : Int32) (tgt := 75) (off := 53) dX3_computed_22 c9 (by decide) (by decide) rfl (by decide) ?_
      refine lv_iload_n hx hb dX3_computed_75 rfl (lv_at hl 1 rfl) ?_
      refine lv_iload_n hx hb dX3_computed_76 rfl (lv_at hl 0 rfl) ?_
      refine lv_isub hx hb dX3_computed_77 ?_
      rw [hQ]
      exact mo_iret C A hr hlocks dX3_computed_78 hF
    have hF := mo_ifF c9 hF
    by_cases c10 : v5 = (5 : Int32)
    · have hF := mo_ifT c10 hF
      refine mo_tsI hx hb (5 : Int32) (tgt := 79) (off := 57) dX3_computed_22 c10 (by decide) (by decide) rfl (by decide) ?_
      refine lv_iload_n hx hb dX3_computed_79 rfl (lv_at hl 1 rfl) ?_
      refine lv_iload_n hx hb dX3_computed_80 rfl (lv_at hl 0 rfl) ?_
      refine lv_imul hx hb dX3_computed_81 ?_
      rw [hQ]
      exact mo_iret C A hr hlocks dX3_computed_82 hF
    have hF := mo_ifF c10 hF
    by_cases c11 : v5 = (6 : Int32)
    · have hF := mo_ifT c11 hF
      refine mo_tsI hx hb (6 : Int32) (tgt := 83) (off := 61) dX3_computed_22 c11 (by decide) (by decide) rfl (by decide) ?_
      refine lv_iload_n hx hb dX3_computed_83 rfl (lv_at hl 1 rfl) ?_
      refine lv_iload_n hx hb dX3_computed_84 rfl (lv_at hl 0 rfl) ?_
      refine lv_iand hx hb dX3_computed_85 ?_
      rw [hQ]
      exact mo_iret C A hr hlocks dX3_computed_86 hF
    have hF := mo_ifF c11 hF
    by_cases c12 : v5 = (7 : Int32)
    · have hF := mo_ifT c12 hF
      refine mo_tsI hx hb (7 : Int32) (tgt := 87) (off := 65) dX3_computed_22 c12 (by decide) (by decide) rfl (by decide) ?_
      refine lv_iload_n hx hb dX3_computed_87 rfl (lv_at hl 1 rfl) ?_
      refine lv_iload_n hx hb dX3_computed_88 rfl (lv_at hl 0 rfl) ?_
      refine lv_ixor hx hb dX3_computed_89 ?_
      rw [hQ]
      exact mo_iret C A hr hlocks dX3_computed_90 hF
    have hF := mo_ifF c12 hF
    refine mo_tsD hx hb [(1 : Int32), (2 : Int32), (3 : Int32), (4 : Int32), (5 : Int32), (6 : Int32), (7 : Int32)] (tgt := 91) dX3_computed_22 (List.forall_mem_cons.mpr ⟨c6, (List.forall_mem_cons.mpr ⟨c7, (List.forall_mem_cons.mpr ⟨c8, (List.forall_mem_cons.mpr ⟨c9, (List.forall_mem_cons.mpr ⟨c10, (List.forall_mem_cons.mpr ⟨c11, (List.forall_mem_cons.mpr ⟨c12, (fun _ h => absurd h List.not_mem_nil)⟩)⟩)⟩)⟩)⟩)⟩)⟩) (by decide) (by decide) (by decide) ?_
    refine lv_iload_n hx hb dX3_computed_91 rfl (lv_at hl 1 rfl) ?_
    refine lv_iload_n hx hb dX3_computed_92 rfl (lv_at hl 0 rfl) ?_
    refine lv_icmp_ge (tgt := 100) hx hb dX3_computed_93 (by decide) (fun c13 => ?_) (fun c13 => ?_)
    · have hF := mo_ifT c13 hF
      refine lv_iconst (v := (0 : Int32)) hx hb dX3_computed_100 (by decide) ?_
      rw [hQ]
      exact mo_iret C A hr hlocks dX3_computed_101 hF
    · have hF := mo_ifF c13 hF
      refine lv_iconst (v := (1 : Int32)) hx hb dX3_computed_96 (by decide) ?_
      refine lv_goto (tgt := 101) hx hb dX3_computed_97 (by decide) ?_
      rw [hQ]
      exact mo_iret C A hr hlocks dX3_computed_101 hF
  exact E h0 s.heap [] hF A
