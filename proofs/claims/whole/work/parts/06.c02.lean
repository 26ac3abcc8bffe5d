set_option maxHeartbeats 4000000 in
set_option maxRecDepth 100000 in
theorem c_X3_load (l : Launch) (D : va_G) (dA : Nat → ClassId) (b0 : Nat) (x0 : Nat) (x1 : Int32) (x2 : Int32) : mo_Met l yX3_load [Cond.code yX3_load cX3_load 3 (some .boolean)] 1 22 D dA b0 [.ref x0, .int x1, .int x2] (fun r : Int32 => some (.int r)) (F_X3_load x0 x1 x2) := by
  refine mo_MetOf (own := RX3) (by decide) (Nat.le_of_ble_eq_true rfl) [(0, .ref x0), (1, .int x1), (2, .int x2)] rfl rfl ?_
  intro p e R s m args below meth c Q h0 h2 z ls hQ C hml hr hlocks hnm hfr hlo hF A hl
  have hx := C.1
  have hb := C.2.1
  have hown := C.2.2.1
  have hts := C.2.2.2.1
  have hK := C.2.2.2.2.1
  have iX3 := inlX3
  unfold F_X3_load at hF
  obtain ⟨-, hF⟩ := mo_ckE hF
  have E : ∀ (h : mo_H) (H : Heap) (locs : List Loc), (mo_b (F_X3_hasCells x2 (1 : Int32)) fun v1 => (if v1 = 0 then mo_rz (0 : Int32) else mo_b (mo_gR x0 3 1) fun v3 => mo_b (mo_la 0 v3 x2) fun v4 => mo_b (F_X3_write x0 x1 v4) fun v5 => mo_rz (1 : Int32))).1 h = some (z, h2) → mo_A D dA b0 s.heap h0 h H locs → W p l e R s m args below meth c H locs (h.2.1 - h0.2.1) (h.2.2 - h0.2.2) Q (F0 m 0 ls []) := by
    intro h H locs hF A
    refine lv_iload_n hx hb dX3_load_0 rfl (lv_at hl 2 rfl) ?_
    refine lv_iconst (v := (1 : Int32)) hx hb dX3_load_1 (by decide) ?_
    refine mo_cS (n := 2) (As := [.int x2, .int (1 : Int32)]) (rest := []) C A hml hl.1 (c_X3_hasCells l D dA b0 x2 (1 : Int32)) (tb_s tb_398 tb_399 tb_65 tb_400) rfl (by decide +kernel) ⟨Nat.le_trans (by decide) hfr, Nat.le_trans (Nat.le_of_ble_eq_true rfl) hlo⟩ rfl (Nat.le_of_ble_eq_true rfl) rfl dX3_load_2 hF (fun v1 h H locs hF A => ?_)
    show W _ _ _ _ _ _ _ _ _ _ _ _ _ _ _ (F0 m 5 ls [.int v1])
    refine lv_if_ne (tgt := 10) hx hb dX3_load_5 (by decide) (fun c2 => ?_) (fun c2 => ?_)
    · have hF := mo_ifF c2 hF
      refine lv_aload_n hx hb dX3_load_10 rfl (lv_at hl 0 rfl) ?_
      refine lv_iload_n hx hb dX3_load_11 rfl (lv_at hl 1 rfl) ?_
      refine lv_aload_n hx hb dX3_load_12 rfl (lv_at hl 0 rfl) ?_
      refine mo_wR C A (T := TX3) iX3 rfl 1 (by decide) tb_79 rfl dX3_load_13 hF (fun v3 hF => ?_)
      refine lv_iload_n hx hb dX3_load_16 rfl (lv_at hl 2 rfl) ?_
      refine mo_wla C A dX3_load_17 hF (fun v4 hF => ?_)
      refine mo_cV (n := 2) (As := [.int x1, .int v4]) (rest := []) C A hml hl.1 (c_X3_write l D dA b0 x0 x1 v4) (ci := 3) (q := (RX3, TX3, 9)) rfl (fun _ e => (mo_ckE e).1) (tb_v tb_401 tb_402 tb_403 tb_65 tb_404) rfl (by decide +kernel) ⟨Nat.le_trans (by decide) hfr, Nat.le_trans (Nat.le_of_ble_eq_true rfl) hlo⟩ rfl (Nat.le_of_ble_eq_true rfl) rfl dX3_load_18 hF (fun v5 h H locs hF A => ?_)
      show W _ _ _ _ _ _ _ _ _ _ _ _ _ _ _ (F0 m 21 ls [])
      refine lv_iconst (v := (1 : Int32)) hx hb dX3_load_21 (by decide) ?_
      rw [hQ]
      exact mo_zret C A hr hlocks dX3_load_22 hF
    · have hF := mo_ifT c2 hF
      refine lv_iconst (v := (0 : Int32)) hx hb dX3_load_8 (by decide) ?_
      rw [hQ]
      exact mo_zret C A hr hlocks dX3_load_9 hF
  exact E h0 s.heap [] hF A
set_option maxHeartbeats 4000000 in
set_option maxRecDepth 100000 in
theorem c_X3_putOut (l : Launch) (D : va_G) (dA : Nat → ClassId) (b0 : Nat) (x0 : Nat) (x1 : Int32) : mo_Met l yX3_putOut [Cond.code yX3_putOut cX3_putOut 2 (some .boolean)] 3 61 D dA b0 [.ref x0, .int x1] (fun r : Int32 => some (.int r)) (F_X3_putOut x0 x1) := by
  refine mo_MetOf (own := RX3) (by decide) (Nat.le_of_ble_eq_true rfl) [(0, .ref x0), (1, .int x1)] rfl rfl ?_
  intro p e R s m args below meth c Q h0 h2 z ls hQ C hml hr hlocks hnm hfr hlo hF A hl
  have hx := C.1
  have hb := C.2.1
  have hown := C.2.2.1
  have hts := C.2.2.2.1
  have hK := C.2.2.2.2.1
  have iX3 := inlX3
  have iX9 := inlX9
  unfold F_X3_putOut at hF
  obtain ⟨-, hF⟩ := mo_ckE hF
  have E : ∀ (h : mo_H) (H : Heap) (locs : List Loc), (mo_b (mo_gR x0 3 3) fun v1 => mo_b (mo_gI v1 9 1) fun v2 => (if v2 = (200 : Int32) then mo_rz (0 : Int32) else mo_b (mo_gR x0 3 3) fun v4 => mo_b (F_X9_add v4 x1) fun v5 => mo_rz (1 : Int32))).1 h = some (z, h2) → mo_A D dA b0 s.heap h0 h H locs → W p l e R s m args below meth c H locs (h.2.1 - h0.2.1) (h.2.2 - h0.2.2) Q (F0 m 0 ls []) := by
    intro h H locs hF A
    refine lv_aload_n hx hb dX3_putOut_0 rfl (lv_at hl 0 rfl) ?_
    refine mo_wR C A (T := TX3) iX3 rfl 3 (by decide) tb_82 rfl dX3_putOut_1 hF (fun v1 hF => ?_)
    refine mo_wIN C A (T := TX9) iX9 rfl 1 (by decide) (List.mem_of_getElem? (i := 4) rfl) rfl dX3_putOut_4 hF (fun v2 hF => ?_)
    refine lv_sipush (v := (200 : Int32)) hx hb dX3_putOut_7 (by decide) ?_
    refine lv_icmp_ne (tgt := 15) hx hb dX3_putOut_10 (by decide) (fun c3 => ?_) (fun c3 => ?_)
    · have hF := mo_ifF c3 hF
      refine lv_aload_n hx hb dX3_putOut_15 rfl (lv_at hl 0 rfl) ?_
      refine mo_wR C A (T := TX3) iX3 rfl 3 (by decide) tb_82 rfl dX3_putOut_16 hF (fun v4 hF => ?_)
      refine lv_iload_n hx hb dX3_putOut_19 rfl (lv_at hl 1 rfl) ?_
      refine mo_cV (n := 1) (As := [.int x1]) (rest := []) C A hml hl.1 (c_X9_add l D dA b0 v4 x1) (ci := 9) (q := (RX9, TX9, 2)) rfl (fun _ e => (mo_ckE e).1) (tb_v tb_413 tb_232 tb_233 tb_46 tb_234) rfl (by decide +kernel) ⟨Nat.le_trans (by decide) hfr, Nat.le_trans (Nat.le_of_ble_eq_true rfl) hlo⟩ rfl (Nat.le_of_ble_eq_true rfl) rfl dX3_putOut_20 hF (fun v5 h H locs hF A => ?_)
      show W _ _ _ _ _ _ _ _ _ _ _ _ _ _ _ (F0 m 23 ls [])
      refine lv_iconst (v := (1 : Int32)) hx hb dX3_putOut_23 (by decide) ?_
      rw [hQ]
      exact mo_zret C A hr hlocks dX3_putOut_24 hF
    · have hF := mo_ifT c3 hF
      refine lv_iconst (v := (0 : Int32)) hx hb dX3_putOut_13 (by decide) ?_
      rw [hQ]
      exact mo_zret C A hr hlocks dX3_putOut_14 hF
  exact E h0 s.heap [] hF A
set_option maxHeartbeats 4000000 in
set_option maxRecDepth 100000 in
theorem c_X3_store (l : Launch) (D : va_G) (dA : Nat → ClassId) (b0 : Nat) (x0 : Nat) (x1 : Int32) (x2 : Int32) : mo_Met l yX3_store [Cond.code yX3_store cX3_store 3 (some .boolean)] 1 21 D dA b0 [.ref x0, .int x1, .int x2] (fun r : Int32 => some (.int r)) (F_X3_store x0 x1 x2) := by
  refine mo_MetOf (own := RX3) (by decide) (Nat.le_of_ble_eq_true rfl) [(0, .ref x0), (1, .int x1), (2, .int x2)] rfl rfl ?_
  intro p e R s m args below meth c Q h0 h2 z ls hQ C hml hr hlocks hnm hfr hlo hF A hl
  have hx := C.1
  have hb := C.2.1
  have hown := C.2.2.1
  have hts := C.2.2.2.1
  have hK := C.2.2.2.2.1
  have iX3 := inlX3
  unfold F_X3_store at hF
  obtain ⟨-, hF⟩ := mo_ckE hF
  have E : ∀ (h : mo_H) (H : Heap) (locs : List Loc), (mo_b (F_X3_hasCells x1 (1 : Int32)) fun v1 => (if v1 = 0 then mo_rz (0 : Int32) else mo_b (mo_gR x0 3 1) fun v3 => mo_b (mo_sa 0 v3 x1 x2) fun _ => mo_rz (1 : Int32))).1 h = some (z, h2) → mo_A D dA b0 s.heap h0 h H locs → W p l e R s m args below meth c H locs (h.2.1 - h0.2.1) (h.2.2 - h0.2.2) Q (F0 m 0 ls []) := by
    intro h H locs hF A
    refine lv_iload_n hx hb dX3_store_0 rfl (lv_at hl 1 rfl) ?_
    refine lv_iconst (v := (1 : Int32)) hx hb dX3_store_1 (by decide) ?_
    refine mo_cS (n := 2) (As := [.int x1, .int (1 : Int32)]) (rest := []) C A hml hl.1 (c_X3_hasCells l D dA b0 x1 (1 : Int32)) (tb_s tb_398 tb_399 tb_65 tb_400) rfl (by decide +kernel) ⟨Nat.le_trans (by decide) hfr, Nat.le_trans (Nat.le_of_ble_eq_true rfl) hlo⟩ rfl (Nat.le_of_ble_eq_true rfl) rfl dX3_store_2 hF (fun v1 h H locs hF A => ?_)
    show W _ _ _ _ _ _ _ _ _ _ _ _ _ _ _ (F0 m 5 ls [.int v1])
    refine lv_if_ne (tgt := 10) hx hb dX3_store_5 (by decide) (fun c2 => ?_) (fun c2 => ?_)
    · have hF := mo_ifF c2 hF
      refine lv_aload_n hx hb dX3_store_10 rfl (lv_at hl 0 rfl) ?_
      refine mo_wR C A (T := TX3) iX3 rfl 1 (by decide) tb_79 rfl dX3_store_11 hF (fun v3 hF => ?_)
      refine lv_iload_n hx hb dX3_store_14 rfl (lv_at hl 1 rfl) ?_
      refine lv_iload_n hx hb dX3_store_15 rfl (lv_at hl 2 rfl) ?_
      refine mo_wsa C A dX3_store_16 hF (fun h H locs hF A => ?_)
      refine lv_iconst (v := (1 : Int32)) hx hb dX3_store_17 (by decide) ?_
      rw [hQ]
      exact mo_zret C A hr hlocks dX3_store_18 hF
    · have hF := mo_ifT c2 hF
      refine lv_iconst (v := (0 : Int32)) hx hb dX3_store_8 (by decide) ?_
      rw [hQ]
      exact mo_zret C A hr hlocks dX3_store_9 hF
  exact E h0 s.heap [] hF A
set_option maxHeartbeats 4000000 in
set_option maxRecDepth 100000 in
theorem c_X9_removeFirst (l : Launch) (D : va_G) (dA : Nat → ClassId) (b0 : Nat) (x0 : Nat) : mo_Met l yX9_removeFirst [Cond.code yX9_removeFirst cX9_removeFirst 1 none] 1 18 D dA b0 [.ref x0] (fun _ : Unit => none) (F_X9_removeFirst x0) := by
  refine mo_MetOf (own := RX9) (by decide) (Nat.le_of_ble_eq_true rfl) [(0, .ref x0)] rfl rfl ?_
  intro p e R s m args below meth c Q h0 h2 z ls hQ C hml hr hlocks hnm hfr hlo hF A hl
  have hx := C.1
  have hb := C.2.1
  have hown := C.2.2.1
  have hts := C.2.2.2.1
  have hK := C.2.2.2.2.1
  have iX9 := inlX9
  unfold F_X9_removeFirst at hF
  obtain ⟨-, hF⟩ := mo_ckE hF
  have E : ∀ (h : mo_H) (H : Heap) (locs : List Loc), (mo_b (mo_gI x0 9 1) fun v1 => (if v1 ≤ 0 then mo_ret () else mo_b (mo_gR x0 9 0) fun v3 => mo_b (mo_gR x0 9 0) fun v4 => mo_b (mo_gI x0 9 1) fun v5 => mo_b (mo_cp v3 (1 : Int32) v4 (0 : Int32) (v5 - (1 : Int32))) fun _ => mo_b (mo_gI x0 9 1) fun v6 => mo_b (mo_pV x0 9 1 (.int (v6 - (1 : Int32)))) fun _ => mo_ret ())).1 h = some (z, h2) → mo_A D dA b0 s.heap h0 h H locs → W p l e R s m args below meth c H locs (h.2.1 - h0.2.1) (h.2.2 - h0.2.2) Q (F0 m 0 ls []) := by
    intro h H locs hF A
    refine lv_aload_n hx hb dX9_removeFirst_0 rfl (lv_at hl 0 rfl) ?_
    refine mo_wI C A (T := TX9) iX9 rfl 1 (by decide) tb_235 rfl dX9_removeFirst_1 hF (fun v1 hF => ?_)
    refine lv_if_le (tgt := 36) hx hb dX9_removeFirst_4 (by decide) (fun c2 => ?_) (fun c2 => ?_)
    · have hF := mo_ifT c2 hF
      rw [hQ]
      exact mo_vret C A hr hlocks dX9_removeFirst_36 hF
    · have hF := mo_ifF c2 hF
      refine lv_aload_n hx hb dX9_removeFirst_7 rfl (lv_at hl 0 rfl) ?_
      refine mo_wR C A (T := TX9) iX9 rfl 0 (by decide) tb_56 rfl dX9_removeFirst_8 hF (fun v3 hF => ?_)
      refine lv_iconst (v := (1 : Int32)) hx hb dX9_removeFirst_11 (by decide) ?_
      refine lv_aload_n hx hb dX9_removeFirst_12 rfl (lv_at hl 0 rfl) ?_
      refine mo_wR C A (T := TX9) iX9 rfl 0 (by decide) tb_56 rfl dX9_removeFirst_13 hF (fun v4 hF => ?_)
      refine lv_iconst (v := (0 : Int32)) hx hb dX9_removeFirst_16 (by decide) ?_
      refine lv_aload_n hx hb dX9_removeFirst_17 rfl (lv_at hl 0 rfl) ?_
      refine mo_wI C A (T := TX9) iX9 rfl 1 (by decide) tb_235 rfl dX9_removeFirst_18 hF (fun v5 hF => ?_)
      refine lv_iconst (v := (1 : Int32)) hx hb dX9_removeFirst_21 (by decide) ?_
      refine lv_isub hx hb dX9_removeFirst_22 ?_
      refine mo_wcp C A (by rw [hml]; exact hl.1.symm) tb_427 tb_248 tb_249 tb_250 (Nat.le_trans (by decide) hfr) (Nat.le_trans (Nat.le_of_ble_eq_true rfl) hlo) dX9_removeFirst_23 hF (fun h H locs hF A => ?_)
      refine lv_aload_n hx hb dX9_removeFirst_26 rfl (lv_at hl 0 rfl) ?_
      refine lv_dup hx hb dX9_removeFirst_27 rfl ?_
      refine mo_wI C A (T := TX9) iX9 rfl 1 (by decide) tb_235 rfl dX9_removeFirst_28 hF (fun v6 hF => ?_)
      refine lv_iconst (v := (1 : Int32)) hx hb dX9_removeFirst_31 (by decide) ?_
      refine lv_isub hx hb dX9_removeFirst_32 ?_
      refine mo_wpV C A (T := TX9) iX9 tyX9 tyX9_ok nmX9 rfl 1 (by decide) tb_235 rfl rfl rfl rfl dX9_removeFirst_33 hF (fun h H locs hF A => ?_)
      rw [hQ]
      exact mo_vret C A hr hlocks dX9_removeFirst_36 hF
  exact E h0 s.heap [] hF A
set_option maxHeartbeats 4000000 in
set_option maxRecDepth 100000 in
theorem c_X3_takeInput (l : Launch) (D : va_G) (dA : Nat → ClassId) (b0 : Nat) (x0 : Nat) (x1 : Int32) : mo_Met l yX3_takeInput [Cond.code yX3_takeInput cX3_takeInput 2 none] 2 38 D dA b0 [.ref x0, .int x1] (fun _ : Unit => none) (F_X3_takeInput x0 x1) := by
  refine mo_MetOf (own := RX3) (by decide) (Nat.le_of_ble_eq_true rfl) [(0, .ref x0), (1, .int x1)] rfl rfl ?_
  intro p e R s m args below meth c Q h0 h2 z ls hQ C hml hr hlocks hnm hfr hlo hF A hl
  have hx := C.1
  have hb := C.2.1
  have hown := C.2.2.1
  have hts := C.2.2.2.1
  have hK := C.2.2.2.2.1
  have iX3 := inlX3
  have iX9 := inlX9
  unfold F_X3_takeInput at hF
  obtain ⟨-, hF⟩ := mo_ckE hF
  have E : ∀ (h : mo_H) (H : Heap) (locs : List Loc), (mo_b (mo_gR x0 3 2) fun v1 => mo_b (mo_gI v1 9 1) fun v2 => (if v2 = 0 then mo_b (F_X3_report x0 (0 : Int32)) fun v10 => mo_ret () else mo_b (mo_gR x0 3 2) fun v4 => mo_b (F_X9_get v4 (0 : Int32)) fun v5 => mo_b (F_X3_write x0 x1 v5) fun v6 => mo_b (mo_gR x0 3 2) fun v7 => mo_b (F_X9_removeFirst v7) fun v8 => mo_b (F_X3_report x0 (1 : Int32)) fun v9 => mo_ret ())).1 h = some (z, h2) → mo_A D dA b0 s.heap h0 h H locs → W p l e R s m args below meth c H locs (h.2.1 - h0.2.1) (h.2.2 - h0.2.2) Q (F0 m 0 ls []) := by
    intro h H locs hF A
    refine lv_aload_n hx hb dX3_takeInput_0 rfl (lv_at hl 0 rfl) ?_
    refine mo_wR C A (T := TX3) iX3 rfl 2 (by decide) tb_81 rfl dX3_takeInput_1 hF (fun v1 hF => ?_)
    refine mo_wIN C A (T := TX9) iX9 rfl 1 (by decide) (List.mem_of_getElem? (i := 4) rfl) rfl dX3_takeInput_4 hF (fun v2 hF => ?_)
    refine lv_if_ne (tgt := 16) hx hb dX3_takeInput_7 (by decide) (fun c3 => ?_) (fun c3 => ?_)
    · have hF := mo_ifF c3 hF
      refine lv_aload_n hx hb dX3_takeInput_16 rfl (lv_at hl 0 rfl) ?_
      refine lv_iload_n hx hb dX3_takeInput_17 rfl (lv_at hl 1 rfl) ?_
      refine lv_aload_n hx hb dX3_takeInput_18 rfl (lv_at hl 0 rfl) ?_
      refine mo_wR C A (T := TX3) iX3 rfl 2 (by decide) tb_81 rfl dX3_takeInput_19 hF (fun v4 hF => ?_)
      refine lv_iconst (v := (0 : Int32)) hx hb dX3_takeInput_22 (by decide) ?_
      refine mo_cV (n := 1) (As := [.int (0 : Int32)]) (rest := [.int x1, .ref x0]) C A hml hl.1 (c_X9_get l D dA b0 v4 (0 : Int32)) (ci := 9) (q := (RX9, TX9, 2)) rfl (fun _ e => (mo_ckE e).1) (tb_v tb_422 tb_288 tb_289 tb_46 tb_290) rfl (by decide +kernel) ⟨Nat.le_trans (by decide) hfr, Nat.le_trans (Nat.le_of_ble_eq_true rfl) hlo⟩ rfl (Nat.le_of_ble_eq_true rfl) rfl dX3_takeInput_23 hF (fun v5 h H locs hF A => ?_)
      show W _ _ _ _ _ _ _ _ _ _ _ _ _ _ _ (F0 m 26 ls [.int v5, .int x1, .ref x0])
      refine mo_cV (n := 2) (As := [.int x1, .int v5]) (rest := []) C A hml hl.1 (c_X3_write l D dA b0 x0 x1 v5) (ci := 3) (q := (RX3, TX3, 9)) rfl (fun _ e => (mo_ckE e).1) (tb_v tb_401 tb_402 tb_403 tb_65 tb_404) rfl (by decide +kernel) ⟨Nat.le_trans (by decide) hfr, Nat.le_trans (Nat.le_of_ble_eq_true rfl) hlo⟩ rfl (Nat.le_of_ble_eq_true rfl) rfl dX3_takeInput_26 hF (fun v6 h H locs hF A => ?_)
      show W _ _ _ _ _ _ _ _ _ _ _ _ _ _ _ (F0 m 29 ls [])
      refine lv_aload_n hx hb dX3_takeInput_29 rfl (lv_at hl 0 rfl) ?_
      refine mo_wR C A (T := TX3) iX3 rfl 2 (by decide) tb_81 rfl dX3_takeInput_30 hF (fun v7 hF => ?_)
      refine mo_cV (n := 0) (As := []) (rest := []) C A hml hl.1 (c_X9_removeFirst l D dA b0 v7) (ci := 9) (q := (RX9, TX9, 2)) rfl (fun _ e => (mo_ckE e).1) (tb_v tb_423 tb_424 tb_425 tb_46 tb_426) rfl (by decide +kernel) ⟨Nat.le_trans (by decide) hfr, Nat.le_trans (Nat.le_of_ble_eq_true rfl) hlo⟩ rfl (Nat.le_of_ble_eq_true rfl) rfl dX3_takeInput_33 hF (fun v8 h H locs hF A => ?_)
      show W _ _ _ _ _ _ _ _ _ _ _ _ _ _ _ (F0 m 36 ls [])
      refine lv_aload_n hx hb dX3_takeInput_36 rfl (lv_at hl 0 rfl) ?_
      refine lv_iconst (v := (1 : Int32)) hx hb dX3_takeInput_37 (by decide) ?_
      refine mo_cV (n := 1) (As := [.int (1 : Int32)]) (rest := []) C A hml hl.1 (c_X3_report l D dA b0 x0 (1 : Int32)) (ci := 3) (q := (RX3, TX3, 9)) rfl (fun _ e => (mo_ckE e).1) (tb_v tb_418 tb_419 tb_420 tb_65 tb_421) rfl (by decide +kernel) ⟨Nat.le_trans (by decide) hfr, Nat.le_trans (Nat.le_of_ble_eq_true rfl) hlo⟩ rfl (Nat.le_of_ble_eq_true rfl) rfl dX3_takeInput_38 hF (fun v9 h H locs hF A => ?_)
      show W _ _ _ _ _ _ _ _ _ _ _ _ _ _ _ (F0 m 41 ls [])
      rw [hQ]
      exact mo_vret C A hr hlocks dX3_takeInput_41 hF
    · have hF := mo_ifT c3 hF
      refine lv_aload_n hx hb dX3_takeInput_10 rfl (lv_at hl 0 rfl) ?_
      refine lv_iconst (v := (0 : Int32)) hx hb dX3_takeInput_11 (by decide) ?_
      refine mo_cV (n := 1) (As := [.int (0 : Int32)]) (rest := []) C A hml hl.1 (c_X3_report l D dA b0 x0 (0 : Int32)) (ci := 3) (q := (RX3, TX3, 9)) rfl (fun _ e => (mo_ckE e).1) (tb_v tb_418 tb_419 tb_420 tb_65 tb_421) rfl (by decide +kernel) ⟨Nat.le_trans (by decide) hfr, Nat.le_trans (Nat.le_of_ble_eq_true rfl) hlo⟩ rfl (Nat.le_of_ble_eq_true rfl) rfl dX3_takeInput_12 hF (fun v10 h H locs hF A => ?_)
      show W _ _ _ _ _ _ _ _ _ _ _ _ _ _ _ (F0 m 15 ls [])
      rw [hQ]
      exact mo_vret C A hr hlocks dX3_takeInput_15 hF
  exact E h0 s.heap [] hF A
set_option maxHeartbeats 4000000 in
set_option maxRecDepth 100000 in
theorem c_X3_performAlone (l : Launch) (D : va_G) (dA : Nat → ClassId) (b0 : Nat) (x0 : Nat) (x1 : Int32) : mo_Met l yX3_performAlone [Cond.code yX3_performAlone cX3_performAlone 4 (some .boolean)] 4 82 D dA b0 [.ref x0, .int x1] (fun r : Int32 => some (.int r)) (F_X3_performAlone x0 x1) := by
  refine mo_MetOf (own := RX3) (by decide) (Nat.le_of_ble_eq_true rfl) [(0, .ref x0), (1, .int x1)] rfl rfl ?_
  intro p e R s m args below meth c Q h0 h2 z ls hQ C hml hr hlocks hnm hfr hlo hF A hl
  have hx := C.1
  have hb := C.2.1
  have hown := C.2.2.1
  have hts := C.2.2.2.1
  have hK := C.2.2.2.2.1
  have iX3 := inlX3
  unfold F_X3_performAlone at hF
  obtain ⟨-, hF⟩ := mo_ckE hF
  have E : ∀ (h : mo_H) (H : Heap) (locs : List Loc), (mo_b (F_X10_partA x1) fun v1 => mo_b (F_X10_partB x1) fun v2 => mo_b (F_X3_read x0 v2) fun v3 => mo_b (F_X10_operation x1) fun v4 => (if v4 = (0 : Int32) then mo_b (mo_pV x0 3 5 (.int (1 : Int32))) fun _ => mo_rz (1 : Int32) else (if v4 = (9 : Int32) then mo_rz (1 : Int32) else (if v4 = (10 : Int32) then mo_rz (1 : Int32) else (if v4 = (11 : Int32) then mo_rz (1 : Int32) else (if v4 = (12 : Int32) then mo_b (F_X3_load x0 v1 v3) fun v10 => mo_rz v10 else (if v4 = (13 : Int32) then mo_b (F_X3_read x0 v1) fun v12 => mo_b (F_X3_store x0 v3 v12) fun v13 => mo_rz v13 else (if v4 = (18 : Int32) then mo_b (F_X3_read x0 v1) fun v15 => mo_b (F_X3_putOut x0 v15) fun v16 => mo_rz v16 else (if v4 = (19 : Int32) then mo_b (F_X3_takeInput x0 v1) fun v18 => mo_rz (1 : Int32) else mo_b (F_X3_computed x0 x1) fun v19 => mo_b (F_X3_write x0 v1 v19) fun v20 => mo_rz (1 : Int32)))))))))).1 h = some (z, h2) → mo_A D dA b0 s.heap h0 h H locs → W p l e R s m args below meth c H locs (h.2.1 - h0.2.1) (h.2.2 - h0.2.2) Q (F0 m 0 ls []) := by
    intro h H locs hF A
    refine lv_iload_n hx hb dX3_performAlone_0 rfl (lv_at hl 1 rfl) ?_
    refine mo_cN (n := 1) (As := [.int x1]) (rest := []) C A hml hl.1 (c_X10_partA l D dA b0 x1) (tb_o tb_387) (List.mem_of_getElem? (i := 83) rfl) tb_2 tb_386 rfl (by decide +kernel) ⟨Nat.le_trans (by decide) hfr, Nat.le_trans (Nat.le_of_ble_eq_true rfl) hlo⟩ rfl (Nat.le_of_ble_eq_true rfl) rfl dX3_performAlone_1 hF (fun v1 h H locs hF A => ?_)
    show W _ _ _ _ _ _ _ _ _ _ _ _ _ _ _ (F0 m 4 ls [.int v1])
    refine lv_istore_n (lv' := [(2, .int v1), (0, .ref x0), (1, .int x1)]) hx hb dX3_performAlone_4 rfl hl (by decide) rfl (fun ls hl => ?_)
    refine lv_aload_n hx hb dX3_performAlone_5 rfl (lv_at hl 1 rfl) ?_
    refine lv_iload_n hx hb dX3_performAlone_6 rfl (lv_at hl 2 rfl) ?_
    refine mo_cN (n := 1) (As := [.int x1]) (rest := [.ref x0]) C A hml hl.1 (c_X10_partB l D dA b0 x1) (tb_o tb_389) (List.mem_of_getElem? (i := 84) rfl) tb_2 tb_388 rfl (by decide +kernel) ⟨Nat.le_trans (by decide) hfr, Nat.le_trans (Nat.le_of_ble_eq_true rfl) hlo⟩ rfl (Nat.le_of_ble_eq_true rfl) rfl dX3_performAlone_7 hF (fun v2 h H locs hF A => ?_)
    show W _ _ _ _ _ _ _ _ _ _ _ _ _ _ _ (F0 m 10 ls [.int v2, .ref x0])
    refine mo_cV (n := 1) (As := [.int v2]) (rest := []) C A hml hl.1 (c_X3_read l D dA b0 x0 v2) (ci := 3) (q := (RX3, TX3, 9)) rfl (fun _ e => (mo_ckE e).1) (tb_v tb_390 tb_391 tb_392 tb_65 tb_393) rfl (by decide +kernel) ⟨Nat.le_trans (by decide) hfr, Nat.le_trans (Nat.le_of_ble_eq_true rfl) hlo⟩ rfl (Nat.le_of_ble_eq_true rfl) rfl dX3_performAlone_10 hF (fun v3 h H locs hF A => ?_)
    show W _ _ _ _ _ _ _ _ _ _ _ _ _ _ _ (F0 m 13 ls [.int v3])
    refine lv_istore_n (lv' := [(3, .int v3), (2, .int v1), (0, .ref x0), (1, .int x1)]) hx hb dX3_performAlone_13 rfl hl (by decide) rfl (fun ls hl => ?_)
    refine lv_iload_n hx hb dX3_performAlone_14 rfl (lv_at hl 3 rfl) ?_
    refine mo_cN (n := 1) (As := [.int x1]) (rest := []) C A hml hl.1 (c_X10_operation l D dA b0 x1) (tb_o tb_377) (List.mem_of_getElem? (i := 85) rfl) tb_2 tb_376 rfl (by decide +kernel) ⟨Nat.le_trans (by decide) hfr, Nat.le_trans (Nat.le_of_ble_eq_true rfl) hlo⟩ rfl (Nat.le_of_ble_eq_true rfl) rfl dX3_performAlone_15 hF (fun v4 h H locs hF A => ?_)
    show W _ _ _ _ _ _ _ _ _ _ _ _ _ _ _ (F0 m 18 ls [.int v4])
    by_cases c5 : v4 = (0 : Int32)
    · have hF := mo_ifT c5 hF
      refine mo_tsI hx hb (0 : Int32) (tgt := 112) (off := 94) dX3_performAlone_18 c5 (by decide) (by decide) rfl (by decide) ?_
      refine lv_aload_n hx hb dX3_performAlone_112 rfl (lv_at hl 2 rfl) ?_
      refine lv_iconst (v := (1 : Int32)) hx hb dX3_performAlone_113 (by decide) ?_
      refine mo_wpV C A (T := TX3) iX3 tyX3 tyX3_ok nmX3 rfl 5 (by decide) tb_385 rfl rfl rfl rfl dX3_performAlone_114 hF (fun h H locs hF A => ?_)
      refine lv_iconst (v := (1 : Int32)) hx hb dX3_performAlone_117 (by decide) ?_
      rw [hQ]
      exact mo_zret C A hr hlocks dX3_performAlone_118 hF
    have hF := mo_ifF c5 hF
    by_cases c6 : v4 = (9 : Int32)
    · have hF := mo_ifT c6 hF
      refine mo_tsI hx hb (9 : Int32) (tgt := 119) (off := 101) dX3_performAlone_18 c6 (by decide) (by decide) rfl (by decide) ?_
      refine lv_iconst (v := (1 : Int32)) hx hb dX3_performAlone_119 (by decide) ?_
      rw [hQ]
      exact mo_zret C A hr hlocks dX3_performAlone_120 hF
    have hF := mo_ifF c6 hF
    by_cases c7 : v4 = (10 : Int32)
    · have hF := mo_ifT c7 hF
      refine mo_tsI hx hb (10 : Int32) (tgt := 119) (off := 101) dX3_performAlone_18 c7 (by decide) (by decide) rfl (by decide) ?_
      refine lv_iconst (v := (1 : Int32)) hx hb dX3_performAlone_119 (by decide) ?_
      rw [hQ]
      exact mo_zret C A hr hlocks dX3_performAlone_120 hF
    have hF := mo_ifF c7 hF
    by_cases c8 : v4 = (11 : Int32)
    · have hF := mo_ifT c8 hF
      refine mo_tsI hx hb (11 : Int32) (tgt := 119) (off := 101) dX3_performAlone_18 c8 (by decide) (by decide) rfl (by decide) ?_
      refine lv_iconst (v := (1 : Int32)) hx hb dX3_performAlone_119 (by decide) ?_
      rw [hQ]
      exact mo_zret C A hr hlocks dX3_performAlone_120 hF
    have hF := mo_ifF c8 hF
    by_cases c9 : v4 = (12 : Int32)
    · have hF := mo_ifT c9 hF
      refine mo_tsI hx hb (12 : Int32) (tgt := 121) (off := 103) dX3_performAlone_18 c9 (by decide) (by decide) rfl (by decide) ?_
      refine lv_aload_n hx hb dX3_performAlone_121 rfl (lv_at hl 2 rfl) ?_
      refine lv_iload_n hx hb dX3_performAlone_122 rfl (lv_at hl 1 rfl) ?_
      refine lv_iload_n hx hb dX3_performAlone_123 rfl (lv_at hl 0 rfl) ?_
      refine mo_cV (n := 2) (As := [.int v1, .int v3]) (rest := []) C A hml hl.1 (c_X3_load l D dA b0 x0 v1 v3) (ci := 3) (q := (RX3, TX3, 9)) rfl (fun _ e => (mo_ckE e).1) (tb_v tb_394 tb_395 tb_396 tb_65 tb_397) rfl (by decide +kernel) ⟨Nat.le_trans (by decide) hfr, Nat.le_trans (Nat.le_of_ble_eq_true rfl) hlo⟩ rfl (Nat.le_of_ble_eq_true rfl) rfl dX3_performAlone_124 hF (fun v10 h H locs hF A => ?_)
      show W _ _ _ _ _ _ _ _ _ _ _ _ _ _ _ (F0 m 127 ls [.int v10])
      rw [hQ]
      exact mo_zret C A hr hlocks dX3_performAlone_127 hF
    have hF := mo_ifF c9 hF
    by_cases c11 : v4 = (13 : Int32)
    · have hF := mo_ifT c11 hF
      refine mo_tsI hx hb (13 : Int32) (tgt := 128) (off := 110) dX3_performAlone_18 c11 (by decide) (by decide) rfl (by decide) ?_
      refine lv_aload_n hx hb dX3_performAlone_128 rfl (lv_at hl 2 rfl) ?_
      refine lv_iload_n hx hb dX3_performAlone_129 rfl (lv_at hl 0 rfl) ?_
      refine lv_aload_n hx hb dX3_performAlone_130 rfl (lv_at hl 2 rfl) ?_
      refine lv_iload_n hx hb dX3_performAlone_131 rfl (lv_at hl 1 rfl) ?_
      refine mo_cV (n := 1) (As := [.int v1]) (rest := [.int v3, .ref x0]) C A hml hl.1 (c_X3_read l D dA b0 x0 v1) (ci := 3) (q := (RX3, TX3, 9)) rfl (fun _ e => (mo_ckE e).1) (tb_v tb_390 tb_391 tb_392 tb_65 tb_393) rfl (by decide +kernel) ⟨Nat.le_trans (by decide) hfr, Nat.le_trans (Nat.le_of_ble_eq_true rfl) hlo⟩ rfl (Nat.le_of_ble_eq_true rfl) rfl dX3_performAlone_132 hF (fun v12 h H locs hF A => ?_)
      show W _ _ _ _ _ _ _ _ _ _ _ _ _ _ _ (F0 m 135 ls [.int v12, .int v3, .ref x0])
      refine mo_cV (n := 2) (As := [.int v3, .int v12]) (rest := []) C A hml hl.1 (c_X3_store l D dA b0 x0 v3 v12) (ci := 3) (q := (RX3, TX3, 9)) rfl (fun _ e => (mo_ckE e).1) (tb_v tb_405 tb_406 tb_407 tb_65 tb_408) rfl (by decide +kernel) ⟨Nat.le_trans (by decide) hfr, Nat.le_trans (Nat.le_of_ble_eq_true rfl) hlo⟩ rfl (Nat.le_of_ble_eq_true rfl) rfl dX3_performAlone_135 hF (fun v13 h H locs hF A => ?_)
      show W _ _ _ _ _ _ _ _ _ _ _ _ _ _ _ (F0 m 138 ls [.int v13])
      rw [hQ]
      exact mo_zret C A hr hlocks dX3_performAlone_138 hF
    have hF := mo_ifF c11 hF
    by_cases c14 : v4 = (18 : Int32)
    · have hF := mo_ifT c14 hF
      refine mo_tsI hx hb (18 : Int32) (tgt := 139) (off := 121) dX3_performAlone_18 c14 (by decide) (by decide) rfl (by decide) ?_
      refine lv_aload_n hx hb dX3_performAlone_139 rfl (lv_at hl 2 rfl) ?_
      refine lv_aload_n hx hb dX3_performAlone_140 rfl (lv_at hl 2 rfl) ?_
      refine lv_iload_n hx hb dX3_performAlone_141 rfl (lv_at hl 1 rfl) ?_
      refine mo_cV (n := 1) (As := [.int v1]) (rest := [.ref x0]) C A hml hl.1 (c_X3_read l D dA b0 x0 v1) (ci := 3) (q := (RX3, TX3, 9)) rfl (fun _ e => (mo_ckE e).1) (tb_v tb_390 tb_391 tb_392 tb_65 tb_393) rfl (by decide +kernel) ⟨Nat.le_trans (by decide) hfr, Nat.le_trans (Nat.le_of_ble_eq_true rfl) hlo⟩ rfl (Nat.le_of_ble_eq_true rfl) rfl dX3_performAlone_142 hF (fun v15 h H locs hF A => ?_)
      show W _ _ _ _ _ _ _ _ _ _ _ _ _ _ _ (F0 m 145 ls [.int v15, .ref x0])
      refine mo_cV (n := 1) (As := [.int v15]) (rest := []) C A hml hl.1 (c_X3_putOut l D dA b0 x0 v15) (ci := 3) (q := (RX3, TX3, 9)) rfl (fun _ e => (mo_ckE e).1) (tb_v tb_409 tb_410 tb_411 tb_65 tb_412) rfl (by decide +kernel) ⟨Nat.le_trans (by decide) hfr, Nat.le_trans (Nat.le_of_ble_eq_true rfl) hlo⟩ rfl (Nat.le_of_ble_eq_true rfl) rfl dX3_performAlone_145 hF (fun v16 h H locs hF A => ?_)
      show W _ _ _ _ _ _ _ _ _ _ _ _ _ _ _ (F0 m 148 ls [.int v16])
      rw [hQ]
      exact mo_zret C A hr hlocks dX3_performAlone_148 hF
    have hF := mo_ifF c14 hF
    by_cases c17 : v4 = (19 : Int32)
    · have hF := mo_ifT c17 hF
      refine mo_tsI hx hb (19 : Int32) (tgt := 149) (off := 131) dX3_performAlone_18 c17 (by decide) (by decide) rfl (by decide) ?_
      refine lv_aload_n hx hb dX3_performAlone_149 rfl (lv_at hl 2 rfl) ?_
      refine lv_iload_n hx hb dX3_performAlone_150 rfl (lv_at hl 1 rfl) ?_
      refine mo_cV (n := 1) (As := [.int v1]) (rest := []) C A hml hl.1 (c_X3_takeInput l D dA b0 x0 v1) (ci := 3) (q := (RX3, TX3, 9)) rfl (fun _ e => (mo_ckE e).1) (tb_v tb_414 tb_415 tb_416 tb_65 tb_417) rfl (by decide +kernel) ⟨Nat.le_trans (by decide) hfr, Nat.le_trans (Nat.le_of_ble_eq_true rfl) hlo⟩ rfl (Nat.le_of_ble_eq_true rfl) rfl dX3_performAlone_151 hF (fun v18 h H locs hF A => ?_)
      show W _ _ _ _ _ _ _ _ _ _ _ _ _ _ _ (F0 m 154 ls [])
      refine lv_iconst (v := (1 : Int32)) hx hb dX3_performAlone_154 (by decide) ?_
      rw [hQ]
      exact mo_zret C A hr hlocks dX3_performAlone_155 hF
    have hF := mo_ifF c17 hF
    refine mo_tsD hx hb [(0 : Int32), (9 : Int32), (10 : Int32), (11 : Int32), (12 : Int32), (13 : Int32), (18 : Int32), (19 : Int32)] (tgt := 156) dX3_performAlone_18 (List.forall_mem_cons.mpr ⟨c5, (List.forall_mem_cons.mpr ⟨c6, (List.forall_mem_cons.mpr ⟨c7, (List.forall_mem_cons.mpr ⟨c8, (List.forall_mem_cons.mpr ⟨c9, (List.forall_mem_cons.mpr ⟨c11, (List.forall_mem_cons.mpr ⟨c14, (List.forall_mem_cons.mpr ⟨c17, (fun _ h => absurd h List.not_mem_nil)⟩)⟩)⟩)⟩)⟩)⟩)⟩)⟩) (by decide) (by decide) (by decide) ?_
    refine lv_aload_n hx hb dX3_performAlone_156 rfl (lv_at hl 2 rfl) ?_
    refine lv_iload_n hx hb dX3_performAlone_157 rfl (lv_at hl 1 rfl) ?_
    refine lv_aload_n hx hb dX3_performAlone_158 rfl (lv_at hl 2 rfl) ?_
    refine lv_iload_n hx hb dX3_performAlone_159 rfl (lv_at hl 3 rfl) ?_
    refine mo_cV (n := 1) (As := [.int x1]) (rest := [.int v1, .ref x0]) C A hml hl.1 (c_X3_computed l D dA b0 x0 x1) (ci := 3) (q := (RX3, TX3, 9)) rfl (fun _ e => (mo_ckE e).1) (tb_v tb_428 tb_429 tb_430 tb_65 tb_431) rfl (by decide +kernel) ⟨Nat.le_trans (by decide) hfr, Nat.le_trans (Nat.le_of_ble_eq_true rfl) hlo⟩ rfl (Nat.le_of_ble_eq_true rfl) rfl dX3_performAlone_160 hF (fun v19 h H locs hF A => ?_)
    show W _ _ _ _ _ _ _ _ _ _ _ _ _ _ _ (F0 m 163 ls [.int v19, .int v1, .ref x0])
    refine mo_cV (n := 2) (As := [.int v1, .int v19]) (rest := []) C A hml hl.1 (c_X3_write l D dA b0 x0 v1 v19) (ci := 3) (q := (RX3, TX3, 9)) rfl (fun _ e => (mo_ckE e).1) (tb_v tb_401 tb_402 tb_403 tb_65 tb_404) rfl (by decide +kernel) ⟨Nat.le_trans (by decide) hfr, Nat.le_trans (Nat.le_of_ble_eq_true rfl) hlo⟩ rfl (Nat.le_of_ble_eq_true rfl) rfl dX3_performAlone_163 hF (fun v20 h H locs hF A => ?_)
    show W _ _ _ _ _ _ _ _ _ _ _ _ _ _ _ (F0 m 166 ls [])
    refine lv_iconst (v := (1 : Int32)) hx hb dX3_performAlone_166 (by decide) ?_
    rw [hQ]
    exact mo_zret C A hr hlocks dX3_performAlone_167 hF
  exact E h0 s.heap [] hF A
set_option maxHeartbeats 4000000 in
set_option maxRecDepth 100000 in
theorem c_X3_placeAfter (l : Launch) (D : va_G) (dA : Nat → ClassId) (b0 : Nat) (x0 : Nat) (x1 : Int32) : mo_Met l yX3_placeAfter [Cond.code yX3_placeAfter cX3_placeAfter 4 (some .int)] 1 21 D dA b0 [.ref x0, .int x1] (fun r : Int32 => some (.int r)) (F_X3_placeAfter x0 x1) := by
  refine mo_MetOf (own := RX3) (by decide) (Nat.le_of_ble_eq_true rfl) [(0, .ref x0), (1, .int x1)] rfl rfl ?_
  intro p e R s m args below meth c Q h0 h2 z ls hQ C hml hr hlocks hnm hfr hlo hF A hl
  have hx := C.1
  have hb := C.2.1
  have hown := C.2.2.1
  have hts := C.2.2.2.1
  have hK := C.2.2.2.2.1
  have iX3 := inlX3
  unfold F_X3_placeAfter at hF
  obtain ⟨-, hF⟩ := mo_ckE hF
  have E : ∀ (h : mo_H) (H : Heap) (locs : List Loc), (mo_b (F_X10_partA x1) fun v1 => mo_b (F_X3_read x0 v1) fun v2 => mo_b (F_X10_partB x1) fun v3 => mo_b (F_X10_operation x1) fun v4 => (if v4 = (0 : Int32) then mo_b (mo_gI x0 3 4) fun v6 => mo_ret v6 else (if v4 = (9 : Int32) then mo_ret v3 else (if v4 = (10 : Int32) then (if v2 = 0 then mo_ret v3 else mo_b (mo_gI x0 3 4) fun v10 => mo_ret (v10 + (1 : Int32))) else (if v4 = (11 : Int32) then (if v2 = 0 then mo_b (mo_gI x0 3 4) fun v13 => mo_ret (v13 + (1 : Int32)) else mo_ret v3) else mo_b (mo_gI x0 3 4) fun v14 => mo_ret (v14 + (1 : Int32))))))).1 h = some (z, h2) → mo_A D dA b0 s.heap h0 h H locs → W p l e R s m args below meth c H locs (h.2.1 - h0.2.1) (h.2.2 - h0.2.2) Q (F0 m 0 ls []) := by
    intro h H locs hF A
    refine lv_aload_n hx hb dX3_placeAfter_0 rfl (lv_at hl 0 rfl) ?_
    refine lv_iload_n hx hb dX3_placeAfter_1 rfl (lv_at hl 1 rfl) ?_
    refine mo_cN (n := 1) (As := [.int x1]) (rest := [.ref x0]) C A hml hl.1 (c_X10_partA l D dA b0 x1) (tb_o tb_387) (List.mem_of_getElem? (i := 83) rfl) tb_2 tb_386 rfl (by decide +kernel) ⟨Nat.le_trans (by decide) hfr, Nat.le_trans (Nat.le_of_ble_eq_true rfl) hlo⟩ rfl (Nat.le_of_ble_eq_true rfl) rfl dX3_placeAfter_2 hF (fun v1 h H locs hF A => ?_)
    show W _ _ _ _ _ _ _ _ _ _ _ _ _ _ _ (F0 m 5 ls [.int v1, .ref x0])
    refine mo_cV (n := 1) (As := [.int v1]) (rest := []) C A hml hl.1 (c_X3_read l D dA b0 x0 v1) (ci := 3) (q := (RX3, TX3, 9)) rfl (fun _ e => (mo_ckE e).1) (tb_v tb_390 tb_391 tb_392 tb_65 tb_393) rfl (by decide +kernel) ⟨Nat.le_trans (by decide) hfr, Nat.le_trans (Nat.le_of_ble_eq_true rfl) hlo⟩ rfl (Nat.le_of_ble_eq_true rfl) rfl dX3_placeAfter_5 hF (fun v2 h H locs hF A => ?_)
    show W _ _ _ _ _ _ _ _ _ _ _ _ _ _ _ (F0 m 8 ls [.int v2])
    refine lv_istore_n (lv' := [(2, .int v2), (0, .ref x0), (1, .int x1)]) hx hb dX3_placeAfter_8 rfl hl (by decide) rfl (fun ls hl => ?_)
    refine lv_iload_n hx hb dX3_placeAfter_9 rfl (lv_at hl 2 rfl) ?_
    refine mo_cN (n := 1) (As := [.int x1]) (rest := []) C A hml hl.1 (c_X10_partB l D dA b0 x1) (tb_o tb_389) (List.mem_of_getElem? (i := 84) rfl) tb_2 tb_388 rfl (by decide +kernel) ⟨Nat.le_trans (by decide) hfr, Nat.le_trans (Nat.le_of_ble_eq_true rfl) hlo⟩ rfl (Nat.le_of_ble_eq_true rfl) rfl dX3_placeAfter_10 hF (fun v3 h H locs hF A => ?_)
    show W _ _ _ _ _ _ _ _ _ _ _ _ _ _ _ (F0 m 13 ls [.int v3])
    refine lv_istore_n (lv' := [(3, .int v3), (2, .int v2), (0, .ref x0), (1, .int x1)]) hx hb dX3_placeAfter_13 rfl hl (by decide) rfl (fun ls hl => ?_)
    refine lv_iload_n hx hb dX3_placeAfter_14 rfl (lv_at hl 3 rfl) ?_
    refine mo_cN (n := 1) (As := [.int x1]) (rest := []) C A hml hl.1 (c_X10_operation l D dA b0 x1) (tb_o tb_377) (List.mem_of_getElem? (i := 85) rfl) tb_2 tb_376 rfl (by decide +kernel) ⟨Nat.le_trans (by decide) hfr, Nat.le_trans (Nat.le_of_ble_eq_true rfl) hlo⟩ rfl (Nat.le_of_ble_eq_true rfl) rfl dX3_placeAfter_15 hF (fun v4 h H locs hF A => ?_)
    show W _ _ _ _ _ _ _ _ _ _ _ _ _ _ _ (F0 m 18 ls [.int v4])
    by_cases c5 : v4 = (0 : Int32)
    · have hF := mo_ifT c5 hF
      refine mo_lsI hx hb (0 : Int32) (tgt := 60) (off := 42) dX3_placeAfter_18 c5 (by decide) rfl (by decide) ?_
      refine lv_aload_n hx hb dX3_placeAfter_60 rfl (lv_at hl 2 rfl) ?_
      refine mo_wI C A (T := TX3) iX3 rfl 4 (by decide) tb_502 rfl dX3_placeAfter_61 hF (fun v6 hF => ?_)
      rw [hQ]
      exact mo_iret C A hr hlocks dX3_placeAfter_64 hF
    have hF := mo_ifF c5 hF
    by_cases c7 : v4 = (9 : Int32)
    · have hF := mo_ifT c7 hF
      refine mo_lsI hx hb (9 : Int32) (tgt := 65) (off := 47) dX3_placeAfter_18 c7 (by decide) rfl (by decide) ?_
      refine lv_iload_n hx hb dX3_placeAfter_65 rfl (lv_at hl 0 rfl) ?_
      rw [hQ]
      exact mo_iret C A hr hlocks dX3_placeAfter_66 hF
    have hF := mo_ifF c7 hF
    by_cases c8 : v4 = (10 : Int32)
    · have hF := mo_ifT c8 hF
      refine mo_lsI hx hb (10 : Int32) (tgt := 67) (off := 49) dX3_placeAfter_18 c8 (by decide) rfl (by decide) ?_
      refine lv_iload_n hx hb dX3_placeAfter_67 rfl (lv_at hl 1 rfl) ?_
      refine lv_if_ne (tgt := 75) hx hb dX3_placeAfter_68 (by decide) (fun c9 => ?_) (fun c9 => ?_)
      · have hF := mo_ifF c9 hF
        refine lv_aload_n hx hb dX3_placeAfter_75 rfl (lv_at hl 2 rfl) ?_
        refine mo_wI C A (T := TX3) iX3 rfl 4 (by decide) tb_502 rfl dX3_placeAfter_76 hF (fun v10 hF => ?_)
        refine lv_iconst (v := (1 : Int32)) hx hb dX3_placeAfter_79 (by decide) ?_
        refine lv_iadd hx hb dX3_placeAfter_80 ?_
        rw [hQ]
        exact mo_iret C A hr hlocks dX3_placeAfter_81 hF
      · have hF := mo_ifT c9 hF
        refine lv_iload_n hx hb dX3_placeAfter_71 rfl (lv_at hl 0 rfl) ?_
        refine lv_goto (tgt := 81) hx hb dX3_placeAfter_72 (by decide) ?_
        rw [hQ]
        exact mo_iret C A hr hlocks dX3_placeAfter_81 hF
    have hF := mo_ifF c8 hF
    by_cases c11 : v4 = (11 : Int32)
    · have hF := mo_ifT c11 hF
      refine mo_lsI hx hb (11 : Int32) (tgt := 82) (off := 64) dX3_placeAfter_18 c11 (by decide) rfl (by decide) ?_
      refine lv_iload_n hx hb dX3_placeAfter_82 rfl (lv_at hl 1 rfl) ?_
      refine lv_if_eq (tgt := 90) hx hb dX3_placeAfter_83 (by decide) (fun c12 => ?_) (fun c12 => ?_)
      · have hF := mo_ifT c12 hF
        refine lv_aload_n hx hb dX3_placeAfter_90 rfl (lv_at hl 2 rfl) ?_
        refine mo_wI C A (T := TX3) iX3 rfl 4 (by decide) tb_502 rfl dX3_placeAfter_91 hF (fun v13 hF => ?_)
        refine lv_iconst (v := (1 : Int32)) hx hb dX3_placeAfter_94 (by decide) ?_
        refine lv_iadd hx hb dX3_placeAfter_95 ?_
        rw [hQ]
        exact mo_iret C A hr hlocks dX3_placeAfter_96 hF
      · have hF := mo_ifF c12 hF
        refine lv_iload_n hx hb dX3_placeAfter_86 rfl (lv_at hl 0 rfl) ?_
        refine lv_goto (tgt := 96) hx hb dX3_placeAfter_87 (by decide) ?_
        rw [hQ]
        exact mo_iret C A hr hlocks dX3_placeAfter_96 hF
    have hF := mo_ifF c11 hF
    refine lv_lookup (tgt := 97) hx hb dX3_placeAfter_18 (by decide) (mo_offD _ _ _ (List.forall_mem_cons.mpr ⟨c5, (List.forall_mem_cons.mpr ⟨c7, (List.forall_mem_cons.mpr ⟨c8, (List.forall_mem_cons.mpr ⟨c11, (fun _ h => absurd h List.not_mem_nil)⟩)⟩)⟩)⟩)) (by decide) ?_
    refine lv_aload_n hx hb dX3_placeAfter_97 rfl (lv_at hl 2 rfl) ?_
    refine mo_wI C A (T := TX3) iX3 rfl 4 (by decide) tb_502 rfl dX3_placeAfter_98 hF (fun v14 hF => ?_)
    refine lv_iconst (v := (1 : Int32)) hx hb dX3_placeAfter_101 (by decide) ?_
    refine lv_iadd hx hb dX3_placeAfter_102 ?_
    rw [hQ]
    exact mo_iret C A hr hlocks dX3_placeAfter_103 hF
  exact E h0 s.heap [] hF A
set_option maxHeartbeats 4000000 in
set_option maxRecDepth 100000 in
theorem c_X3_fail (l : Launch) (D : va_G) (dA : Nat → ClassId) (b0 : Nat) (x0 : Nat) (x1 : Int32) : mo_Met l yX3_fail [Cond.code yX3_fail cX3_fail 2 none] 2 43 D dA b0 [.ref x0, .int x1] (fun _ : Unit => none) (F_X3_fail x0 x1) := by
  refine mo_MetOf (own := RX3) (by decide) (Nat.le_of_ble_eq_true rfl) [(0, .ref x0), (1, .int x1)] rfl rfl ?_
  intro p e R s m args below meth c Q h0 h2 z ls hQ C hml hr hlocks hnm hfr hlo hF A hl
  have hx := C.1
  have hb := C.2.1
  have hown := C.2.2.1
  have hts := C.2.2.2.1
  have hK := C.2.2.2.2.1
  have iX3 := inlX3
  unfold F_X3_fail at hF
  obtain ⟨-, hF⟩ := mo_ckE hF
  have E : ∀ (h : mo_H) (H : Heap) (locs : List Loc), (mo_b (mo_gI x0 3 6) fun v1 => mo_b (mo_pV x0 3 6 (.int (v1 + (1 : Int32)))) fun _ => (if x1 = (1 : Int32) then mo_b (F_X3_clearMemory x0) fun v5 => mo_ret () else (if x1 = (2 : Int32) then mo_b (mo_gI x0 3 4) fun v4 => mo_b (mo_pV x0 3 4 (.int (v4 + (1 : Int32)))) fun _ => mo_ret () else mo_b (mo_pV x0 3 5 (.int (2 : Int32))) fun _ => mo_ret ()))).1 h = some (z, h2) → mo_A D dA b0 s.heap h0 h H locs → W p l e R s m args below meth c H locs (h.2.1 - h0.2.1) (h.2.2 - h0.2.2) Q (F0 m 0 ls []) := by
    intro h H locs hF A
    refine lv_aload_n hx hb dX3_fail_0 rfl (lv_at hl 0 rfl) ?_
    refine lv_dup hx hb dX3_fail_1 rfl ?_
    refine mo_wI C A (T := TX3) iX3 rfl 6 (by decide) tb_507 rfl dX3_fail_2 hF (fun v1 hF => ?_)
    refine lv_iconst (v := (1 : Int32)) hx hb dX3_fail_5 (by decide) ?_
    refine lv_iadd hx hb dX3_fail_6 ?_
    refine mo_wpV C A (T := TX3) iX3 tyX3 tyX3_ok nmX3 rfl 6 (by decide) tb_507 rfl rfl rfl rfl dX3_fail_7 hF (fun h H locs hF A => ?_)
    refine lv_iload_n hx hb dX3_fail_10 rfl (lv_at hl 1 rfl) ?_
    refine lv_iconst (v := (1 : Int32)) hx hb dX3_fail_11 (by decide) ?_
    refine lv_icmp_ne (tgt := 22) hx hb dX3_fail_12 (by decide) (fun c2 => ?_) (fun c2 => ?_)
    · have hF := mo_ifF c2 hF
      refine lv_iload_n hx hb dX3_fail_22 rfl (lv_at hl 1 rfl) ?_
      refine lv_iconst (v := (2 : Int32)) hx hb dX3_fail_23 (by decide) ?_
      refine lv_icmp_ne (tgt := 40) hx hb dX3_fail_24 (by decide) (fun c3 => ?_) (fun c3 => ?_)
      · have hF := mo_ifF c3 hF
        refine lv_aload_n hx hb dX3_fail_40 rfl (lv_at hl 0 rfl) ?_
        refine lv_iconst (v := (2 : Int32)) hx hb dX3_fail_41 (by decide) ?_
        refine mo_wpV C A (T := TX3) iX3 tyX3 tyX3_ok nmX3 rfl 5 (by decide) tb_385 rfl rfl rfl rfl dX3_fail_42 hF (fun h H locs hF A => ?_)
        rw [hQ]
        exact mo_vret C A hr hlocks dX3_fail_45 hF
      · have hF := mo_ifT c3 hF
        refine lv_aload_n hx hb dX3_fail_27 rfl (lv_at hl 0 rfl) ?_
        refine lv_dup hx hb dX3_fail_28 rfl ?_
        refine mo_wI C A (T := TX3) iX3 rfl 4 (by decide) tb_502 rfl dX3_fail_29 hF (fun v4 hF => ?_)
        refine lv_iconst (v := (1 : Int32)) hx hb dX3_fail_32 (by decide) ?_
        refine lv_iadd hx hb dX3_fail_33 ?_
        refine mo_wpV C A (T := TX3) iX3 tyX3 tyX3_ok nmX3 rfl 4 (by decide) tb_502 rfl rfl rfl rfl dX3_fail_34 hF (fun h H locs hF A => ?_)
        refine lv_goto (tgt := 45) hx hb dX3_fail_37 (by decide) ?_
        rw [hQ]
        exact mo_vret C A hr hlocks dX3_fail_45 hF
    · have hF := mo_ifT c2 hF
      refine lv_aload_n hx hb dX3_fail_15 rfl (lv_at hl 0 rfl) ?_
      refine mo_cV (n := 0) (As := []) (rest := []) C A hml hl.1 (c_X3_clearMemory l D dA b0 x0) (ci := 3) (q := (RX3, TX3, 9)) rfl (fun _ e => (mo_ckE e).1) (tb_v tb_508 tb_509 tb_510 tb_65 tb_511) rfl (by decide +kernel) ⟨Nat.le_trans (by decide) hfr, Nat.le_trans (Nat.le_of_ble_eq_true rfl) hlo⟩ rfl (Nat.le_of_ble_eq_true rfl) rfl dX3_fail_16 hF (fun v5 h H locs hF A => ?_)
      show W _ _ _ _ _ _ _ _ _ _ _ _ _ _ _ (F0 m 19 ls [])
      refine lv_goto (tgt := 45) hx hb dX3_fail_19 (by decide) ?_
      rw [hQ]
      exact mo_vret C A hr hlocks dX3_fail_45 hF
  exact E h0 s.heap [] hF A
set_option maxHeartbeats 4000000 in
set_option maxRecDepth 100000 in
theorem c_X9_isSame (l : Launch) (D : va_G) (dA : Nat → ClassId) (b0 : Nat) (x0 : Nat) (x1 : Nat) : mo_Met l yX9_isSame [Cond.code yX9_isSame cX9_isSame 3 (some .boolean)] 0 0 D dA b0 [.ref x0, .ref x1] (fun r : Int32 => some (.int r)) (F_X9_isSame x0 x1) := by
  refine mo_MetOf (own := RX9) (by decide) (Nat.le_of_ble_eq_true rfl) [(0, .ref x0), (1, .ref x1)] rfl rfl ?_
  intro p e R s m args below meth c Q h0 h2 z ls hQ C hml hr hlocks hnm hfr hlo hF A hl
  have hx := C.1
  have hb := C.2.1
  have hown := C.2.2.1
  have hts := C.2.2.2.1
  have hK := C.2.2.2.2.1
  have iX9 := inlX9
  have J15 : ∀   (fu : Nat) (x0 : Nat) (x1 : Nat) (x2 : Int32) (h : mo_H) (H : Heap) (locs : List Loc) (ls : Array Slot), mo_A D dA b0 s.heap h0 h H locs → lv_has ls 3 [(0, .ref x0), (1, .ref x1), (2, .int x2)] → (F_X9_isSame_15 fu x0 x1 x2).1 h = some (z, h2) → W p l e R s m args below meth c H locs (h.2.1 - h0.2.1) (h.2.2 - h0.2.2) Q (F0 m 15 ls []) := by
    intro  fu
    induction fu with
    | zero =>
      intro x0 x1 x2 h H locs ls A hl hF
      unfold F_X9_isSame_15 at hF
      cases hF
    | succ fu ih =>
      intro x0 x1 x2 h H locs ls A hl hF
      unfold F_X9_isSame_15 at hF
      refine lv_iload_n hx hb dX9_isSame_15 rfl (lv_at hl 2 rfl) ?_
      refine lv_aload_n hx hb dX9_isSame_16 rfl (lv_at hl 0 rfl) ?_
      refine mo_wI C A (T := TX9) iX9 rfl 1 (by decide) tb_235 rfl dX9_isSame_17 hF (fun v1 hF => ?_)
      refine lv_icmp_ge (tgt := 46) hx hb dX9_isSame_20 (by decide) (fun c2 => ?_) (fun c2 => ?_)
      · have hF := mo_ifT c2 hF
        refine lv_iconst (v := (1 : Int32)) hx hb dX9_isSame_46 (by decide) ?_
        rw [hQ]
        exact mo_zret C A hr hlocks dX9_isSame_47 hF
      · have hF := mo_ifF c2 hF
        refine lv_aload_n hx hb dX9_isSame_23 rfl (lv_at hl 0 rfl) ?_
        refine mo_wR C A (T := TX9) iX9 rfl 0 (by decide) tb_56 rfl dX9_isSame_24 hF (fun v3 hF => ?_)
        refine lv_iload_n hx hb dX9_isSame_27 rfl (lv_at hl 2 rfl) ?_
        refine mo_wla C A dX9_isSame_28 hF (fun v4 hF => ?_)
        refine lv_aload_n hx hb dX9_isSame_29 rfl (lv_at hl 1 rfl) ?_
        refine mo_wR C A (T := TX9) iX9 rfl 0 (by decide) tb_56 rfl dX9_isSame_30 hF (fun v5 hF => ?_)
        refine lv_iload_n hx hb dX9_isSame_33 rfl (lv_at hl 2 rfl) ?_
        refine mo_wla C A dX9_isSame_34 hF (fun v6 hF => ?_)
        refine lv_icmp_eq (tgt := 40) hx hb dX9_isSame_35 (by decide) (fun c7 => ?_) (fun c7 => ?_)
        · have hF := mo_ifT c7 hF
          refine lv_iinc (v := (x2 + (1 : Int32))) (lv' := [(2, .int (x2 + (1 : Int32))), (0, .ref x0), (1, .ref x1)]) hx hb dX9_isSame_40 hl (k := 2) rfl rfl (by decide) rfl (fun ls hl => ?_)
          refine lv_goto (tgt := 15) hx hb dX9_isSame_43 (by decide) ?_
          exact ih x0 x1 (x2 + (1 : Int32)) h H locs ls A (lv_sub hl [1, 2, 0] rfl) hF
        · have hF := mo_ifF c7 hF
          refine lv_iconst (v := (0 : Int32)) hx hb dX9_isSame_38 (by decide) ?_
          rw [hQ]
          exact mo_zret C A hr hlocks dX9_isSame_39 hF
  unfold F_X9_isSame at hF
  obtain ⟨-, hF⟩ := mo_ckE hF
  have E : ∀ (h : mo_H) (H : Heap) (locs : List Loc), (mo_b (mo_gI x0 9 1) fun v8 => mo_b (mo_gI x1 9 1) fun v9 => (if v8 = v9 then F_X9_isSame_15 mo_fu x0 x1 (0 : Int32) else mo_rz (0 : Int32))).1 h = some (z, h2) → mo_A D dA b0 s.heap h0 h H locs → W p l e R s m args below meth c H locs (h.2.1 - h0.2.1) (h.2.2 - h0.2.2) Q (F0 m 0 ls []) := by
    intro h H locs hF A
    refine lv_aload_n hx hb dX9_isSame_0 rfl (lv_at hl 0 rfl) ?_
    refine mo_wI C A (T := TX9) iX9 rfl 1 (by decide) tb_235 rfl dX9_isSame_1 hF (fun v8 hF => ?_)
    refine lv_aload_n hx hb dX9_isSame_4 rfl (lv_at hl 1 rfl) ?_
    refine mo_wI C A (T := TX9) iX9 rfl 1 (by decide) tb_235 rfl dX9_isSame_5 hF (fun v9 hF => ?_)
    refine lv_icmp_eq (tgt := 13) hx hb dX9_isSame_8 (by decide) (fun c10 => ?_) (fun c10 => ?_)
    · have hF := mo_ifT c10 hF
      refine lv_iconst (v := (0 : Int32)) hx hb dX9_isSame_13 (by decide) ?_
      refine lv_istore_n (lv' := [(2, .int (0 : Int32)), (0, .ref x0), (1, .ref x1)]) hx hb dX9_isSame_14 rfl hl (by decide) rfl (fun ls hl => ?_)
      exact J15 mo_fu x0 x1 (0 : Int32) h H locs ls A (lv_sub hl [1, 2, 0] rfl) hF
    · have hF := mo_ifF c10 hF
      refine lv_iconst (v := (0 : Int32)) hx hb dX9_isSame_11 (by decide) ?_
      rw [hQ]
      exact mo_zret C A hr hlocks dX9_isSame_12 hF
  exact E h0 s.heap [] hF A
set_option maxHeartbeats 4000000 in
set_option maxRecDepth 100000 in
theorem c_X3_isSame (l : Launch) (D : va_G) (dA : Nat → ClassId) (b0 : Nat) (x0 : Nat) (x1 : Nat) : mo_Met l yX3_isSame [Cond.code yX3_isSame cX3_isSame 3 (some .boolean)] 1 22 D dA b0 [.ref x0, .ref x1] (fun r : Int32 => some (.int r)) (F_X3_isSame x0 x1) := by
  refine mo_MetOf (own := RX3) (by decide) (Nat.le_of_ble_eq_true rfl) [(0, .ref x0), (1, .ref x1)] rfl rfl ?_
  intro p e R s m args below meth c Q h0 h2 z ls hQ C hml hr hlocks hnm hfr hlo hF A hl
  have hx := C.1
  have hb := C.2.1
  have hown := C.2.2.1
  have hts := C.2.2.2.1
  have hK := C.2.2.2.2.1
  have iX3 := inlX3
  have J97 : ∀   (x0 : Nat) (x1 : Nat) (h : mo_H) (H : Heap) (locs : List Loc) (ls : Array Slot), mo_A D dA b0 s.heap h0 h H locs → lv_has ls 3 [(0, .ref x0), (1, .ref x1)] → (F_X3_isSame_97 x0 x1).1 h = some (z, h2) → W p l e R s m args below meth c H locs (h.2.1 - h0.2.1) (h.2.2 - h0.2.2) Q (F0 m 97 ls []) := by
    intro  x0 x1 h H locs ls A hl hF
    unfold F_X3_isSame_97 at hF
    refine lv_aload_n hx hb dX3_isSame_97 rfl (lv_at hl 0 rfl) ?_
    refine mo_wR C A (T := TX3) iX3 rfl 2 (by decide) tb_81 rfl dX3_isSame_98 hF (fun v1 hF => ?_)
    refine lv_aload_n hx hb dX3_isSame_101 rfl (lv_at hl 1 rfl) ?_
    refine mo_wR C A (T := TX3) iX3 rfl 2 (by decide) tb_81 rfl dX3_isSame_102 hF (fun v2 hF => ?_)
    refine mo_cV (n := 1) (As := [.ref v2]) (rest := []) C A hml hl.1 (c_X9_isSame l D dA b0 v1 v2) (ci := 9) (q := (RX9, TX9, 2)) rfl (fun _ e => (mo_ckE e).1) (tb_v tb_755 tb_756 tb_757 tb_46 tb_758) rfl (by decide +kernel) ⟨Nat.le_trans (by decide) hfr, Nat.le_trans (Nat.le_of_ble_eq_true rfl) hlo⟩ rfl (Nat.le_of_ble_eq_true rfl) rfl dX3_isSame_105 hF (fun v3 h H locs hF A => ?_)
    show W _ _ _ _ _ _ _ _ _ _ _ _ _ _ _ (F0 m 108 ls [.int v3])
    refine lv_if_eq (tgt := 129) hx hb dX3_isSame_108 (by decide) (fun c4 => ?_) (fun c4 => ?_)
    · have hF := mo_ifT c4 hF
      refine lv_iconst (v := (0 : Int32)) hx hb dX3_isSame_129 (by decide) ?_
      rw [hQ]
      exact mo_zret C A hr hlocks dX3_isSame_130 hF
    · have hF := mo_ifF c4 hF
      refine lv_aload_n hx hb dX3_isSame_111 rfl (lv_at hl 0 rfl) ?_
      refine mo_wR C A (T := TX3) iX3 rfl 3 (by decide) tb_82 rfl dX3_isSame_112 hF (fun v5 hF => ?_)
      refine lv_aload_n hx hb dX3_isSame_115 rfl (lv_at hl 1 rfl) ?_
      refine mo_wR C A (T := TX3) iX3 rfl 3 (by decide) tb_82 rfl dX3_isSame_116 hF (fun v6 hF => ?_)
      refine mo_cV (n := 1) (As := [.ref v6]) (rest := []) C A hml hl.1 (c_X9_isSame l D dA b0 v5 v6) (ci := 9) (q := (RX9, TX9, 2)) rfl (fun _ e => (mo_ckE e).1) (tb_v tb_755 tb_756 tb_757 tb_46 tb_758) rfl (by decide +kernel) ⟨Nat.le_trans (by decide) hfr, Nat.le_trans (Nat.le_of_ble_eq_true rfl) hlo⟩ rfl (Nat.le_of_ble_eq_true rfl) rfl dX3_isSame_119 hF (fun v7 h H locs hF A => ?_)
      show W _ _ _ _ _ _ _ _ _ _ _ _ _ _ _ (F0 m 122 ls [.int v7])
      refine lv_if_eq (tgt := 129) hx hb dX3_isSame_122 (by decide) (fun c8 => ?_) (fun c8 => ?_)
      · have hF := mo_ifT c8 hF
        refine lv_iconst (v := (0 : Int32)) hx hb dX3_isSame_129 (by decide) ?_
        rw [hQ]
        exact mo_zret C A hr hlocks dX3_isSame_130 hF
      · have hF := mo_ifF c8 hF
        refine lv_iconst (v := (1 : Int32)) hx hb dX3_isSame_125 (by decide) ?_
        refine lv_goto (tgt := 130) hx hb dX3_isSame_126 (by decide) ?_
        rw [hQ]
        exact mo_zret C A hr hlocks dX3_isSame_130 hF
  have J68 : ∀   (fu : Nat) (x0 : Nat) (x1 : Nat) (x2 : Int32) (h : mo_H) (H : Heap) (locs : List Loc) (ls : Array Slot), mo_A D dA b0 s.heap h0 h H locs → lv_has ls 3 [(0, .ref x0), (1, .ref x1), (2, .int x2)] → (F_X3_isSame_68 fu x0 x1 x2).1 h = some (z, h2) → W p l e R s m args below meth c H locs (h.2.1 - h0.2.1) (h.2.2 - h0.2.2) Q (F0 m 68 ls []) := by
    intro  fu
    induction fu with
    | zero =>
      intro x0 x1 x2 h H locs ls A hl hF
      unfold F_X3_isSame_68 at hF
      cases hF
    | succ fu ih =>
      intro x0 x1 x2 h H locs ls A hl hF
      unfold F_X3_isSame_68 at hF
      refine lv_iload_n hx hb dX3_isSame_68 rfl (lv_at hl 2 rfl) ?_
      refine lv_bipush (v := (32 : Int32)) hx hb dX3_isSame_69 (by decide) ?_
      refine lv_icmp_ge (tgt := 97) hx hb dX3_isSame_71 (by decide) (fun c9 => ?_) (fun c9 => ?_)
      · have hF := mo_ifT c9 hF
        exact J97 x0 x1 h H locs ls A (lv_sub hl [0, 1] rfl) hF
      · have hF := mo_ifF c9 hF
        refine lv_aload_n hx hb dX3_isSame_74 rfl (lv_at hl 0 rfl) ?_
        refine mo_wR C A (T := TX3) iX3 rfl 1 (by decide) tb_79 rfl dX3_isSame_75 hF (fun v10 hF => ?_)
        refine lv_iload_n hx hb dX3_isSame_78 rfl (lv_at hl 2 rfl) ?_
        refine mo_wla C A dX3_isSame_79 hF (fun v11 hF => ?_)
        refine lv_aload_n hx hb dX3_isSame_80 rfl (lv_at hl 1 rfl) ?_
        refine mo_wR C A (T := TX3) iX3 rfl 1 (by decide) tb_79 rfl dX3_isSame_81 hF (fun v12 hF => ?_)
        refine lv_iload_n hx hb dX3_isSame_84 rfl (lv_at hl 2 rfl) ?_
        refine mo_wla C A dX3_isSame_85 hF (fun v13 hF => ?_)
        refine lv_icmp_eq (tgt := 91) hx hb dX3_isSame_86 (by decide) (fun c14 => ?_) (fun c14 => ?_)
        · have hF := mo_ifT c14 hF
          refine lv_iinc (v := (x2 + (1 : Int32))) (lv' := [(2, .int (x2 + (1 : Int32))), (0, .ref x0), (1, .ref x1)]) hx hb dX3_isSame_91 hl (k := 2) rfl rfl (by decide) rfl (fun ls hl => ?_)
          refine lv_goto (tgt := 68) hx hb dX3_isSame_94 (by decide) ?_
          exact ih x0 x1 (x2 + (1 : Int32)) h H locs ls A (lv_sub hl [1, 2, 0] rfl) hF
        · have hF := mo_ifF c14 hF
          refine lv_iconst (v := (0 : Int32)) hx hb dX3_isSame_89 (by decide) ?_
          rw [hQ]
          exact mo_zret C A hr hlocks dX3_isSame_90 hF
  have J66 : ∀   (x0 : Nat) (x1 : Nat) (h : mo_H) (H : Heap) (locs : List Loc) (ls : Array Slot), mo_A D dA b0 s.heap h0 h H locs → lv_has ls 3 [(0, .ref x0), (1, .ref x1)] → (F_X3_isSame_66 x0 x1).1 h = some (z, h2) → W p l e R s m args below meth c H locs (h.2.1 - h0.2.1) (h.2.2 - h0.2.2) Q (F0 m 66 ls []) := by
    intro  x0 x1 h H locs ls A hl hF
    unfold F_X3_isSame_66 at hF
    refine lv_iconst (v := (0 : Int32)) hx hb dX3_isSame_66 (by decide) ?_
    refine lv_istore_n (lv' := [(2, .int (0 : Int32)), (0, .ref x0), (1, .ref x1)]) hx hb dX3_isSame_67 rfl hl (by decide) rfl (fun ls hl => ?_)
    exact J68 mo_fu x0 x1 (0 : Int32) h H locs ls A (lv_sub hl [1, 2, 0] rfl) hF
  have J37 : ∀   (fu : Nat) (x0 : Nat) (x1 : Nat) (x2 : Int32) (h : mo_H) (H : Heap) (locs : List Loc) (ls : Array Slot), mo_A D dA b0 s.heap h0 h H locs → lv_has ls 3 [(0, .ref x0), (1, .ref x1), (2, .int x2)] → (F_X3_isSame_37 fu x0 x1 x2).1 h = some (z, h2) → W p l e R s m args below meth c H locs (h.2.1 - h0.2.1) (h.2.2 - h0.2.2) Q (F0 m 37 ls []) := by
    intro  fu
    induction fu with
    | zero =>
      intro x0 x1 x2 h H locs ls A hl hF
      unfold F_X3_isSame_37 at hF
      cases hF
    | succ fu ih =>
      intro x0 x1 x2 h H locs ls A hl hF
      unfold F_X3_isSame_37 at hF
      refine lv_iload_n hx hb dX3_isSame_37 rfl (lv_at hl 2 rfl) ?_
      refine lv_bipush (v := (8 : Int32)) hx hb dX3_isSame_38 (by decide) ?_
      refine lv_icmp_ge (tgt := 66) hx hb dX3_isSame_40 (by decide) (fun c15 => ?_) (fun c15 => ?_)
      · have hF := mo_ifT c15 hF
        exact J66 x0 x1 h H locs ls A (lv_sub hl [0, 1] rfl) hF
      · have hF := mo_ifF c15 hF
        refine lv_aload_n hx hb dX3_isSame_43 rfl (lv_at hl 0 rfl) ?_
        refine mo_wR C A (T := TX3) iX3 rfl 0 (by decide) tb_78 rfl dX3_isSame_44 hF (fun v16 hF => ?_)
        refine lv_iload_n hx hb dX3_isSame_47 rfl (lv_at hl 2 rfl) ?_
        refine mo_wla C A dX3_isSame_48 hF (fun v17 hF => ?_)
        refine lv_aload_n hx hb dX3_isSame_49 rfl (lv_at hl 1 rfl) ?_
        refine mo_wR C A (T := TX3) iX3 rfl 0 (by decide) tb_78 rfl dX3_isSame_50 hF (fun v18 hF => ?_)
        refine lv_iload_n hx hb dX3_isSame_53 rfl (lv_at hl 2 rfl) ?_
        refine mo_wla C A dX3_isSame_54 hF (fun v19 hF => ?_)
        refine lv_icmp_eq (tgt := 60) hx hb dX3_isSame_55 (by decide) (fun c20 => ?_) (fun c20 => ?_)
        · have hF := mo_ifT c20 hF
          refine lv_iinc (v := (x2 + (1 : Int32))) (lv' := [(2, .int (x2 + (1 : Int32))), (0, .ref x0), (1, .ref x1)]) hx hb dX3_isSame_60 hl (k := 2) rfl rfl (by decide) rfl (fun ls hl => ?_)
          refine lv_goto (tgt := 37) hx hb dX3_isSame_63 (by decide) ?_
          exact ih x0 x1 (x2 + (1 : Int32)) h H locs ls A (lv_sub hl [1, 2, 0] rfl) hF
        · have hF := mo_ifF c20 hF
          refine lv_iconst (v := (0 : Int32)) hx hb dX3_isSame_58 (by decide) ?_
          rw [hQ]
          exact mo_zret C A hr hlocks dX3_isSame_59 hF
  unfold F_X3_isSame at hF
  obtain ⟨-, hF⟩ := mo_ckE hF
  have E : ∀ (h : mo_H) (H : Heap) (locs : List Loc), (mo_b (mo_gI x0 3 4) fun v21 => mo_b (mo_gI x1 3 4) fun v22 => (if v21 = v22 then mo_b (mo_gI x0 3 5) fun v24 => mo_b (mo_gI x1 3 5) fun v25 => (if v24 = v25 then mo_b (mo_gI x0 3 6) fun v27 => mo_b (mo_gI x1 3 6) fun v28 => (if v27 = v28 then F_X3_isSame_37 mo_fu x0 x1 (0 : Int32) else mo_rz (0 : Int32)) else mo_rz (0 : Int32)) else mo_rz (0 : Int32))).1 h = some (z, h2) → mo_A D dA b0 s.heap h0 h H locs → W p l e R s m args below meth c H locs (h.2.1 - h0.2.1) (h.2.2 - h0.2.2) Q (F0 m 0 ls []) := by
    intro h H locs hF A
    refine lv_aload_n hx hb dX3_isSame_0 rfl (lv_at hl 0 rfl) ?_
    refine mo_wI C A (T := TX3) iX3 rfl 4 (by decide) tb_502 rfl dX3_isSame_1 hF (fun v21 hF => ?_)
    refine lv_aload_n hx hb dX3_isSame_4 rfl (lv_at hl 1 rfl) ?_
    refine mo_wI C A (T := TX3) iX3 rfl 4 (by decide) tb_502 rfl dX3_isSame_5 hF (fun v22 hF => ?_)
    refine lv_icmp_ne (tgt := 33) hx hb dX3_isSame_8 (by decide) (fun c23 => ?_) (fun c23 => ?_)
    · have hF := mo_ifF c23 hF
      refine lv_iconst (v := (0 : Int32)) hx hb dX3_isSame_33 (by decide) ?_
      rw [hQ]
      exact mo_zret C A hr hlocks dX3_isSame_34 hF
    · have hF := mo_ifT c23 hF
      refine lv_aload_n hx hb dX3_isSame_11 rfl (lv_at hl 0 rfl) ?_
      refine mo_wI C A (T := TX3) iX3 rfl 5 (by decide) tb_385 rfl dX3_isSame_12 hF (fun v24 hF => ?_)
      refine lv_aload_n hx hb dX3_isSame_15 rfl (lv_at hl 1 rfl) ?_
      refine mo_wI C A (T := TX3) iX3 rfl 5 (by decide) tb_385 rfl dX3_isSame_16 hF (fun v25 hF => ?_)
      refine lv_icmp_ne (tgt := 33) hx hb dX3_isSame_19 (by decide) (fun c26 => ?_) (fun c26 => ?_)
      · have hF := mo_ifF c26 hF
        refine lv_iconst (v := (0 : Int32)) hx hb dX3_isSame_33 (by decide) ?_
        rw [hQ]
        exact mo_zret C A hr hlocks dX3_isSame_34 hF
      · have hF := mo_ifT c26 hF
        refine lv_aload_n hx hb dX3_isSame_22 rfl (lv_at hl 0 rfl) ?_
        refine mo_wI C A (T := TX3) iX3 rfl 6 (by decide) tb_507 rfl dX3_isSame_23 hF (fun v27 hF => ?_)
        refine lv_aload_n hx hb dX3_isSame_26 rfl (lv_at hl 1 rfl) ?_
        refine mo_wI C A (T := TX3) iX3 rfl 6 (by decide) tb_507 rfl dX3_isSame_27 hF (fun v28 hF => ?_)
        refine lv_icmp_eq (tgt := 35) hx hb dX3_isSame_30 (by decide) (fun c29 => ?_) (fun c29 => ?_)
        · have hF := mo_ifT c29 hF
          refine lv_iconst (v := (0 : Int32)) hx hb dX3_isSame_35 (by decide) ?_
          refine lv_istore_n (lv' := [(2, .int (0 : Int32)), (0, .ref x0), (1, .ref x1)]) hx hb dX3_isSame_36 rfl hl (by decide) rfl (fun ls hl => ?_)
          exact J37 mo_fu x0 x1 (0 : Int32) h H locs ls A (lv_sub hl [1, 2, 0] rfl) hF
        · have hF := mo_ifF c29 hF
          refine lv_iconst (v := (0 : Int32)) hx hb dX3_isSame_33 (by decide) ?_
          rw [hQ]
          exact mo_zret C A hr hlocks dX3_isSame_34 hF
  exact E h0 s.heap [] hF A
set_option maxHeartbeats 4000000 in
set_option maxRecDepth 100000 in
theorem c_X4_init (l : Launch) (D : va_G) (dA : Nat → ClassId) (b0 : Nat) (x0 : Nat) (x1 : Int32) (x2 : Int32) (x3 : Int32) (x4 : Int32) : mo_Met l yX4_init [Cond.code yX4_init cX4_init 5 none] 1 12 D dA b0 [.ref x0, .int x1, .int x2, .int x3, .int x4] (fun _ : Unit => none) (F_X4_init x0 x1 x2 x3 x4) := by
  refine mo_MetOf (own := RX4) (by decide) (Nat.le_of_ble_eq_true rfl) [(0, .ref x0), (1, .int x1), (2, .int x2), (3, .int x3), (4, .int x4)] rfl rfl ?_
  intro p e R s m args below meth c Q h0 h2 z ls hQ C hml hr hlocks hnm hfr hlo hF A hl
  have hx := C.1
  have hb := C.2.1
  have hown := C.2.2.1
  have hts := C.2.2.2.1
  have hK := C.2.2.2.2.1
  have iX4 := inlX4
  unfold F_X4_init at hF
  have E : ∀ (h : mo_H) (H : Heap) (locs : List Loc), (mo_b (mo_pV x0 4 0 (.int x1)) fun _ => mo_b (mo_pV x0 4 1 (.int x2)) fun _ => mo_b (mo_pZ x0 4 2 x3) fun _ => mo_b (mo_pV x0 4 3 (.int x4)) fun _ => mo_ret ()).1 h = some (z, h2) → mo_A D dA b0 s.heap h0 h H locs → W p l e R s m args below meth c H locs (h.2.1 - h0.2.1) (h.2.2 - h0.2.2) Q (F0 m 0 ls []) := by
    intro h H locs hF A
    refine lv_aload_n hx hb dX4_init_0 rfl (lv_at hl 0 rfl) ?_
    refine W.objInit hx hb hown (hts _ tb_217) (hts _ tb_14) (hts _ tb_15) rfl (by rw [hml]; exact hl.1) rfl dX4_init_1 (Nat.le_trans (by decide) hfr) (Nat.le_trans (Nat.le_of_ble_eq_true rfl) hlo) ?_
    refine W.eq (g2 := F0 m 4 ls []) rfl ?_
    refine lv_aload_n hx hb dX4_init_4 rfl (lv_at hl 0 rfl) ?_
    refine lv_iload_n hx hb dX4_init_5 rfl (lv_at hl 1 rfl) ?_
    refine mo_wpF C A (T := TX4) iX4 tyX4 tyX4_ok nmX4 rfl 0 (by decide) tb_218 rfl rfl hnm rfl rfl rfl dX4_init_6 hF (fun h H locs hF A => ?_)
    refine lv_aload_n hx hb dX4_init_9 rfl (lv_at hl 0 rfl) ?_
    refine lv_iload_n hx hb dX4_init_10 rfl (lv_at hl 2 rfl) ?_
    refine mo_wpF C A (T := TX4) iX4 tyX4 tyX4_ok nmX4 rfl 1 (by decide) tb_219 rfl rfl hnm rfl rfl rfl dX4_init_11 hF (fun h H locs hF A => ?_)
    refine lv_aload_n hx hb dX4_init_14 rfl (lv_at hl 0 rfl) ?_
    refine lv_iload_n hx hb dX4_init_15 rfl (lv_at hl 3 rfl) ?_
    obtain ⟨z1, hF⟩ := mo_pZE hF
    refine mo_wpF C A (T := TX4) iX4 tyX4 tyX4_ok nmX4 rfl 2 (by decide) tb_220 rfl rfl hnm rfl (by rcases z1 with h | h <;> rw [h] <;> rfl) (by rcases z1 with h | h <;> rw [h] <;> rfl) dX4_init_16 hF (fun h H locs hF A => ?_)
    refine lv_aload_n hx hb dX4_init_19 rfl (lv_at hl 0 rfl) ?_
    refine lv_iload hx hb dX4_init_20 (lv_at hl 4 rfl) ?_
    refine mo_wpF C A (T := TX4) iX4 tyX4 tyX4_ok nmX4 rfl 3 (by decide) tb_221 rfl rfl hnm rfl rfl rfl dX4_init_22 hF (fun h H locs hF A => ?_)
    rw [hQ]
    exact mo_vret C A hr hlocks dX4_init_25 hF
  exact E h0 s.heap [] hF A
set_option maxHeartbeats 4000000 in
set_option maxRecDepth 100000 in
theorem c_X5_init (l : Launch) (D : va_G) (dA : Nat → ClassId) (b0 : Nat) (x0 : Nat) (x1 : Nat) : mo_Met l yX5_init [Cond.code yX5_init cX5_init 3 none] 3 58 D dA b0 [.ref x0, .ref x1] (fun _ : Unit => none) (F_X5_init x0 x1) := by
  refine mo_MetOf (own := RX5) (by decide) (Nat.le_of_ble_eq_true rfl) [(0, .ref x0), (1, .ref x1)] rfl rfl ?_
  intro p e R s m args below meth c Q h0 h2 z ls hQ C hml hr hlocks hnm hfr hlo hF A hl
  have hx := C.1
  have hb := C.2.1
  have hown := C.2.2.1
  have hts := C.2.2.2.1
  have hK := C.2.2.2.2.1
  have iX1 := inlX1
  have iX2 := inlX2
  have iX3 := inlX3
  have iX5 := inlX5
  have iX7 := inlX7
  have J93 : ∀   (x0 : Nat) (x1 : Nat) (h : mo_H) (H : Heap) (locs : List Loc) (ls : Array Slot), mo_A D dA b0 s.heap h0 h H locs → lv_has ls 3 [(0, .ref x0), (1, .ref x1)] → (F_X5_init_93 x0 x1).1 h = some (z, h2) → W p l e R s m args below meth c H locs (h.2.1 - h0.2.1) (h.2.2 - h0.2.2) Q (F0 m 93 ls []) := by
    intro  x0 x1 h H locs ls A hl hF
    unfold F_X5_init_93 at hF
    refine lv_aload_n hx hb dX5_init_93 rfl (lv_at hl 0 rfl) ?_
    refine mo_wnc C A (T := TX2) iX2 tyX2 tyX2_ok rfl tb_70 tb_71 tb_72 dfX2_ok rfl dX5_init_94 hF (fun v1 h H hF A => ?_)
    refine lv_dup hx hb dX5_init_97 rfl ?_
    refine lv_aload_n hx hb dX5_init_98 rfl (lv_at hl 1 rfl) ?_
    refine mo_cI (n := 1) (As := [.ref x1]) (rest := [.ref v1, .ref x0]) C A hml hl.1 (c_X2_init l D dA b0 v1 x1) (tb_o tb_103) rfl tb_72 tb_101 tb_102 rfl (by decide +kernel) ⟨Nat.le_trans (by decide) hfr, Nat.le_trans (Nat.le_of_ble_eq_true rfl) hlo⟩ rfl (Nat.le_of_ble_eq_true rfl) rfl dX5_init_99 hF (fun v2 h H locs hF A => ?_)
    show W _ _ _ _ _ _ _ _ _ _ _ _ _ _ _ (F0 m 102 ls [.ref v1, .ref x0])
    refine mo_wpF C A (T := TX5) iX5 tyX5 tyX5_ok nmX5 rfl 3 (by decide) tb_73 rfl rfl hnm rfl rfl rfl dX5_init_102 hF (fun h H locs hF A => ?_)
    rw [hQ]
    exact mo_vret C A hr hlocks dX5_init_105 hF
  have J60 : ∀   (fu : Nat) (x0 : Nat) (x1 : Nat) (x2 : Int32) (h : mo_H) (H : Heap) (locs : List Loc) (ls : Array Slot), mo_A D dA b0 s.heap h0 h H locs → lv_has ls 3 [(0, .ref x0), (1, .ref x1), (2, .int x2)] → (F_X5_init_60 fu x0 x1 x2).1 h = some (z, h2) → W p l e R s m args below meth c H locs (h.2.1 - h0.2.1) (h.2.2 - h0.2.2) Q (F0 m 60 ls []) := by
    intro  fu
    induction fu with
    | zero =>
      intro x0 x1 x2 h H locs ls A hl hF
      unfold F_X5_init_60 at hF
      cases hF
    | succ fu ih =>
      intro x0 x1 x2 h H locs ls A hl hF
      unfold F_X5_init_60 at hF
      refine lv_iload_n hx hb dX5_init_60 rfl (lv_at hl 2 rfl) ?_
      refine lv_aload_n hx hb dX5_init_61 rfl (lv_at hl 1 rfl) ?_
      refine mo_wIN C A (T := TX7) iX7 rfl 3 (by decide) (List.mem_of_getElem? (i := 10) rfl) rfl dX5_init_62 hF (fun v3 hF => ?_)
      refine lv_icmp_ge (tgt := 93) hx hb dX5_init_65 (by decide) (fun c4 => ?_) (fun c4 => ?_)
      · have hF := mo_ifT c4 hF
        exact J93 x0 x1 h H locs ls A (lv_sub hl [0, 1] rfl) hF
      · have hF := mo_ifF c4 hF
        refine lv_aload_n hx hb dX5_init_68 rfl (lv_at hl 0 rfl) ?_
        refine mo_wR C A (T := TX5) iX5 rfl 2 (by decide) tb_67 rfl dX5_init_69 hF (fun v5 hF => ?_)
        refine lv_iload_n hx hb dX5_init_72 rfl (lv_at hl 2 rfl) ?_
        refine mo_wnc C A (T := TX1) iX1 tyX1 tyX1_ok rfl tb_66 tb_68 tb_69 dfX1_ok rfl dX5_init_73 hF (fun v6 h H hF A => ?_)
        refine lv_dup hx hb dX5_init_76 rfl ?_
        refine lv_aload_n hx hb dX5_init_77 rfl (lv_at hl 1 rfl) ?_
        refine mo_wRN C A (T := TX7) iX7 rfl 2 (by decide) (List.mem_of_getElem? (i := 8) rfl) rfl dX5_init_78 hF (fun v7 hF => ?_)
        refine lv_iload_n hx hb dX5_init_81 rfl (lv_at hl 2 rfl) ?_
        refine mo_wlq C A (t := 3) (fun _ => rfl) dX5_init_82 hF (fun v8 hF => ?_)
        refine mo_cI (n := 1) (As := [.ref v8]) (rest := [.ref v6, .int x2, .ref v5]) C A hml hl.1 (c_X1_init l D dA b0 v6 v8) (tb_o tb_86) rfl tb_69 tb_84 tb_85 rfl (by decide +kernel) ⟨Nat.le_trans (by decide) hfr, Nat.le_trans (Nat.le_of_ble_eq_true rfl) hlo⟩ rfl (Nat.le_of_ble_eq_true rfl) rfl dX5_init_83 hF (fun v9 h H locs hF A => ?_)
        show W _ _ _ _ _ _ _ _ _ _ _ _ _ _ _ (F0 m 86 ls [.ref v6, .int x2, .ref v5])
        refine mo_wsq C A (t := 5) (ci := 1) (r := (RX1, TX1, 8)) (fun _ => rfl) rfl dX5_init_86 hF (fun h H locs hF A => ?_)
        refine lv_iinc (v := (x2 + (1 : Int32))) (lv' := [(2, .int (x2 + (1 : Int32))), (0, .ref x0), (1, .ref x1)]) hx hb dX5_init_87 hl (k := 2) rfl rfl (by decide) rfl (fun ls hl => ?_)
        refine lv_goto (tgt := 60) hx hb dX5_init_90 (by decide) ?_
        exact ih x0 x1 (x2 + (1 : Int32)) h H locs ls A (lv_sub hl [1, 2, 0] rfl) hF
  have J49 : ∀   (x0 : Nat) (x1 : Nat) (h : mo_H) (H : Heap) (locs : List Loc) (ls : Array Slot), mo_A D dA b0 s.heap h0 h H locs → lv_has ls 3 [(0, .ref x0), (1, .ref x1)] → (F_X5_init_49 x0 x1).1 h = some (z, h2) → W p l e R s m args below meth c H locs (h.2.1 - h0.2.1) (h.2.2 - h0.2.2) Q (F0 m 49 ls []) := by
    intro  x0 x1 h H locs ls A hl hF
    unfold F_X5_init_49 at hF
    refine lv_aload_n hx hb dX5_init_49 rfl (lv_at hl 0 rfl) ?_
    refine lv_bipush (v := (12 : Int32)) hx hb dX5_init_50 (by decide) ?_
    refine mo_wnq C A (t := 5) (fun _ => rfl) hK.2.2.2.2.2.1 tb_66 dX5_init_52 hF (fun v10 h H hF A => ?_)
    refine mo_wpF C A (T := TX5) iX5 tyX5 tyX5_ok nmX5 rfl 2 (by decide) tb_67 rfl rfl hnm rfl rfl rfl dX5_init_55 hF (fun h H locs hF A => ?_)
    refine lv_iconst (v := (0 : Int32)) hx hb dX5_init_58 (by decide) ?_
    refine lv_istore_n (lv' := [(2, .int (0 : Int32)), (0, .ref x0), (1, .ref x1)]) hx hb dX5_init_59 rfl hl (by decide) rfl (fun ls hl => ?_)
    exact J60 mo_fu x0 x1 (0 : Int32) h H locs ls A (lv_sub hl [1, 2, 0] rfl) hF
  have J22 : ∀   (fu : Nat) (x0 : Nat) (x1 : Nat) (x2 : Int32) (h : mo_H) (H : Heap) (locs : List Loc) (ls : Array Slot), mo_A D dA b0 s.heap h0 h H locs → lv_has ls 3 [(0, .ref x0), (1, .ref x1), (2, .int x2)] → (F_X5_init_22 fu x0 x1 x2).1 h = some (z, h2) → W p l e R s m args below meth c H locs (h.2.1 - h0.2.1) (h.2.2 - h0.2.2) Q (F0 m 22 ls []) := by
    intro  fu
    induction fu with
    | zero =>
      intro x0 x1 x2 h H locs ls A hl hF
      unfold F_X5_init_22 at hF
      cases hF
    | succ fu ih =>
      intro x0 x1 x2 h H locs ls A hl hF
      unfold F_X5_init_22 at hF
      refine lv_iload_n hx hb dX5_init_22 rfl (lv_at hl 2 rfl) ?_
      refine lv_aload_n hx hb dX5_init_23 rfl (lv_at hl 1 rfl) ?_
      refine mo_wIN C A (T := TX7) iX7 rfl 0 (by decide) (List.mem_of_getElem? (i := 5) rfl) rfl dX5_init_24 hF (fun v11 hF => ?_)
      refine lv_icmp_ge (tgt := 49) hx hb dX5_init_27 (by decide) (fun c12 => ?_) (fun c12 => ?_)
      · have hF := mo_ifT c12 hF
        exact J49 x0 x1 h H locs ls A (lv_sub hl [0, 1] rfl) hF
      · have hF := mo_ifF c12 hF
        refine lv_aload_n hx hb dX5_init_30 rfl (lv_at hl 0 rfl) ?_
        refine mo_wR C A (T := TX5) iX5 rfl 1 (by decide) tb_63 rfl dX5_init_31 hF (fun v13 hF => ?_)
        refine lv_iload_n hx hb dX5_init_34 rfl (lv_at hl 2 rfl) ?_
        refine mo_wnc C A (T := TX3) iX3 tyX3 tyX3_ok rfl tb_62 tb_64 tb_65 dfX3_ok rfl dX5_init_35 hF (fun v14 h H hF A => ?_)
        refine lv_dup hx hb dX5_init_38 rfl ?_
        refine mo_cI (n := 0) (As := []) (rest := [.ref v14, .int x2, .ref v13]) C A hml hl.1 (c_X3_init l D dA b0 v14) (tb_o tb_76) rfl tb_65 tb_74 tb_75 rfl (by decide +kernel) ⟨Nat.le_trans (by decide) hfr, Nat.le_trans (Nat.le_of_ble_eq_true rfl) hlo⟩ rfl (Nat.le_of_ble_eq_true rfl) rfl dX5_init_39 hF (fun v15 h H locs hF A => ?_)
        show W _ _ _ _ _ _ _ _ _ _ _ _ _ _ _ (F0 m 42 ls [.ref v14, .int x2, .ref v13])
        refine mo_wsq C A (t := 4) (ci := 3) (r := (RX3, TX3, 9)) (fun _ => rfl) rfl dX5_init_42 hF (fun h H locs hF A => ?_)
        refine lv_iinc (v := (x2 + (1 : Int32))) (lv' := [(2, .int (x2 + (1 : Int32))), (0, .ref x0), (1, .ref x1)]) hx hb dX5_init_43 hl (k := 2) rfl rfl (by decide) rfl (fun ls hl => ?_)
        refine lv_goto (tgt := 22) hx hb dX5_init_46 (by decide) ?_
        exact ih x0 x1 (x2 + (1 : Int32)) h H locs ls A (lv_sub hl [1, 2, 0] rfl) hF
  unfold F_X5_init at hF
  have E : ∀ (h : mo_H) (H : Heap) (locs : List Loc), (mo_b (mo_pV x0 5 0 (.ref x1)) fun _ => mo_b (mo_gI x1 7 0) fun v16 => mo_b (mo_nq 4 v16) fun v17 => mo_b (mo_pV x0 5 1 (.ref v17)) fun _ => F_X5_init_22 mo_fu x0 x1 (0 : Int32)).1 h = some (z, h2) → mo_A D dA b0 s.heap h0 h H locs → W p l e R s m args below meth c H locs (h.2.1 - h0.2.1) (h.2.2 - h0.2.2) Q (F0 m 0 ls []) := by
    intro h H locs hF A
    refine lv_aload_n hx hb dX5_init_0 rfl (lv_at hl 0 rfl) ?_
    refine W.objInit hx hb hown (hts _ tb_60) (hts _ tb_14) (hts _ tb_15) rfl (by rw [hml]; exact hl.1) rfl dX5_init_1 (Nat.le_trans (by decide) hfr) (Nat.le_trans (Nat.le_of_ble_eq_true rfl) hlo) ?_
    refine W.eq (g2 := F0 m 4 ls []) rfl ?_
    refine lv_aload_n hx hb dX5_init_4 rfl (lv_at hl 0 rfl) ?_
    refine lv_aload_n hx hb dX5_init_5 rfl (lv_at hl 1 rfl) ?_
    refine mo_wpF C A (T := TX5) iX5 tyX5 tyX5_ok nmX5 rfl 0 (by decide) tb_61 rfl rfl hnm rfl rfl rfl dX5_init_6 hF (fun h H locs hF A => ?_)
    refine lv_aload_n hx hb dX5_init_9 rfl (lv_at hl 0 rfl) ?_
    refine lv_aload_n hx hb dX5_init_10 rfl (lv_at hl 1 rfl) ?_
    refine mo_wIN C A (T := TX7) iX7 rfl 0 (by decide) (List.mem_of_getElem? (i := 5) rfl) rfl dX5_init_11 hF (fun v16 hF => ?_)
    refine mo_wnq C A (t := 4) (fun _ => rfl) hK.2.2.2.2.1 tb_62 dX5_init_14 hF (fun v17 h H hF A => ?_)
    refine mo_wpF C A (T := TX5) iX5 tyX5 tyX5_ok nmX5 rfl 1 (by decide) tb_63 rfl rfl hnm rfl rfl rfl dX5_init_17 hF (fun h H locs hF A => ?_)
    refine lv_iconst (v := (0 : Int32)) hx hb dX5_init_20 (by decide) ?_
    refine lv_istore_n (lv' := [(2, .int (0 : Int32)), (0, .ref x0), (1, .ref x1)]) hx hb dX5_init_21 rfl hl (by decide) rfl (fun ls hl => ?_)
    exact J22 mo_fu x0 x1 (0 : Int32) h H locs ls A (lv_sub hl [1, 2, 0] rfl) hF
  exact E h0 s.heap [] hF A
