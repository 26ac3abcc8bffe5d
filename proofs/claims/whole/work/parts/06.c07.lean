set_option maxHeartbeats 4000000 in
set_option maxRecDepth 100000 in
theorem c_X10_register (l : Launch) (D : va_G) (dA : Nat → ClassId) (b0 : Nat) (x0 : Nat) (x1 : Int32) (x2 : Int32) : mo_Met l yX10_register [Cond.code yX10_register cX10_register 3 (some .int)] 1 21 D dA b0 [.ref x0, .int x1, .int x2] (fun r : Int32 => some (.int r)) (F_X10_register x0 x1 x2) := by
  refine mo_MetOf (own := RX10) (by decide) (Nat.le_of_ble_eq_true rfl) [(0, .ref x0), (1, .int x1), (2, .int x2)] rfl rfl ?_
  intro p e R s m args below meth c Q h0 h2 z ls hQ C hml hr hlocks hnm hfr hlo hF A hl
  have hx := C.1
  have hb := C.2.1
  have hown := C.2.2.1
  have hts := C.2.2.2.1
  have hK := C.2.2.2.2.1
  have iX5 := inlX5
  have iX10 := inlX10
  unfold F_X10_register at hF
  obtain ⟨-, hF⟩ := mo_ckE hF
  have E : ∀ (h : mo_H) (H : Heap) (locs : List Loc), (mo_b (mo_gR x0 10 0) fun v1 => mo_b (F_X7_hasDomain v1 x1) fun v2 => (if v2 = 0 then mo_ret (0 : Int32) else mo_b (mo_gR x0 10 1) fun v4 => mo_b (mo_gR v4 5 1) fun v5 => mo_b (mo_lq 4 v5 x1) fun v6 => mo_b (F_X3_registerOrZero v6 x2) fun v7 => mo_ret v7)).1 h = some (z, h2) → mo_A D dA b0 s.heap h0 h H locs → W p l e R s m args below meth c H locs (h.2.1 - h0.2.1) (h.2.2 - h0.2.2) Q (F0 m 0 ls []) := by
    intro h H locs hF A
    refine lv_aload_n hx hb dX10_register_0 rfl (lv_at hl 0 rfl) ?_
    refine mo_wR C A (T := TX10) iX10 rfl 0 (by decide) tb_26 rfl dX10_register_1 hF (fun v1 hF => ?_)
    refine lv_iload_n hx hb dX10_register_4 rfl (lv_at hl 1 rfl) ?_
    refine mo_cV (n := 1) (As := [.int x1]) (rest := []) C A hml hl.1 (c_X7_hasDomain l D dA b0 v1 x1) (ci := 7) (q := (RX7, TX7, 9)) rfl (fun _ e => (mo_ckE e).1) (tb_v tb_179 tb_180 tb_181 tb_18 tb_182) rfl (by decide +kernel) ⟨Nat.le_trans (by decide) hfr, Nat.le_trans (Nat.le_of_ble_eq_true rfl) hlo⟩ rfl (Nat.le_of_ble_eq_true rfl) rfl dX10_register_5 hF (fun v2 h H locs hF A => ?_)
    show W _ _ _ _ _ _ _ _ _ _ _ _ _ _ _ (F0 m 8 ls [.int v2])
    refine lv_if_eq (tgt := 27) hx hb dX10_register_8 (by decide) (fun c3 => ?_) (fun c3 => ?_)
    · have hF := mo_ifT c3 hF
      refine lv_iconst (v := (0 : Int32)) hx hb dX10_register_27 (by decide) ?_
      rw [hQ]
      exact mo_iret C A hr hlocks dX10_register_28 hF
    · have hF := mo_ifF c3 hF
      refine lv_aload_n hx hb dX10_register_11 rfl (lv_at hl 0 rfl) ?_
      refine mo_wR C A (T := TX10) iX10 rfl 1 (by decide) tb_30 rfl dX10_register_12 hF (fun v4 hF => ?_)
      refine mo_wRN C A (T := TX5) iX5 rfl 1 (by decide) (List.mem_of_getElem? (i := 55) rfl) rfl dX10_register_15 hF (fun v5 hF => ?_)
      refine lv_iload_n hx hb dX10_register_18 rfl (lv_at hl 1 rfl) ?_
      refine mo_wlq C A (t := 4) (fun _ => rfl) dX10_register_19 hF (fun v6 hF => ?_)
      refine lv_iload_n hx hb dX10_register_20 rfl (lv_at hl 2 rfl) ?_
      refine mo_cV (n := 1) (As := [.int x2]) (rest := []) C A hml hl.1 (c_X3_registerOrZero l D dA b0 v6 x2) (ci := 3) (q := (RX3, TX3, 9)) rfl (fun _ e => (mo_ckE e).1) (tb_v tb_592 tb_593 tb_594 tb_65 tb_595) rfl (by decide +kernel) ⟨Nat.le_trans (by decide) hfr, Nat.le_trans (Nat.le_of_ble_eq_true rfl) hlo⟩ rfl (Nat.le_of_ble_eq_true rfl) rfl dX10_register_21 hF (fun v7 h H locs hF A => ?_)
      show W _ _ _ _ _ _ _ _ _ _ _ _ _ _ _ (F0 m 24 ls [.int v7])
      refine lv_goto (tgt := 28) hx hb dX10_register_24 (by decide) ?_
      rw [hQ]
      exact mo_iret C A hr hlocks dX10_register_28 hF
  exact E h0 s.heap [] hF A
set_option maxHeartbeats 4000000 in
set_option maxRecDepth 100000 in
theorem c_X10_cell (l : Launch) (D : va_G) (dA : Nat → ClassId) (b0 : Nat) (x0 : Nat) (x1 : Int32) (x2 : Int32) : mo_Met l yX10_cell [Cond.code yX10_cell cX10_cell 3 (some .int)] 2 42 D dA b0 [.ref x0, .int x1, .int x2] (fun r : Int32 => some (.int r)) (F_X10_cell x0 x1 x2) := by
  refine mo_MetOf (own := RX10) (by decide) (Nat.le_of_ble_eq_true rfl) [(0, .ref x0), (1, .int x1), (2, .int x2)] rfl rfl ?_
  intro p e R s m args below meth c Q h0 h2 z ls hQ C hml hr hlocks hnm hfr hlo hF A hl
  have hx := C.1
  have hb := C.2.1
  have hown := C.2.2.1
  have hts := C.2.2.2.1
  have hK := C.2.2.2.2.1
  have iX5 := inlX5
  have iX10 := inlX10
  unfold F_X10_cell at hF
  obtain ⟨-, hF⟩ := mo_ckE hF
  have E : ∀ (h : mo_H) (H : Heap) (locs : List Loc), (mo_b (mo_gR x0 10 0) fun v1 => mo_b (F_X7_hasDomain v1 x1) fun v2 => (if v2 = 0 then mo_ret (0 : Int32) else mo_b (mo_gR x0 10 1) fun v4 => mo_b (mo_gR v4 5 1) fun v5 => mo_b (mo_lq 4 v5 x1) fun v6 => mo_b (F_X3_cellOrZero v6 x2) fun v7 => mo_ret v7)).1 h = some (z, h2) → mo_A D dA b0 s.heap h0 h H locs → W p l e R s m args below meth c H locs (h.2.1 - h0.2.1) (h.2.2 - h0.2.2) Q (F0 m 0 ls []) := by
    intro h H locs hF A
    refine lv_aload_n hx hb dX10_cell_0 rfl (lv_at hl 0 rfl) ?_
    refine mo_wR C A (T := TX10) iX10 rfl 0 (by decide) tb_26 rfl dX10_cell_1 hF (fun v1 hF => ?_)
    refine lv_iload_n hx hb dX10_cell_4 rfl (lv_at hl 1 rfl) ?_
    refine mo_cV (n := 1) (As := [.int x1]) (rest := []) C A hml hl.1 (c_X7_hasDomain l D dA b0 v1 x1) (ci := 7) (q := (RX7, TX7, 9)) rfl (fun _ e => (mo_ckE e).1) (tb_v tb_179 tb_180 tb_181 tb_18 tb_182) rfl (by decide +kernel) ⟨Nat.le_trans (by decide) hfr, Nat.le_trans (Nat.le_of_ble_eq_true rfl) hlo⟩ rfl (Nat.le_of_ble_eq_true rfl) rfl dX10_cell_5 hF (fun v2 h H locs hF A => ?_)
    show W _ _ _ _ _ _ _ _ _ _ _ _ _ _ _ (F0 m 8 ls [.int v2])
    refine lv_if_eq (tgt := 27) hx hb dX10_cell_8 (by decide) (fun c3 => ?_) (fun c3 => ?_)
    · have hF := mo_ifT c3 hF
      refine lv_iconst (v := (0 : Int32)) hx hb dX10_cell_27 (by decide) ?_
      rw [hQ]
      exact mo_iret C A hr hlocks dX10_cell_28 hF
    · have hF := mo_ifF c3 hF
      refine lv_aload_n hx hb dX10_cell_11 rfl (lv_at hl 0 rfl) ?_
      refine mo_wR C A (T := TX10) iX10 rfl 1 (by decide) tb_30 rfl dX10_cell_12 hF (fun v4 hF => ?_)
      refine mo_wRN C A (T := TX5) iX5 rfl 1 (by decide) (List.mem_of_getElem? (i := 55) rfl) rfl dX10_cell_15 hF (fun v5 hF => ?_)
      refine lv_iload_n hx hb dX10_cell_18 rfl (lv_at hl 1 rfl) ?_
      refine mo_wlq C A (t := 4) (fun _ => rfl) dX10_cell_19 hF (fun v6 hF => ?_)
      refine lv_iload_n hx hb dX10_cell_20 rfl (lv_at hl 2 rfl) ?_
      refine mo_cV (n := 1) (As := [.int x2]) (rest := []) C A hml hl.1 (c_X3_cellOrZero l D dA b0 v6 x2) (ci := 3) (q := (RX3, TX3, 9)) rfl (fun _ e => (mo_ckE e).1) (tb_v tb_604 tb_605 tb_606 tb_65 tb_607) rfl (by decide +kernel) ⟨Nat.le_trans (by decide) hfr, Nat.le_trans (Nat.le_of_ble_eq_true rfl) hlo⟩ rfl (Nat.le_of_ble_eq_true rfl) rfl dX10_cell_21 hF (fun v7 h H locs hF A => ?_)
      show W _ _ _ _ _ _ _ _ _ _ _ _ _ _ _ (F0 m 24 ls [.int v7])
      refine lv_goto (tgt := 28) hx hb dX10_cell_24 (by decide) ?_
      rw [hQ]
      exact mo_iret C A hr hlocks dX10_cell_28 hF
  exact E h0 s.heap [] hF A
set_option maxHeartbeats 4000000 in
set_option maxRecDepth 100000 in
theorem c_X10_of (l : Launch) (D : va_G) (dA : Nat → ClassId) (b0 : Nat) (x0 : Nat) (x1 : Int32) (x2 : Int32) : mo_Met l yX10_of [Cond.code yX10_of cX10_of 4 (some .int)] 1 21 D dA b0 [.ref x0, .int x1, .int x2] (fun r : Int32 => some (.int r)) (F_X10_of x0 x1 x2) := by
  refine mo_MetOf (own := RX10) (by decide) (Nat.le_of_ble_eq_true rfl) [(0, .ref x0), (1, .int x1), (2, .int x2)] rfl rfl ?_
  intro p e R s m args below meth c Q h0 h2 z ls hQ C hml hr hlocks hnm hfr hlo hF A hl
  have hx := C.1
  have hb := C.2.1
  have hown := C.2.2.1
  have hts := C.2.2.2.1
  have hK := C.2.2.2.2.1
  have iX3 := inlX3
  have iX5 := inlX5
  have iX9 := inlX9
  have iX10 := inlX10
  unfold F_X10_of at hF
  obtain ⟨-, hF⟩ := mo_ckE hF
  have E : ∀ (h : mo_H) (H : Heap) (locs : List Loc), (mo_b (mo_gR x0 10 0) fun v1 => mo_b (F_X7_hasDomain v1 x1) fun v2 => (if v2 = 0 then mo_ret (-1 : Int32) else mo_b (mo_gR x0 10 1) fun v4 => mo_b (mo_gR v4 5 1) fun v5 => mo_b (mo_lq 4 v5 x1) fun v6 => (if x2 = (0 : Int32) then mo_b (mo_gI v6 3 4) fun v8 => mo_ret v8 else (if x2 = (1 : Int32) then mo_b (mo_gI v6 3 5) fun v10 => mo_ret v10 else (if x2 = (2 : Int32) then mo_b (mo_gR v6 3 2) fun v12 => mo_b (mo_gI v12 9 1) fun v13 => mo_ret v13 else (if x2 = (3 : Int32) then mo_b (mo_gR v6 3 3) fun v15 => mo_b (mo_gI v15 9 1) fun v16 => mo_ret v16 else (if x2 = (4 : Int32) then mo_b (mo_gI v6 3 6) fun v18 => mo_ret v18 else (if x2 = (5 : Int32) then mo_b (mo_gI v6 3 7) fun v20 => mo_ret v20 else (if x2 = (6 : Int32) then mo_b (mo_gI v6 3 8) fun v22 => mo_ret v22 else (if x2 = (7 : Int32) then mo_b (mo_gR x0 10 0) fun v24 => mo_b (F_X7_reigns v24 x1) fun v25 => (if v25 = 0 then mo_ret (0 : Int32) else mo_ret (1 : Int32)) else mo_ret (-1 : Int32))))))))))).1 h = some (z, h2) → mo_A D dA b0 s.heap h0 h H locs → W p l e R s m args below meth c H locs (h.2.1 - h0.2.1) (h.2.2 - h0.2.2) Q (F0 m 0 ls []) := by
    intro h H locs hF A
    refine lv_aload_n hx hb dX10_of_0 rfl (lv_at hl 0 rfl) ?_
    refine mo_wR C A (T := TX10) iX10 rfl 0 (by decide) tb_26 rfl dX10_of_1 hF (fun v1 hF => ?_)
    refine lv_iload_n hx hb dX10_of_4 rfl (lv_at hl 1 rfl) ?_
    refine mo_cV (n := 1) (As := [.int x1]) (rest := []) C A hml hl.1 (c_X7_hasDomain l D dA b0 v1 x1) (ci := 7) (q := (RX7, TX7, 9)) rfl (fun _ e => (mo_ckE e).1) (tb_v tb_179 tb_180 tb_181 tb_18 tb_182) rfl (by decide +kernel) ⟨Nat.le_trans (by decide) hfr, Nat.le_trans (Nat.le_of_ble_eq_true rfl) hlo⟩ rfl (Nat.le_of_ble_eq_true rfl) rfl dX10_of_5 hF (fun v2 h H locs hF A => ?_)
    show W _ _ _ _ _ _ _ _ _ _ _ _ _ _ _ (F0 m 8 ls [.int v2])
    refine lv_if_ne (tgt := 13) hx hb dX10_of_8 (by decide) (fun c3 => ?_) (fun c3 => ?_)
    · have hF := mo_ifF c3 hF
      refine lv_aload_n hx hb dX10_of_13 rfl (lv_at hl 0 rfl) ?_
      refine mo_wR C A (T := TX10) iX10 rfl 1 (by decide) tb_30 rfl dX10_of_14 hF (fun v4 hF => ?_)
      refine mo_wRN C A (T := TX5) iX5 rfl 1 (by decide) (List.mem_of_getElem? (i := 55) rfl) rfl dX10_of_17 hF (fun v5 hF => ?_)
      refine lv_iload_n hx hb dX10_of_20 rfl (lv_at hl 1 rfl) ?_
      refine mo_wlq C A (t := 4) (fun _ => rfl) dX10_of_21 hF (fun v6 hF => ?_)
      refine lv_astore_n (lv' := [(3, .ref v6), (0, .ref x0), (1, .int x1), (2, .int x2)]) hx hb dX10_of_22 rfl hl (by decide) rfl (fun ls hl => ?_)
      refine lv_iload_n hx hb dX10_of_23 rfl (lv_at hl 3 rfl) ?_
      by_cases c7 : x2 = (0 : Int32)
      · have hF := mo_ifT c7 hF
        refine mo_tsI hx hb (0 : Int32) (tgt := 72) (off := 48) dX10_of_24 c7 (by decide) (by decide) rfl (by decide) ?_
        refine lv_aload_n hx hb dX10_of_72 rfl (lv_at hl 0 rfl) ?_
        refine mo_wIN C A (T := TX3) iX3 rfl 4 (by decide) (List.mem_of_getElem? (i := 26) rfl) rfl dX10_of_73 hF (fun v8 hF => ?_)
        rw [hQ]
        exact mo_iret C A hr hlocks dX10_of_76 hF
      have hF := mo_ifF c7 hF
      by_cases c9 : x2 = (1 : Int32)
      · have hF := mo_ifT c9 hF
        refine mo_tsI hx hb (1 : Int32) (tgt := 77) (off := 53) dX10_of_24 c9 (by decide) (by decide) rfl (by decide) ?_
        refine lv_aload_n hx hb dX10_of_77 rfl (lv_at hl 0 rfl) ?_
        refine mo_wIN C A (T := TX3) iX3 rfl 5 (by decide) (List.mem_of_getElem? (i := 28) rfl) rfl dX10_of_78 hF (fun v10 hF => ?_)
        rw [hQ]
        exact mo_iret C A hr hlocks dX10_of_81 hF
      have hF := mo_ifF c9 hF
      by_cases c11 : x2 = (2 : Int32)
      · have hF := mo_ifT c11 hF
        refine mo_tsI hx hb (2 : Int32) (tgt := 82) (off := 58) dX10_of_24 c11 (by decide) (by decide) rfl (by decide) ?_
        refine lv_aload_n hx hb dX10_of_82 rfl (lv_at hl 0 rfl) ?_
        refine mo_wRN C A (T := TX3) iX3 rfl 2 (by decide) (List.mem_of_getElem? (i := 23) rfl) rfl dX10_of_83 hF (fun v12 hF => ?_)
        refine mo_wIN C A (T := TX9) iX9 rfl 1 (by decide) (List.mem_of_getElem? (i := 1) rfl) rfl dX10_of_86 hF (fun v13 hF => ?_)
        rw [hQ]
        exact mo_iret C A hr hlocks dX10_of_89 hF
      have hF := mo_ifF c11 hF
      by_cases c14 : x2 = (3 : Int32)
      · have hF := mo_ifT c14 hF
        refine mo_tsI hx hb (3 : Int32) (tgt := 90) (off := 66) dX10_of_24 c14 (by decide) (by decide) rfl (by decide) ?_
        refine lv_aload_n hx hb dX10_of_90 rfl (lv_at hl 0 rfl) ?_
        refine mo_wRN C A (T := TX3) iX3 rfl 3 (by decide) (List.mem_of_getElem? (i := 24) rfl) rfl dX10_of_91 hF (fun v15 hF => ?_)
        refine mo_wIN C A (T := TX9) iX9 rfl 1 (by decide) (List.mem_of_getElem? (i := 1) rfl) rfl dX10_of_94 hF (fun v16 hF => ?_)
        rw [hQ]
        exact mo_iret C A hr hlocks dX10_of_97 hF
      have hF := mo_ifF c14 hF
      by_cases c17 : x2 = (4 : Int32)
      · have hF := mo_ifT c17 hF
        refine mo_tsI hx hb (4 : Int32) (tgt := 98) (off := 74) dX10_of_24 c17 (by decide) (by decide) rfl (by decide) ?_
        refine lv_aload_n hx hb dX10_of_98 rfl (lv_at hl 0 rfl) ?_
        refine mo_wIN C A (T := TX3) iX3 rfl 6 (by decide) (List.mem_of_getElem? (i := 29) rfl) rfl dX10_of_99 hF (fun v18 hF => ?_)
        rw [hQ]
        exact mo_iret C A hr hlocks dX10_of_102 hF
      have hF := mo_ifF c17 hF
      by_cases c19 : x2 = (5 : Int32)
      · have hF := mo_ifT c19 hF
        refine mo_tsI hx hb (5 : Int32) (tgt := 103) (off := 79) dX10_of_24 c19 (by decide) (by decide) rfl (by decide) ?_
        refine lv_aload_n hx hb dX10_of_103 rfl (lv_at hl 0 rfl) ?_
        refine mo_wIN C A (T := TX3) iX3 rfl 7 (by decide) (List.mem_of_getElem? (i := 31) rfl) rfl dX10_of_104 hF (fun v20 hF => ?_)
        rw [hQ]
        exact mo_iret C A hr hlocks dX10_of_107 hF
      have hF := mo_ifF c19 hF
      by_cases c21 : x2 = (6 : Int32)
      · have hF := mo_ifT c21 hF
        refine mo_tsI hx hb (6 : Int32) (tgt := 108) (off := 84) dX10_of_24 c21 (by decide) (by decide) rfl (by decide) ?_
        refine lv_aload_n hx hb dX10_of_108 rfl (lv_at hl 0 rfl) ?_
        refine mo_wIN C A (T := TX3) iX3 rfl 8 (by decide) (List.mem_of_getElem? (i := 33) rfl) rfl dX10_of_109 hF (fun v22 hF => ?_)
        rw [hQ]
        exact mo_iret C A hr hlocks dX10_of_112 hF
      have hF := mo_ifF c21 hF
      by_cases c23 : x2 = (7 : Int32)
      · have hF := mo_ifT c23 hF
        refine mo_tsI hx hb (7 : Int32) (tgt := 113) (off := 89) dX10_of_24 c23 (by decide) (by decide) rfl (by decide) ?_
        refine lv_aload_n hx hb dX10_of_113 rfl (lv_at hl 1 rfl) ?_
        refine mo_wR C A (T := TX10) iX10 rfl 0 (by decide) tb_26 rfl dX10_of_114 hF (fun v24 hF => ?_)
        refine lv_iload_n hx hb dX10_of_117 rfl (lv_at hl 2 rfl) ?_
        refine mo_cV (n := 1) (As := [.int x1]) (rest := []) C A hml hl.1 (c_X7_reigns l D dA b0 v24 x1) (ci := 7) (q := (RX7, TX7, 9)) rfl (fun _ e => (mo_ckE e).1) (tb_v tb_616 tb_495 tb_496 tb_18 tb_497) rfl (by decide +kernel) ⟨Nat.le_trans (by decide) hfr, Nat.le_trans (Nat.le_of_ble_eq_true rfl) hlo⟩ rfl (Nat.le_of_ble_eq_true rfl) rfl dX10_of_118 hF (fun v25 h H locs hF A => ?_)
        show W _ _ _ _ _ _ _ _ _ _ _ _ _ _ _ (F0 m 121 ls [.int v25])
        refine lv_if_eq (tgt := 128) hx hb dX10_of_121 (by decide) (fun c26 => ?_) (fun c26 => ?_)
        · have hF := mo_ifT c26 hF
          refine lv_iconst (v := (0 : Int32)) hx hb dX10_of_128 (by decide) ?_
          rw [hQ]
          exact mo_iret C A hr hlocks dX10_of_129 hF
        · have hF := mo_ifF c26 hF
          refine lv_iconst (v := (1 : Int32)) hx hb dX10_of_124 (by decide) ?_
          refine lv_goto (tgt := 129) hx hb dX10_of_125 (by decide) ?_
          rw [hQ]
          exact mo_iret C A hr hlocks dX10_of_129 hF
      have hF := mo_ifF c23 hF
      refine mo_tsD hx hb [(0 : Int32), (1 : Int32), (2 : Int32), (3 : Int32), (4 : Int32), (5 : Int32), (6 : Int32), (7 : Int32)] (tgt := 130) dX10_of_24 (List.forall_mem_cons.mpr ⟨c7, (List.forall_mem_cons.mpr ⟨c9, (List.forall_mem_cons.mpr ⟨c11, (List.forall_mem_cons.mpr ⟨c14, (List.forall_mem_cons.mpr ⟨c17, (List.forall_mem_cons.mpr ⟨c19, (List.forall_mem_cons.mpr ⟨c21, (List.forall_mem_cons.mpr ⟨c23, (fun _ h => absurd h List.not_mem_nil)⟩)⟩)⟩)⟩)⟩)⟩)⟩)⟩) (by decide) (by decide) (by decide) ?_
      refine lv_iconst (v := (-1 : Int32)) hx hb dX10_of_130 (by decide) ?_
      rw [hQ]
      exact mo_iret C A hr hlocks dX10_of_131 hF
    · have hF := mo_ifT c3 hF
      refine lv_iconst (v := (-1 : Int32)) hx hb dX10_of_11 (by decide) ?_
      rw [hQ]
      exact mo_iret C A hr hlocks dX10_of_12 hF
  exact E h0 s.heap [] hF A
set_option maxHeartbeats 4000000 in
set_option maxRecDepth 100000 in
theorem c_X10_output (l : Launch) (D : va_G) (dA : Nat → ClassId) (b0 : Nat) (x0 : Nat) (x1 : Int32) (x2 : Int32) : mo_Met l yX10_output [Cond.code yX10_output cX10_output 3 (some .int)] 1 21 D dA b0 [.ref x0, .int x1, .int x2] (fun r : Int32 => some (.int r)) (F_X10_output x0 x1 x2) := by
  refine mo_MetOf (own := RX10) (by decide) (Nat.le_of_ble_eq_true rfl) [(0, .ref x0), (1, .int x1), (2, .int x2)] rfl rfl ?_
  intro p e R s m args below meth c Q h0 h2 z ls hQ C hml hr hlocks hnm hfr hlo hF A hl
  have hx := C.1
  have hb := C.2.1
  have hown := C.2.2.1
  have hts := C.2.2.2.1
  have hK := C.2.2.2.2.1
  have iX3 := inlX3
  have iX5 := inlX5
  have iX10 := inlX10
  unfold F_X10_output at hF
  obtain ⟨-, hF⟩ := mo_ckE hF
  have E : ∀ (h : mo_H) (H : Heap) (locs : List Loc), (mo_b (mo_gR x0 10 0) fun v1 => mo_b (F_X7_hasDomain v1 x1) fun v2 => (if v2 = 0 then mo_ret (0 : Int32) else mo_b (mo_gR x0 10 1) fun v4 => mo_b (mo_gR v4 5 1) fun v5 => mo_b (mo_lq 4 v5 x1) fun v6 => mo_b (mo_gR v6 3 3) fun v7 => mo_b (F_X9_get v7 x2) fun v8 => mo_ret v8)).1 h = some (z, h2) → mo_A D dA b0 s.heap h0 h H locs → W p l e R s m args below meth c H locs (h.2.1 - h0.2.1) (h.2.2 - h0.2.2) Q (F0 m 0 ls []) := by
    intro h H locs hF A
    refine lv_aload_n hx hb dX10_output_0 rfl (lv_at hl 0 rfl) ?_
    refine mo_wR C A (T := TX10) iX10 rfl 0 (by decide) tb_26 rfl dX10_output_1 hF (fun v1 hF => ?_)
    refine lv_iload_n hx hb dX10_output_4 rfl (lv_at hl 1 rfl) ?_
    refine mo_cV (n := 1) (As := [.int x1]) (rest := []) C A hml hl.1 (c_X7_hasDomain l D dA b0 v1 x1) (ci := 7) (q := (RX7, TX7, 9)) rfl (fun _ e => (mo_ckE e).1) (tb_v tb_179 tb_180 tb_181 tb_18 tb_182) rfl (by decide +kernel) ⟨Nat.le_trans (by decide) hfr, Nat.le_trans (Nat.le_of_ble_eq_true rfl) hlo⟩ rfl (Nat.le_of_ble_eq_true rfl) rfl dX10_output_5 hF (fun v2 h H locs hF A => ?_)
    show W _ _ _ _ _ _ _ _ _ _ _ _ _ _ _ (F0 m 8 ls [.int v2])
    refine lv_if_eq (tgt := 30) hx hb dX10_output_8 (by decide) (fun c3 => ?_) (fun c3 => ?_)
    · have hF := mo_ifT c3 hF
      refine lv_iconst (v := (0 : Int32)) hx hb dX10_output_30 (by decide) ?_
      rw [hQ]
      exact mo_iret C A hr hlocks dX10_output_31 hF
    · have hF := mo_ifF c3 hF
      refine lv_aload_n hx hb dX10_output_11 rfl (lv_at hl 0 rfl) ?_
      refine mo_wR C A (T := TX10) iX10 rfl 1 (by decide) tb_30 rfl dX10_output_12 hF (fun v4 hF => ?_)
      refine mo_wRN C A (T := TX5) iX5 rfl 1 (by decide) (List.mem_of_getElem? (i := 55) rfl) rfl dX10_output_15 hF (fun v5 hF => ?_)
      refine lv_iload_n hx hb dX10_output_18 rfl (lv_at hl 1 rfl) ?_
      refine mo_wlq C A (t := 4) (fun _ => rfl) dX10_output_19 hF (fun v6 hF => ?_)
      refine mo_wRN C A (T := TX3) iX3 rfl 3 (by decide) (List.mem_of_getElem? (i := 24) rfl) rfl dX10_output_20 hF (fun v7 hF => ?_)
      refine lv_iload_n hx hb dX10_output_23 rfl (lv_at hl 2 rfl) ?_
      refine mo_cV (n := 1) (As := [.int x2]) (rest := []) C A hml hl.1 (c_X9_get l D dA b0 v7 x2) (ci := 9) (q := (RX9, TX9, 2)) rfl (fun _ e => (mo_ckE e).1) (tb_v tb_625 tb_288 tb_289 tb_46 tb_290) rfl (by decide +kernel) ⟨Nat.le_trans (by decide) hfr, Nat.le_trans (Nat.le_of_ble_eq_true rfl) hlo⟩ rfl (Nat.le_of_ble_eq_true rfl) rfl dX10_output_24 hF (fun v8 h H locs hF A => ?_)
      show W _ _ _ _ _ _ _ _ _ _ _ _ _ _ _ (F0 m 27 ls [.int v8])
      refine lv_goto (tgt := 31) hx hb dX10_output_27 (by decide) ?_
      rw [hQ]
      exact mo_iret C A hr hlocks dX10_output_31 hF
  exact E h0 s.heap [] hF A
set_option maxHeartbeats 4000000 in
set_option maxRecDepth 100000 in
theorem c_X10_at (l : Launch) (D : va_G) (dA : Nat → ClassId) (b0 : Nat) (x0 : Nat) (x1 : Int32) (x2 : Int32) : mo_Met l yX10_at [Cond.code yX10_at cX10_at 4 (some .int)] 1 21 D dA b0 [.ref x0, .int x1, .int x2] (fun r : Int32 => some (.int r)) (F_X10_at x0 x1 x2) := by
  refine mo_MetOf (own := RX10) (by decide) (Nat.le_of_ble_eq_true rfl) [(0, .ref x0), (1, .int x1), (2, .int x2)] rfl rfl ?_
  intro p e R s m args below meth c Q h0 h2 z ls hQ C hml hr hlocks hnm hfr hlo hF A hl
  have hx := C.1
  have hb := C.2.1
  have hown := C.2.2.1
  have hts := C.2.2.2.1
  have hK := C.2.2.2.2.1
  have iX1 := inlX1
  have iX2 := inlX2
  have iX4 := inlX4
  have iX5 := inlX5
  have iX7 := inlX7
  have iX10 := inlX10
  unfold F_X10_at at hF
  obtain ⟨-, hF⟩ := mo_ckE hF
  have E : ∀ (h : mo_H) (H : Heap) (locs : List Loc), ((if x1 < 0 then mo_ret (-1 : Int32) else mo_b (mo_gR x0 10 0) fun v2 => mo_b (mo_gI v2 7 3) fun v3 => (if x1 < v3 then mo_b (mo_gR x0 10 1) fun v5 => mo_b (mo_gR v5 5 2) fun v6 => mo_b (mo_lq 5 v6 x1) fun v7 => (if x2 = (0 : Int32) then mo_b (mo_gR v7 1 0) fun v9 => mo_b (mo_gI v9 4 0) fun v10 => mo_ret v10 else (if x2 = (1 : Int32) then mo_b (mo_gR v7 1 0) fun v12 => mo_b (mo_gI v12 4 1) fun v13 => mo_ret v13 else (if x2 = (2 : Int32) then mo_b (mo_gR v7 1 0) fun v15 => mo_b (mo_gI v15 4 2) fun v16 => (if v16 = 0 then mo_ret (0 : Int32) else mo_ret (1 : Int32)) else (if x2 = (3 : Int32) then mo_b (mo_gR v7 1 0) fun v19 => mo_b (mo_gI v19 4 3) fun v20 => mo_ret v20 else (if x2 = (4 : Int32) then mo_b (mo_gR v7 1 1) fun v22 => mo_b (F_X6_left v22) fun v23 => mo_ret v23 else (if x2 = (5 : Int32) then mo_b (mo_gR v7 1 2) fun v25 => mo_b (F_X6_left v25) fun v26 => mo_ret v26 else (if x2 = (6 : Int32) then mo_b (mo_gI v7 1 4) fun v28 => mo_ret v28 else (if x2 = (7 : Int32) then mo_b (mo_gI v7 1 6) fun v30 => mo_ret v30 else (if x2 = (8 : Int32) then mo_b (mo_gR v7 1 0) fun v32 => mo_b (mo_gI v32 4 2) fun v33 => (if v33 = 0 then mo_ret (0 : Int32) else mo_b (mo_gR x0 10 1) fun v35 => mo_b (mo_gR v35 5 3) fun v36 => mo_b (mo_gI v36 2 1) fun v37 => mo_b (F_X1_age v7 v37) fun v38 => mo_ret v38) else mo_ret (-1 : Int32)))))))))) else mo_ret (-1 : Int32)))).1 h = some (z, h2) → mo_A D dA b0 s.heap h0 h H locs → W p l e R s m args below meth c H locs (h.2.1 - h0.2.1) (h.2.2 - h0.2.2) Q (F0 m 0 ls []) := by
    intro h H locs hF A
    refine lv_iload_n hx hb dX10_at_0 rfl (lv_at hl 1 rfl) ?_
    refine lv_if_lt (tgt := 15) hx hb dX10_at_1 (by decide) (fun c1 => ?_) (fun c1 => ?_)
    · have hF := mo_ifT c1 hF
      refine lv_iconst (v := (-1 : Int32)) hx hb dX10_at_15 (by decide) ?_
      rw [hQ]
      exact mo_iret C A hr hlocks dX10_at_16 hF
    · have hF := mo_ifF c1 hF
      refine lv_iload_n hx hb dX10_at_4 rfl (lv_at hl 1 rfl) ?_
      refine lv_aload_n hx hb dX10_at_5 rfl (lv_at hl 0 rfl) ?_
      refine mo_wR C A (T := TX10) iX10 rfl 0 (by decide) tb_26 rfl dX10_at_6 hF (fun v2 hF => ?_)
      refine mo_wIN C A (T := TX7) iX7 rfl 3 (by decide) (List.mem_of_getElem? (i := 11) rfl) rfl dX10_at_9 hF (fun v3 hF => ?_)
      refine lv_icmp_lt (tgt := 17) hx hb dX10_at_12 (by decide) (fun c4 => ?_) (fun c4 => ?_)
      · have hF := mo_ifT c4 hF
        refine lv_aload_n hx hb dX10_at_17 rfl (lv_at hl 0 rfl) ?_
        refine mo_wR C A (T := TX10) iX10 rfl 1 (by decide) tb_30 rfl dX10_at_18 hF (fun v5 hF => ?_)
        refine mo_wRN C A (T := TX5) iX5 rfl 2 (by decide) (List.mem_of_getElem? (i := 56) rfl) rfl dX10_at_21 hF (fun v6 hF => ?_)
        refine lv_iload_n hx hb dX10_at_24 rfl (lv_at hl 1 rfl) ?_
        refine mo_wlq C A (t := 5) (fun _ => rfl) dX10_at_25 hF (fun v7 hF => ?_)
        refine lv_astore_n (lv' := [(3, .ref v7), (0, .ref x0), (1, .int x1), (2, .int x2)]) hx hb dX10_at_26 rfl hl (by decide) rfl (fun ls hl => ?_)
        refine lv_iload_n hx hb dX10_at_27 rfl (lv_at hl 3 rfl) ?_
        by_cases c8 : x2 = (0 : Int32)
        · have hF := mo_ifT c8 hF
          refine mo_tsI hx hb (0 : Int32) (tgt := 80) (off := 52) dX10_at_28 c8 (by decide) (by decide) rfl (by decide) ?_
          refine lv_aload_n hx hb dX10_at_80 rfl (lv_at hl 0 rfl) ?_
          refine mo_wRN C A (T := TX1) iX1 rfl 0 (by decide) (List.mem_of_getElem? (i := 35) rfl) rfl dX10_at_81 hF (fun v9 hF => ?_)
          refine mo_wIN C A (T := TX4) iX4 rfl 0 (by decide) (List.mem_of_getElem? (i := 68) rfl) rfl dX10_at_84 hF (fun v10 hF => ?_)
          rw [hQ]
          exact mo_iret C A hr hlocks dX10_at_87 hF
        have hF := mo_ifF c8 hF
        by_cases c11 : x2 = (1 : Int32)
        · have hF := mo_ifT c11 hF
          refine mo_tsI hx hb (1 : Int32) (tgt := 88) (off := 60) dX10_at_28 c11 (by decide) (by decide) rfl (by decide) ?_
          refine lv_aload_n hx hb dX10_at_88 rfl (lv_at hl 0 rfl) ?_
          refine mo_wRN C A (T := TX1) iX1 rfl 0 (by decide) (List.mem_of_getElem? (i := 35) rfl) rfl dX10_at_89 hF (fun v12 hF => ?_)
          refine mo_wIN C A (T := TX4) iX4 rfl 1 (by decide) (List.mem_of_getElem? (i := 71) rfl) rfl dX10_at_92 hF (fun v13 hF => ?_)
          rw [hQ]
          exact mo_iret C A hr hlocks dX10_at_95 hF
        have hF := mo_ifF c11 hF
        by_cases c14 : x2 = (2 : Int32)
        · have hF := mo_ifT c14 hF
          refine mo_tsI hx hb (2 : Int32) (tgt := 96) (off := 68) dX10_at_28 c14 (by decide) (by decide) rfl (by decide) ?_
          refine lv_aload_n hx hb dX10_at_96 rfl (lv_at hl 0 rfl) ?_
          refine mo_wRN C A (T := TX1) iX1 rfl 0 (by decide) (List.mem_of_getElem? (i := 35) rfl) rfl dX10_at_97 hF (fun v15 hF => ?_)
          refine mo_wIN C A (T := TX4) iX4 rfl 2 (by decide) (List.mem_of_getElem? (i := 74) rfl) rfl dX10_at_100 hF (fun v16 hF => ?_)
          refine lv_if_eq (tgt := 110) hx hb dX10_at_103 (by decide) (fun c17 => ?_) (fun c17 => ?_)
          · have hF := mo_ifT c17 hF
            refine lv_iconst (v := (0 : Int32)) hx hb dX10_at_110 (by decide) ?_
            rw [hQ]
            exact mo_iret C A hr hlocks dX10_at_111 hF
          · have hF := mo_ifF c17 hF
            refine lv_iconst (v := (1 : Int32)) hx hb dX10_at_106 (by decide) ?_
            refine lv_goto (tgt := 111) hx hb dX10_at_107 (by decide) ?_
            rw [hQ]
            exact mo_iret C A hr hlocks dX10_at_111 hF
        have hF := mo_ifF c14 hF
        by_cases c18 : x2 = (3 : Int32)
        · have hF := mo_ifT c18 hF
          refine mo_tsI hx hb (3 : Int32) (tgt := 112) (off := 84) dX10_at_28 c18 (by decide) (by decide) rfl (by decide) ?_
          refine lv_aload_n hx hb dX10_at_112 rfl (lv_at hl 0 rfl) ?_
          refine mo_wRN C A (T := TX1) iX1 rfl 0 (by decide) (List.mem_of_getElem? (i := 35) rfl) rfl dX10_at_113 hF (fun v19 hF => ?_)
          refine mo_wIN C A (T := TX4) iX4 rfl 3 (by decide) (List.mem_of_getElem? (i := 77) rfl) rfl dX10_at_116 hF (fun v20 hF => ?_)
          rw [hQ]
          exact mo_iret C A hr hlocks dX10_at_119 hF
        have hF := mo_ifF c18 hF
        by_cases c21 : x2 = (4 : Int32)
        · have hF := mo_ifT c21 hF
          refine mo_tsI hx hb (4 : Int32) (tgt := 120) (off := 92) dX10_at_28 c21 (by decide) (by decide) rfl (by decide) ?_
          refine lv_aload_n hx hb dX10_at_120 rfl (lv_at hl 0 rfl) ?_
          refine mo_wRN C A (T := TX1) iX1 rfl 1 (by decide) (List.mem_of_getElem? (i := 36) rfl) rfl dX10_at_121 hF (fun v22 hF => ?_)
          refine mo_cV (n := 0) (As := []) (rest := []) C A hml hl.1 (c_X6_left l D dA b0 v22) (ci := 6) (q := (RX6, TX6, 3)) rfl (fun _ e => (mo_ckE e).1) (tb_v tb_634 tb_362 tb_363 tb_91 tb_364) rfl (by decide +kernel) ⟨Nat.le_trans (by decide) hfr, Nat.le_trans (Nat.le_of_ble_eq_true rfl) hlo⟩ rfl (Nat.le_of_ble_eq_true rfl) rfl dX10_at_124 hF (fun v23 h H locs hF A => ?_)
          show W _ _ _ _ _ _ _ _ _ _ _ _ _ _ _ (F0 m 127 ls [.int v23])
          rw [hQ]
          exact mo_iret C A hr hlocks dX10_at_127 hF
        have hF := mo_ifF c21 hF
        by_cases c24 : x2 = (5 : Int32)
        · have hF := mo_ifT c24 hF
          refine mo_tsI hx hb (5 : Int32) (tgt := 128) (off := 100) dX10_at_28 c24 (by decide) (by decide) rfl (by decide) ?_
          refine lv_aload_n hx hb dX10_at_128 rfl (lv_at hl 0 rfl) ?_
          refine mo_wRN C A (T := TX1) iX1 rfl 2 (by decide) (List.mem_of_getElem? (i := 39) rfl) rfl dX10_at_129 hF (fun v25 hF => ?_)
          refine mo_cV (n := 0) (As := []) (rest := []) C A hml hl.1 (c_X6_left l D dA b0 v25) (ci := 6) (q := (RX6, TX6, 3)) rfl (fun _ e => (mo_ckE e).1) (tb_v tb_634 tb_362 tb_363 tb_91 tb_364) rfl (by decide +kernel) ⟨Nat.le_trans (by decide) hfr, Nat.le_trans (Nat.le_of_ble_eq_true rfl) hlo⟩ rfl (Nat.le_of_ble_eq_true rfl) rfl dX10_at_132 hF (fun v26 h H locs hF A => ?_)
          show W _ _ _ _ _ _ _ _ _ _ _ _ _ _ _ (F0 m 135 ls [.int v26])
          rw [hQ]
          exact mo_iret C A hr hlocks dX10_at_135 hF
        have hF := mo_ifF c24 hF
        by_cases c27 : x2 = (6 : Int32)
        · have hF := mo_ifT c27 hF
          refine mo_tsI hx hb (6 : Int32) (tgt := 136) (off := 108) dX10_at_28 c27 (by decide) (by decide) rfl (by decide) ?_
          refine lv_aload_n hx hb dX10_at_136 rfl (lv_at hl 0 rfl) ?_
          refine mo_wIN C A (T := TX1) iX1 rfl 4 (by decide) (List.mem_of_getElem? (i := 41) rfl) rfl dX10_at_137 hF (fun v28 hF => ?_)
          rw [hQ]
          exact mo_iret C A hr hlocks dX10_at_140 hF
        have hF := mo_ifF c27 hF
        by_cases c29 : x2 = (7 : Int32)
        · have hF := mo_ifT c29 hF
          refine mo_tsI hx hb (7 : Int32) (tgt := 141) (off := 113) dX10_at_28 c29 (by decide) (by decide) rfl (by decide) ?_
          refine lv_aload_n hx hb dX10_at_141 rfl (lv_at hl 0 rfl) ?_
          refine mo_wIN C A (T := TX1) iX1 rfl 6 (by decide) (List.mem_of_getElem? (i := 43) rfl) rfl dX10_at_142 hF (fun v30 hF => ?_)
          rw [hQ]
          exact mo_iret C A hr hlocks dX10_at_145 hF
        have hF := mo_ifF c29 hF
        by_cases c31 : x2 = (8 : Int32)
        · have hF := mo_ifT c31 hF
          refine mo_tsI hx hb (8 : Int32) (tgt := 146) (off := 118) dX10_at_28 c31 (by decide) (by decide) rfl (by decide) ?_
          refine lv_aload_n hx hb dX10_at_146 rfl (lv_at hl 0 rfl) ?_
          refine mo_wRN C A (T := TX1) iX1 rfl 0 (by decide) (List.mem_of_getElem? (i := 35) rfl) rfl dX10_at_147 hF (fun v32 hF => ?_)
          refine mo_wIN C A (T := TX4) iX4 rfl 2 (by decide) (List.mem_of_getElem? (i := 74) rfl) rfl dX10_at_150 hF (fun v33 hF => ?_)
          refine lv_if_eq (tgt := 173) hx hb dX10_at_153 (by decide) (fun c34 => ?_) (fun c34 => ?_)
          · have hF := mo_ifT c34 hF
            refine lv_iconst (v := (0 : Int32)) hx hb dX10_at_173 (by decide) ?_
            rw [hQ]
            exact mo_iret C A hr hlocks dX10_at_174 hF
          · have hF := mo_ifF c34 hF
            refine lv_aload_n hx hb dX10_at_156 rfl (lv_at hl 0 rfl) ?_
            refine lv_aload_n hx hb dX10_at_157 rfl (lv_at hl 1 rfl) ?_
            refine mo_wR C A (T := TX10) iX10 rfl 1 (by decide) tb_30 rfl dX10_at_158 hF (fun v35 hF => ?_)
            refine mo_wRN C A (T := TX5) iX5 rfl 3 (by decide) (List.mem_of_getElem? (i := 57) rfl) rfl dX10_at_161 hF (fun v36 hF => ?_)
            refine mo_wIN C A (T := TX2) iX2 rfl 1 (by decide) (List.mem_of_getElem? (i := 47) rfl) rfl dX10_at_164 hF (fun v37 hF => ?_)
            refine mo_cV (n := 1) (As := [.int v37]) (rest := []) C A hml hl.1 (c_X1_age l D dA b0 v7 v37) (ci := 1) (q := (RX1, TX1, 8)) rfl (fun _ e => (mo_ckE e).1) (tb_v tb_635 tb_478 tb_479 tb_69 tb_480) rfl (by decide +kernel) ⟨Nat.le_trans (by decide) hfr, Nat.le_trans (Nat.le_of_ble_eq_true rfl) hlo⟩ rfl (Nat.le_of_ble_eq_true rfl) rfl dX10_at_167 hF (fun v38 h H locs hF A => ?_)
            show W _ _ _ _ _ _ _ _ _ _ _ _ _ _ _ (F0 m 170 ls [.int v38])
            refine lv_goto (tgt := 174) hx hb dX10_at_170 (by decide) ?_
            rw [hQ]
            exact mo_iret C A hr hlocks dX10_at_174 hF
        have hF := mo_ifF c31 hF
        refine mo_tsD hx hb [(0 : Int32), (1 : Int32), (2 : Int32), (3 : Int32), (4 : Int32), (5 : Int32), (6 : Int32), (7 : Int32), (8 : Int32)] (tgt := 175) dX10_at_28 (List.forall_mem_cons.mpr ⟨c8, (List.forall_mem_cons.mpr ⟨c11, (List.forall_mem_cons.mpr ⟨c14, (List.forall_mem_cons.mpr ⟨c18, (List.forall_mem_cons.mpr ⟨c21, (List.forall_mem_cons.mpr ⟨c24, (List.forall_mem_cons.mpr ⟨c27, (List.forall_mem_cons.mpr ⟨c29, (List.forall_mem_cons.mpr ⟨c31, (fun _ h => absurd h List.not_mem_nil)⟩)⟩)⟩)⟩)⟩)⟩)⟩)⟩)⟩) (by decide) (by decide) (by decide) ?_
        refine lv_iconst (v := (-1 : Int32)) hx hb dX10_at_175 (by decide) ?_
        rw [hQ]
        exact mo_iret C A hr hlocks dX10_at_176 hF
      · have hF := mo_ifF c4 hF
        refine lv_iconst (v := (-1 : Int32)) hx hb dX10_at_15 (by decide) ?_
        rw [hQ]
        exact mo_iret C A hr hlocks dX10_at_16 hF
  exact E h0 s.heap [] hF A
set_option maxHeartbeats 4000000 in
set_option maxRecDepth 100000 in
theorem c_X10_told (l : Launch) (D : va_G) (dA : Nat → ClassId) (b0 : Nat) (x0 : Nat) (x1 : Int32) : mo_Met l yX10_told [Cond.code yX10_told cX10_told 3 (some .int)] 2 41 D dA b0 [.ref x0, .int x1] (fun r : Int32 => some (.int r)) (F_X10_told x0 x1) := by
  refine mo_MetOf (own := RX10) (by decide) (Nat.le_of_ble_eq_true rfl) [(0, .ref x0), (1, .int x1)] rfl rfl ?_
  intro p e R s m args below meth c Q h0 h2 z ls hQ C hml hr hlocks hnm hfr hlo hF A hl
  have hx := C.1
  have hb := C.2.1
  have hown := C.2.2.1
  have hts := C.2.2.2.1
  have hK := C.2.2.2.2.1
  have iX2 := inlX2
  have iX5 := inlX5
  have iX7 := inlX7
  have iX10 := inlX10
  unfold F_X10_told at hF
  obtain ⟨-, hF⟩ := mo_ckE hF
  have E : ∀ (h : mo_H) (H : Heap) (locs : List Loc), (mo_b (mo_gR x0 10 1) fun v1 => mo_b (mo_gR v1 5 3) fun v2 => (if x1 = (0 : Int32) then mo_b (mo_gI v2 2 1) fun v4 => mo_ret v4 else (if x1 = (1 : Int32) then mo_b (mo_gR x0 10 2) fun v6 => mo_b (F_X0_count v6) fun v7 => mo_ret v7 else (if x1 = (2 : Int32) then mo_b (mo_gR x0 10 0) fun v9 => mo_b (mo_gI v9 7 8) fun v10 => (if v10 = 0 then mo_ret (-1 : Int32) else mo_b (F_X2_slotDomain v2) fun v12 => mo_ret v12) else (if x1 = (3 : Int32) then mo_b (mo_gI v2 2 3) fun v14 => mo_ret v14 else (if x1 = (4 : Int32) then mo_b (mo_gI v2 2 2) fun v16 => mo_ret v16 else (if x1 = (5 : Int32) then mo_b (mo_gI v2 2 4) fun v18 => mo_ret v18 else (if x1 = (6 : Int32) then mo_b (mo_gI v2 2 5) fun v20 => mo_ret v20 else (if x1 = (7 : Int32) then mo_b (mo_gR x0 10 0) fun v22 => mo_b (mo_gI v22 7 3) fun v23 => mo_ret v23 else (if x1 = (8 : Int32) then mo_b (mo_gR x0 10 0) fun v25 => mo_b (mo_gI v25 7 0) fun v26 => mo_ret v26 else (if x1 = (9 : Int32) then mo_b (mo_gR x0 10 0) fun v28 => mo_b (mo_gI v28 7 8) fun v29 => (if v29 = 0 then mo_ret (0 : Int32) else mo_ret (1 : Int32)) else mo_ret (-1 : Int32)))))))))))).1 h = some (z, h2) → mo_A D dA b0 s.heap h0 h H locs → W p l e R s m args below meth c H locs (h.2.1 - h0.2.1) (h.2.2 - h0.2.2) Q (F0 m 0 ls []) := by
    intro h H locs hF A
    refine lv_aload_n hx hb dX10_told_0 rfl (lv_at hl 0 rfl) ?_
    refine mo_wR C A (T := TX10) iX10 rfl 1 (by decide) tb_30 rfl dX10_told_1 hF (fun v1 hF => ?_)
    refine mo_wRN C A (T := TX5) iX5 rfl 3 (by decide) (List.mem_of_getElem? (i := 57) rfl) rfl dX10_told_4 hF (fun v2 hF => ?_)
    refine lv_astore_n (lv' := [(2, .ref v2), (0, .ref x0), (1, .int x1)]) hx hb dX10_told_7 rfl hl (by decide) rfl (fun ls hl => ?_)
    refine lv_iload_n hx hb dX10_told_8 rfl (lv_at hl 2 rfl) ?_
    by_cases c3 : x1 = (0 : Int32)
    · have hF := mo_ifT c3 hF
      refine mo_tsI hx hb (0 : Int32) (tgt := 64) (off := 55) dX10_told_9 c3 (by decide) (by decide) rfl (by decide) ?_
      refine lv_aload_n hx hb dX10_told_64 rfl (lv_at hl 0 rfl) ?_
      refine mo_wIN C A (T := TX2) iX2 rfl 1 (by decide) (List.mem_of_getElem? (i := 47) rfl) rfl dX10_told_65 hF (fun v4 hF => ?_)
      rw [hQ]
      exact mo_iret C A hr hlocks dX10_told_68 hF
    have hF := mo_ifF c3 hF
    by_cases c5 : x1 = (1 : Int32)
    · have hF := mo_ifT c5 hF
      refine mo_tsI hx hb (1 : Int32) (tgt := 69) (off := 60) dX10_told_9 c5 (by decide) (by decide) rfl (by decide) ?_
      refine lv_aload_n hx hb dX10_told_69 rfl (lv_at hl 1 rfl) ?_
      refine mo_wR C A (T := TX10) iX10 rfl 2 (by decide) tb_34 rfl dX10_told_70 hF (fun v6 hF => ?_)
      refine mo_cV (n := 0) (As := []) (rest := []) C A hml hl.1 (c_X0_count l D dA b0 v6) (ci := 0) (q := (RX0, TX0, 4)) rfl (fun _ e => (mo_ckE e).1) (tb_v tb_303 tb_304 tb_305 tb_33 tb_306) rfl (by decide +kernel) ⟨Nat.le_trans (by decide) hfr, Nat.le_trans (Nat.le_of_ble_eq_true rfl) hlo⟩ rfl (Nat.le_of_ble_eq_true rfl) rfl dX10_told_73 hF (fun v7 h H locs hF A => ?_)
      show W _ _ _ _ _ _ _ _ _ _ _ _ _ _ _ (F0 m 76 ls [.int v7])
      rw [hQ]
      exact mo_iret C A hr hlocks dX10_told_76 hF
    have hF := mo_ifF c5 hF
    by_cases c8 : x1 = (2 : Int32)
    · have hF := mo_ifT c8 hF
      refine mo_tsI hx hb (2 : Int32) (tgt := 77) (off := 68) dX10_told_9 c8 (by decide) (by decide) rfl (by decide) ?_
      refine lv_aload_n hx hb dX10_told_77 rfl (lv_at hl 1 rfl) ?_
      refine mo_wR C A (T := TX10) iX10 rfl 0 (by decide) tb_26 rfl dX10_told_78 hF (fun v9 hF => ?_)
      refine mo_wIN C A (T := TX7) iX7 rfl 8 (by decide) (List.mem_of_getElem? (i := 20) rfl) rfl dX10_told_81 hF (fun v10 hF => ?_)
      refine lv_if_eq (tgt := 94) hx hb dX10_told_84 (by decide) (fun c11 => ?_) (fun c11 => ?_)
      · have hF := mo_ifT c11 hF
        refine lv_iconst (v := (-1 : Int32)) hx hb dX10_told_94 (by decide) ?_
        rw [hQ]
        exact mo_iret C A hr hlocks dX10_told_95 hF
      · have hF := mo_ifF c11 hF
        refine lv_aload_n hx hb dX10_told_87 rfl (lv_at hl 0 rfl) ?_
        refine mo_cV (n := 0) (As := []) (rest := []) C A hml hl.1 (c_X2_slotDomain l D dA b0 v2) (ci := 2) (q := (RX2, TX2, 6)) rfl (fun _ e => (mo_ckE e).1) (tb_v tb_342 tb_339 tb_340 tb_72 tb_341) rfl (by decide +kernel) ⟨Nat.le_trans (by decide) hfr, Nat.le_trans (Nat.le_of_ble_eq_true rfl) hlo⟩ rfl (Nat.le_of_ble_eq_true rfl) rfl dX10_told_88 hF (fun v12 h H locs hF A => ?_)
        show W _ _ _ _ _ _ _ _ _ _ _ _ _ _ _ (F0 m 91 ls [.int v12])
        refine lv_goto (tgt := 95) hx hb dX10_told_91 (by decide) ?_
        rw [hQ]
        exact mo_iret C A hr hlocks dX10_told_95 hF
    have hF := mo_ifF c8 hF
    by_cases c13 : x1 = (3 : Int32)
    · have hF := mo_ifT c13 hF
      refine mo_tsI hx hb (3 : Int32) (tgt := 96) (off := 87) dX10_told_9 c13 (by decide) (by decide) rfl (by decide) ?_
      refine lv_aload_n hx hb dX10_told_96 rfl (lv_at hl 0 rfl) ?_
      refine mo_wIN C A (T := TX2) iX2 rfl 3 (by decide) (List.mem_of_getElem? (i := 49) rfl) rfl dX10_told_97 hF (fun v14 hF => ?_)
      rw [hQ]
      exact mo_iret C A hr hlocks dX10_told_100 hF
    have hF := mo_ifF c13 hF
    by_cases c15 : x1 = (4 : Int32)
    · have hF := mo_ifT c15 hF
      refine mo_tsI hx hb (4 : Int32) (tgt := 101) (off := 92) dX10_told_9 c15 (by decide) (by decide) rfl (by decide) ?_
      refine lv_aload_n hx hb dX10_told_101 rfl (lv_at hl 0 rfl) ?_
      refine mo_wIN C A (T := TX2) iX2 rfl 2 (by decide) (List.mem_of_getElem? (i := 48) rfl) rfl dX10_told_102 hF (fun v16 hF => ?_)
      rw [hQ]
      exact mo_iret C A hr hlocks dX10_told_105 hF
    have hF := mo_ifF c15 hF
    by_cases c17 : x1 = (5 : Int32)
    · have hF := mo_ifT c17 hF
      refine mo_tsI hx hb (5 : Int32) (tgt := 106) (off := 97) dX10_told_9 c17 (by decide) (by decide) rfl (by decide) ?_
      refine lv_aload_n hx hb dX10_told_106 rfl (lv_at hl 0 rfl) ?_
      refine mo_wIN C A (T := TX2) iX2 rfl 4 (by decide) (List.mem_of_getElem? (i := 51) rfl) rfl dX10_told_107 hF (fun v18 hF => ?_)
      rw [hQ]
      exact mo_iret C A hr hlocks dX10_told_110 hF
    have hF := mo_ifF c17 hF
    by_cases c19 : x1 = (6 : Int32)
    · have hF := mo_ifT c19 hF
      refine mo_tsI hx hb (6 : Int32) (tgt := 111) (off := 102) dX10_told_9 c19 (by decide) (by decide) rfl (by decide) ?_
      refine lv_aload_n hx hb dX10_told_111 rfl (lv_at hl 0 rfl) ?_
      refine mo_wIN C A (T := TX2) iX2 rfl 5 (by decide) (List.mem_of_getElem? (i := 52) rfl) rfl dX10_told_112 hF (fun v20 hF => ?_)
      rw [hQ]
      exact mo_iret C A hr hlocks dX10_told_115 hF
    have hF := mo_ifF c19 hF
    by_cases c21 : x1 = (7 : Int32)
    · have hF := mo_ifT c21 hF
      refine mo_tsI hx hb (7 : Int32) (tgt := 116) (off := 107) dX10_told_9 c21 (by decide) (by decide) rfl (by decide) ?_
      refine lv_aload_n hx hb dX10_told_116 rfl (lv_at hl 1 rfl) ?_
      refine mo_wR C A (T := TX10) iX10 rfl 0 (by decide) tb_26 rfl dX10_told_117 hF (fun v22 hF => ?_)
      refine mo_wIN C A (T := TX7) iX7 rfl 3 (by decide) (List.mem_of_getElem? (i := 11) rfl) rfl dX10_told_120 hF (fun v23 hF => ?_)
      rw [hQ]
      exact mo_iret C A hr hlocks dX10_told_123 hF
    have hF := mo_ifF c21 hF
    by_cases c24 : x1 = (8 : Int32)
    · have hF := mo_ifT c24 hF
      refine mo_tsI hx hb (8 : Int32) (tgt := 124) (off := 115) dX10_told_9 c24 (by decide) (by decide) rfl (by decide) ?_
      refine lv_aload_n hx hb dX10_told_124 rfl (lv_at hl 1 rfl) ?_
      refine mo_wR C A (T := TX10) iX10 rfl 0 (by decide) tb_26 rfl dX10_told_125 hF (fun v25 hF => ?_)
      refine mo_wIN C A (T := TX7) iX7 rfl 0 (by decide) (List.mem_of_getElem? (i := 6) rfl) rfl dX10_told_128 hF (fun v26 hF => ?_)
      rw [hQ]
      exact mo_iret C A hr hlocks dX10_told_131 hF
    have hF := mo_ifF c24 hF
    by_cases c27 : x1 = (9 : Int32)
    · have hF := mo_ifT c27 hF
      refine mo_tsI hx hb (9 : Int32) (tgt := 132) (off := 123) dX10_told_9 c27 (by decide) (by decide) rfl (by decide) ?_
      refine lv_aload_n hx hb dX10_told_132 rfl (lv_at hl 1 rfl) ?_
      refine mo_wR C A (T := TX10) iX10 rfl 0 (by decide) tb_26 rfl dX10_told_133 hF (fun v28 hF => ?_)
      refine mo_wIN C A (T := TX7) iX7 rfl 8 (by decide) (List.mem_of_getElem? (i := 20) rfl) rfl dX10_told_136 hF (fun v29 hF => ?_)
      refine lv_if_eq (tgt := 146) hx hb dX10_told_139 (by decide) (fun c30 => ?_) (fun c30 => ?_)
      · have hF := mo_ifT c30 hF
        refine lv_iconst (v := (0 : Int32)) hx hb dX10_told_146 (by decide) ?_
        rw [hQ]
        exact mo_iret C A hr hlocks dX10_told_147 hF
      · have hF := mo_ifF c30 hF
        refine lv_iconst (v := (1 : Int32)) hx hb dX10_told_142 (by decide) ?_
        refine lv_goto (tgt := 147) hx hb dX10_told_143 (by decide) ?_
        rw [hQ]
        exact mo_iret C A hr hlocks dX10_told_147 hF
    have hF := mo_ifF c27 hF
    refine mo_tsD hx hb [(0 : Int32), (1 : Int32), (2 : Int32), (3 : Int32), (4 : Int32), (5 : Int32), (6 : Int32), (7 : Int32), (8 : Int32), (9 : Int32)] (tgt := 148) dX10_told_9 (List.forall_mem_cons.mpr ⟨c3, (List.forall_mem_cons.mpr ⟨c5, (List.forall_mem_cons.mpr ⟨c8, (List.forall_mem_cons.mpr ⟨c13, (List.forall_mem_cons.mpr ⟨c15, (List.forall_mem_cons.mpr ⟨c17, (List.forall_mem_cons.mpr ⟨c19, (List.forall_mem_cons.mpr ⟨c21, (List.forall_mem_cons.mpr ⟨c24, (List.forall_mem_cons.mpr ⟨c27, (fun _ h => absurd h List.not_mem_nil)⟩)⟩)⟩)⟩)⟩)⟩)⟩)⟩)⟩)⟩) (by decide) (by decide) (by decide) ?_
    refine lv_iconst (v := (-1 : Int32)) hx hb dX10_told_148 (by decide) ?_
    rw [hQ]
    exact mo_iret C A hr hlocks dX10_told_149 hF
  exact E h0 s.heap [] hF A
set_option maxHeartbeats 4000000 in
set_option maxRecDepth 100000 in
theorem c_X10_action (l : Launch) (D : va_G) (dA : Nat → ClassId) (b0 : Nat) (x0 : Nat) (x1 : Int32) (x2 : Int32) : mo_Met l yX10_action [Cond.code yX10_action cX10_action 3 (some .int)] 1 21 D dA b0 [.ref x0, .int x1, .int x2] (fun r : Int32 => some (.int r)) (F_X10_action x0 x1 x2) := by
  refine mo_MetOf (own := RX10) (by decide) (Nat.le_of_ble_eq_true rfl) [(0, .ref x0), (1, .int x1), (2, .int x2)] rfl rfl ?_
  intro p e R s m args below meth c Q h0 h2 z ls hQ C hml hr hlocks hnm hfr hlo hF A hl
  have hx := C.1
  have hb := C.2.1
  have hown := C.2.2.1
  have hts := C.2.2.2.1
  have hK := C.2.2.2.2.1
  have iX0 := inlX0
  have iX10 := inlX10
  unfold F_X10_action at hF
  obtain ⟨-, hF⟩ := mo_ckE hF
  have E : ∀ (h : mo_H) (H : Heap) (locs : List Loc), ((if x2 = (0 : Int32) then mo_b (mo_gR x0 10 2) fun v2 => mo_b (mo_gR v2 0 0) fun v3 => mo_b (F_X9_get v3 x1) fun v4 => mo_ret v4 else (if x2 = (1 : Int32) then mo_b (mo_gR x0 10 2) fun v6 => mo_b (mo_gR v6 0 1) fun v7 => mo_b (F_X9_get v7 x1) fun v8 => mo_ret v8 else (if x2 = (2 : Int32) then mo_b (mo_gR x0 10 2) fun v10 => mo_b (mo_gR v10 0 2) fun v11 => mo_b (F_X9_get v11 x1) fun v12 => mo_ret v12 else (if x2 = (3 : Int32) then mo_b (mo_gR x0 10 2) fun v14 => mo_b (mo_gR v14 0 3) fun v15 => mo_b (F_X9_get v15 x1) fun v16 => mo_ret v16 else mo_ret (0 : Int32)))))).1 h = some (z, h2) → mo_A D dA b0 s.heap h0 h H locs → W p l e R s m args below meth c H locs (h.2.1 - h0.2.1) (h.2.2 - h0.2.2) Q (F0 m 0 ls []) := by
    intro h H locs hF A
    refine lv_iload_n hx hb dX10_action_0 rfl (lv_at hl 2 rfl) ?_
    by_cases c1 : x2 = (0 : Int32)
    · have hF := mo_ifT c1 hF
      refine mo_tsI hx hb (0 : Int32) (tgt := 32) (off := 31) dX10_action_1 c1 (by decide) (by decide) rfl (by decide) ?_
      refine lv_aload_n hx hb dX10_action_32 rfl (lv_at hl 0 rfl) ?_
      refine mo_wR C A (T := TX10) iX10 rfl 2 (by decide) tb_34 rfl dX10_action_33 hF (fun v2 hF => ?_)
      refine mo_wRN C A (T := TX0) iX0 rfl 0 (by decide) (List.mem_of_getElem? (i := 59) rfl) rfl dX10_action_36 hF (fun v3 hF => ?_)
      refine lv_iload_n hx hb dX10_action_39 rfl (lv_at hl 1 rfl) ?_
      refine mo_cV (n := 1) (As := [.int x1]) (rest := []) C A hml hl.1 (c_X9_get l D dA b0 v3 x1) (ci := 9) (q := (RX9, TX9, 2)) rfl (fun _ e => (mo_ckE e).1) (tb_v tb_625 tb_288 tb_289 tb_46 tb_290) rfl (by decide +kernel) ⟨Nat.le_trans (by decide) hfr, Nat.le_trans (Nat.le_of_ble_eq_true rfl) hlo⟩ rfl (Nat.le_of_ble_eq_true rfl) rfl dX10_action_40 hF (fun v4 h H locs hF A => ?_)
      show W _ _ _ _ _ _ _ _ _ _ _ _ _ _ _ (F0 m 43 ls [.int v4])
      rw [hQ]
      exact mo_iret C A hr hlocks dX10_action_43 hF
    have hF := mo_ifF c1 hF
    by_cases c5 : x2 = (1 : Int32)
    · have hF := mo_ifT c5 hF
      refine mo_tsI hx hb (1 : Int32) (tgt := 44) (off := 43) dX10_action_1 c5 (by decide) (by decide) rfl (by decide) ?_
      refine lv_aload_n hx hb dX10_action_44 rfl (lv_at hl 0 rfl) ?_
      refine mo_wR C A (T := TX10) iX10 rfl 2 (by decide) tb_34 rfl dX10_action_45 hF (fun v6 hF => ?_)
      refine mo_wRN C A (T := TX0) iX0 rfl 1 (by decide) (List.mem_of_getElem? (i := 61) rfl) rfl dX10_action_48 hF (fun v7 hF => ?_)
      refine lv_iload_n hx hb dX10_action_51 rfl (lv_at hl 1 rfl) ?_
      refine mo_cV (n := 1) (As := [.int x1]) (rest := []) C A hml hl.1 (c_X9_get l D dA b0 v7 x1) (ci := 9) (q := (RX9, TX9, 2)) rfl (fun _ e => (mo_ckE e).1) (tb_v tb_625 tb_288 tb_289 tb_46 tb_290) rfl (by decide +kernel) ⟨Nat.le_trans (by decide) hfr, Nat.le_trans (Nat.le_of_ble_eq_true rfl) hlo⟩ rfl (Nat.le_of_ble_eq_true rfl) rfl dX10_action_52 hF (fun v8 h H locs hF A => ?_)
      show W _ _ _ _ _ _ _ _ _ _ _ _ _ _ _ (F0 m 55 ls [.int v8])
      rw [hQ]
      exact mo_iret C A hr hlocks dX10_action_55 hF
    have hF := mo_ifF c5 hF
    by_cases c9 : x2 = (2 : Int32)
    · have hF := mo_ifT c9 hF
      refine mo_tsI hx hb (2 : Int32) (tgt := 56) (off := 55) dX10_action_1 c9 (by decide) (by decide) rfl (by decide) ?_
      refine lv_aload_n hx hb dX10_action_56 rfl (lv_at hl 0 rfl) ?_
      refine mo_wR C A (T := TX10) iX10 rfl 2 (by decide) tb_34 rfl dX10_action_57 hF (fun v10 hF => ?_)
      refine mo_wRN C A (T := TX0) iX0 rfl 2 (by decide) (List.mem_of_getElem? (i := 63) rfl) rfl dX10_action_60 hF (fun v11 hF => ?_)
      refine lv_iload_n hx hb dX10_action_63 rfl (lv_at hl 1 rfl) ?_
      refine mo_cV (n := 1) (As := [.int x1]) (rest := []) C A hml hl.1 (c_X9_get l D dA b0 v11 x1) (ci := 9) (q := (RX9, TX9, 2)) rfl (fun _ e => (mo_ckE e).1) (tb_v tb_625 tb_288 tb_289 tb_46 tb_290) rfl (by decide +kernel) ⟨Nat.le_trans (by decide) hfr, Nat.le_trans (Nat.le_of_ble_eq_true rfl) hlo⟩ rfl (Nat.le_of_ble_eq_true rfl) rfl dX10_action_64 hF (fun v12 h H locs hF A => ?_)
      show W _ _ _ _ _ _ _ _ _ _ _ _ _ _ _ (F0 m 67 ls [.int v12])
      rw [hQ]
      exact mo_iret C A hr hlocks dX10_action_67 hF
    have hF := mo_ifF c9 hF
    by_cases c13 : x2 = (3 : Int32)
    · have hF := mo_ifT c13 hF
      refine mo_tsI hx hb (3 : Int32) (tgt := 68) (off := 67) dX10_action_1 c13 (by decide) (by decide) rfl (by decide) ?_
      refine lv_aload_n hx hb dX10_action_68 rfl (lv_at hl 0 rfl) ?_
      refine mo_wR C A (T := TX10) iX10 rfl 2 (by decide) tb_34 rfl dX10_action_69 hF (fun v14 hF => ?_)
      refine mo_wRN C A (T := TX0) iX0 rfl 3 (by decide) (List.mem_of_getElem? (i := 65) rfl) rfl dX10_action_72 hF (fun v15 hF => ?_)
      refine lv_iload_n hx hb dX10_action_75 rfl (lv_at hl 1 rfl) ?_
      refine mo_cV (n := 1) (As := [.int x1]) (rest := []) C A hml hl.1 (c_X9_get l D dA b0 v15 x1) (ci := 9) (q := (RX9, TX9, 2)) rfl (fun _ e => (mo_ckE e).1) (tb_v tb_625 tb_288 tb_289 tb_46 tb_290) rfl (by decide +kernel) ⟨Nat.le_trans (by decide) hfr, Nat.le_trans (Nat.le_of_ble_eq_true rfl) hlo⟩ rfl (Nat.le_of_ble_eq_true rfl) rfl dX10_action_76 hF (fun v16 h H locs hF A => ?_)
      show W _ _ _ _ _ _ _ _ _ _ _ _ _ _ _ (F0 m 79 ls [.int v16])
      rw [hQ]
      exact mo_iret C A hr hlocks dX10_action_79 hF
    have hF := mo_ifF c13 hF
    refine mo_tsD hx hb [(0 : Int32), (1 : Int32), (2 : Int32), (3 : Int32)] (tgt := 80) dX10_action_1 (List.forall_mem_cons.mpr ⟨c1, (List.forall_mem_cons.mpr ⟨c5, (List.forall_mem_cons.mpr ⟨c9, (List.forall_mem_cons.mpr ⟨c13, (fun _ h => absurd h List.not_mem_nil)⟩)⟩)⟩)⟩) (by decide) (by decide) (by decide) ?_
    refine lv_iconst (v := (0 : Int32)) hx hb dX10_action_80 (by decide) ?_
    rw [hQ]
    exact mo_iret C A hr hlocks dX10_action_81 hF
  exact E h0 s.heap [] hF A
set_option maxHeartbeats 4000000 in
set_option maxRecDepth 100000 in
theorem c_X10_purge (l : Launch) (D : va_G) (dA : Nat → ClassId) (b0 : Nat) (x0 : Nat) (x1 : Int32) : mo_Met l yX10_purge [Cond.code yX10_purge cX10_purge 2 (some .int)] 8 180 D dA b0 [.ref x0, .int x1] (fun r : Int32 => some (.int r)) (F_X10_purge x0 x1) := by
  refine mo_MetOf (own := RX10) (by decide) (Nat.le_of_ble_eq_true rfl) [(0, .ref x0), (1, .int x1)] rfl rfl ?_
  intro p e R s m args below meth c Q h0 h2 z ls hQ C hml hr hlocks hnm hfr hlo hF A hl
  have hx := C.1
  have hb := C.2.1
  have hown := C.2.2.1
  have hts := C.2.2.2.1
  have hK := C.2.2.2.2.1
  have iX2 := inlX2
  have iX5 := inlX5
  have iX7 := inlX7
  have iX8 := inlX8
  have iX10 := inlX10
  have J45 : ∀   (x0 : Nat) (x1 : Int32) (h : mo_H) (H : Heap) (locs : List Loc) (ls : Array Slot), mo_A D dA b0 s.heap h0 h H locs → lv_has ls 2 [(0, .ref x0), (1, .int x1)] → (F_X10_purge_45 x0 x1).1 h = some (z, h2) → W p l e R s m args below meth c H locs (h.2.1 - h0.2.1) (h.2.2 - h0.2.2) Q (F0 m 45 ls []) := by
    intro  x0 x1 h H locs ls A hl hF
    unfold F_X10_purge_45 at hF
    refine lv_aload_n hx hb dX10_purge_45 rfl (lv_at hl 0 rfl) ?_
    refine mo_wO C A (T := TX10) iX10 rfl 3 (by decide) tb_660 rfl dX10_purge_46 hF (fun v1 hF => ?_)
    refine lv_aload_n hx hb dX10_purge_49 rfl (lv_at hl 0 rfl) ?_
    refine mo_wR C A (T := TX10) iX10 rfl 2 (by decide) tb_34 rfl dX10_purge_50 hF (fun v2 hF => ?_)
    refine lv_iload_n hx hb dX10_purge_53 rfl (lv_at hl 1 rfl) ?_
    rcases v1 with _ | a3
    · cases hF
    refine mo_cV (n := 2) (As := [.ref v2, .int x1]) (rest := []) C A hml hl.1 (c_X8_choose l D dA b0 a3 v2 x1) (ci := 8) (q := (RX8, TX8, 5)) rfl (fun _ e => (mo_ckE e).1) (tb_v tb_673 tb_674 tb_675 tb_663 tb_676) rfl (by decide +kernel) ⟨Nat.le_trans (by decide) hfr, Nat.le_trans (Nat.le_of_ble_eq_true rfl) hlo⟩ rfl (Nat.le_of_ble_eq_true rfl) rfl dX10_purge_54 hF (fun v4 h H locs hF A => ?_)
    show W _ _ _ _ _ _ _ _ _ _ _ _ _ _ _ (F0 m 57 ls [])
    refine lv_aload_n hx hb dX10_purge_57 rfl (lv_at hl 0 rfl) ?_
    refine mo_wO C A (T := TX10) iX10 rfl 3 (by decide) tb_660 rfl dX10_purge_58 hF (fun v5 hF => ?_)
    refine lv_aload_n hx hb dX10_purge_61 rfl (lv_at hl 0 rfl) ?_
    refine mo_wR C A (T := TX10) iX10 rfl 2 (by decide) tb_34 rfl dX10_purge_62 hF (fun v6 hF => ?_)
    refine lv_aload_n hx hb dX10_purge_65 rfl (lv_at hl 0 rfl) ?_
    refine mo_wR C A (T := TX10) iX10 rfl 1 (by decide) tb_30 rfl dX10_purge_66 hF (fun v7 hF => ?_)
    refine mo_wRN C A (T := TX5) iX5 rfl 3 (by decide) (List.mem_of_getElem? (i := 57) rfl) rfl dX10_purge_69 hF (fun v8 hF => ?_)
    refine mo_wIN C A (T := TX2) iX2 rfl 1 (by decide) (List.mem_of_getElem? (i := 47) rfl) rfl dX10_purge_72 hF (fun v9 hF => ?_)
    rcases v5 with _ | a10
    · cases hF
    refine mo_cV (n := 2) (As := [.ref v6, .int v9]) (rest := []) C A hml hl.1 (c_X8_redo l D dA b0 a10 v6 v9) (ci := 8) (q := (RX8, TX8, 5)) rfl (fun _ e => (mo_ckE e).1) (tb_v tb_682 tb_683 tb_684 tb_663 tb_685) rfl (by decide +kernel) ⟨Nat.le_trans (by decide) hfr, Nat.le_trans (Nat.le_of_ble_eq_true rfl) hlo⟩ rfl (Nat.le_of_ble_eq_true rfl) rfl dX10_purge_75 hF (fun v11 h H locs hF A => ?_)
    show W _ _ _ _ _ _ _ _ _ _ _ _ _ _ _ (F0 m 78 ls [])
    refine lv_aload_n hx hb dX10_purge_78 rfl (lv_at hl 0 rfl) ?_
    refine mo_wO C A (T := TX10) iX10 rfl 3 (by decide) tb_660 rfl dX10_purge_79 hF (fun v12 hF => ?_)
    rcases v12 with _ | a13
    · cases hF
    refine mo_wIN C A (T := TX8) iX8 rfl 4 (by decide) (List.mem_of_getElem? (i := 81) rfl) rfl dX10_purge_82 hF (fun v14 hF => ?_)
    rw [hQ]
    exact mo_iret C A hr hlocks dX10_purge_85 hF
  unfold F_X10_purge at hF
  obtain ⟨-, hF⟩ := mo_ckE hF
  have E : ∀ (h : mo_H) (H : Heap) (locs : List Loc), (mo_b (mo_gR x0 10 0) fun v15 => mo_b (mo_gI v15 7 8) fun v16 => (if v16 = 0 then mo_ret (-1 : Int32) else mo_b (mo_gR x0 10 0) fun v18 => mo_b (F_X7_hasDomain v18 x1) fun v19 => (if v19 = 0 then mo_ret (-1 : Int32) else mo_b (mo_gO x0 10 3) fun v21 => (mo_mO v21 (mo_b (mo_nc 8 dfX8) fun v23 => mo_b (mo_gR x0 10 0) fun v24 => mo_b (F_X8_init v23 v24) fun v25 => mo_b (mo_pV x0 10 3 (.ref v23)) fun _ => F_X10_purge_45 x0 x1) (fun a22 => F_X10_purge_45 x0 x1))))).1 h = some (z, h2) → mo_A D dA b0 s.heap h0 h H locs → W p l e R s m args below meth c H locs (h.2.1 - h0.2.1) (h.2.2 - h0.2.2) Q (F0 m 0 ls []) := by
    intro h H locs hF A
    refine lv_aload_n hx hb dX10_purge_0 rfl (lv_at hl 0 rfl) ?_
    refine mo_wR C A (T := TX10) iX10 rfl 0 (by decide) tb_26 rfl dX10_purge_1 hF (fun v15 hF => ?_)
    refine mo_wIN C A (T := TX7) iX7 rfl 8 (by decide) (List.mem_of_getElem? (i := 20) rfl) rfl dX10_purge_4 hF (fun v16 hF => ?_)
    refine lv_if_eq (tgt := 21) hx hb dX10_purge_7 (by decide) (fun c17 => ?_) (fun c17 => ?_)
    · have hF := mo_ifT c17 hF
      refine lv_iconst (v := (-1 : Int32)) hx hb dX10_purge_21 (by decide) ?_
      rw [hQ]
      exact mo_iret C A hr hlocks dX10_purge_22 hF
    · have hF := mo_ifF c17 hF
      refine lv_aload_n hx hb dX10_purge_10 rfl (lv_at hl 0 rfl) ?_
      refine mo_wR C A (T := TX10) iX10 rfl 0 (by decide) tb_26 rfl dX10_purge_11 hF (fun v18 hF => ?_)
      refine lv_iload_n hx hb dX10_purge_14 rfl (lv_at hl 1 rfl) ?_
      refine mo_cV (n := 1) (As := [.int x1]) (rest := []) C A hml hl.1 (c_X7_hasDomain l D dA b0 v18 x1) (ci := 7) (q := (RX7, TX7, 9)) rfl (fun _ e => (mo_ckE e).1) (tb_v tb_179 tb_180 tb_181 tb_18 tb_182) rfl (by decide +kernel) ⟨Nat.le_trans (by decide) hfr, Nat.le_trans (Nat.le_of_ble_eq_true rfl) hlo⟩ rfl (Nat.le_of_ble_eq_true rfl) rfl dX10_purge_15 hF (fun v19 h H locs hF A => ?_)
      show W _ _ _ _ _ _ _ _ _ _ _ _ _ _ _ (F0 m 18 ls [.int v19])
      refine lv_if_ne (tgt := 23) hx hb dX10_purge_18 (by decide) (fun c20 => ?_) (fun c20 => ?_)
      · have hF := mo_ifF c20 hF
        refine lv_aload_n hx hb dX10_purge_23 rfl (lv_at hl 0 rfl) ?_
        refine mo_wO C A (T := TX10) iX10 rfl 3 (by decide) tb_660 rfl dX10_purge_24 hF (fun v21 hF => ?_)
        rcases v21 with _ | a22
        · refine lv_ifnonnullN hx hb dX10_purge_27 ?_
          refine lv_aload_n hx hb dX10_purge_30 rfl (lv_at hl 0 rfl) ?_
          refine mo_wnc C A (T := TX8) iX8 tyX8 tyX8_ok rfl tb_661 tb_662 tb_663 dfX8_ok rfl dX10_purge_31 hF (fun v23 h H hF A => ?_)
          refine lv_dup hx hb dX10_purge_34 rfl ?_
          refine lv_aload_n hx hb dX10_purge_35 rfl (lv_at hl 0 rfl) ?_
          refine mo_wR C A (T := TX10) iX10 rfl 0 (by decide) tb_26 rfl dX10_purge_36 hF (fun v24 hF => ?_)
          refine mo_cI (n := 1) (As := [.ref v24]) (rest := [.ref v23, .ref x0]) C A hml hl.1 (c_X8_init l D dA b0 v23 v24) (tb_o tb_666) rfl tb_663 tb_664 tb_665 rfl (by decide +kernel) ⟨Nat.le_trans (by decide) hfr, Nat.le_trans (Nat.le_of_ble_eq_true rfl) hlo⟩ rfl (Nat.le_of_ble_eq_true rfl) rfl dX10_purge_39 hF (fun v25 h H locs hF A => ?_)
          show W _ _ _ _ _ _ _ _ _ _ _ _ _ _ _ (F0 m 42 ls [.ref v23, .ref x0])
          refine mo_wpV C A (T := TX10) iX10 tyX10 tyX10_ok nmX10 rfl 3 (by decide) tb_660 rfl rfl rfl rfl dX10_purge_42 hF (fun h H locs hF A => ?_)
          exact J45 x0 x1 h H locs ls A (lv_sub hl [0, 1] rfl) hF
        · refine lv_ifnonnull (tgt := 45) hx hb dX10_purge_27 (by decide) ?_
          exact J45 x0 x1 h H locs ls A (lv_sub hl [0, 1] rfl) hF
      · have hF := mo_ifT c20 hF
        refine lv_iconst (v := (-1 : Int32)) hx hb dX10_purge_21 (by decide) ?_
        rw [hQ]
        exact mo_iret C A hr hlocks dX10_purge_22 hF
  exact E h0 s.heap [] hF A
set_option maxHeartbeats 4000000 in
set_option maxRecDepth 100000 in
theorem c_X10_kept (l : Launch) (D : va_G) (dA : Nat → ClassId) (b0 : Nat) (x0 : Nat) (x1 : Int32) : mo_Met l yX10_kept [Cond.code yX10_kept cX10_kept 2 (some .int)] 0 0 D dA b0 [.ref x0, .int x1] (fun r : Int32 => some (.int r)) (F_X10_kept x0 x1) := by
  refine mo_MetOf (own := RX10) (by decide) (Nat.le_of_ble_eq_true rfl) [(0, .ref x0), (1, .int x1)] rfl rfl ?_
  intro p e R s m args below meth c Q h0 h2 z ls hQ C hml hr hlocks hnm hfr hlo hF A hl
  have hx := C.1
  have hb := C.2.1
  have hown := C.2.2.1
  have hts := C.2.2.2.1
  have hK := C.2.2.2.2.1
  have iX8 := inlX8
  have iX10 := inlX10
  unfold F_X10_kept at hF
  obtain ⟨-, hF⟩ := mo_ckE hF
  have E : ∀ (h : mo_H) (H : Heap) (locs : List Loc), (mo_b (mo_gO x0 10 3) fun v1 => (mo_mO v1 (mo_ret (-1 : Int32)) (fun a2 => (if x1 < 0 then mo_ret (-1 : Int32) else mo_b (mo_gO x0 10 3) fun v4 => (mo_mO v4 mo_no (fun a5 => mo_b (mo_gI a5 8 3) fun v6 => (if x1 < v6 then mo_b (mo_gO x0 10 3) fun v8 => (mo_mO v8 mo_no (fun a9 => mo_b (mo_gR a9 8 2) fun v10 => mo_b (mo_la 1 v10 x1) fun v11 => (if v11 = 0 then mo_ret (0 : Int32) else mo_ret (1 : Int32)))) else mo_ret (-1 : Int32)))))))).1 h = some (z, h2) → mo_A D dA b0 s.heap h0 h H locs → W p l e R s m args below meth c H locs (h.2.1 - h0.2.1) (h.2.2 - h0.2.2) Q (F0 m 0 ls []) := by
    intro h H locs hF A
    refine lv_aload_n hx hb dX10_kept_0 rfl (lv_at hl 0 rfl) ?_
    refine mo_wO C A (T := TX10) iX10 rfl 3 (by decide) tb_660 rfl dX10_kept_1 hF (fun v1 hF => ?_)
    rcases v1 with _ | a2
    · refine lv_ifnullN (tgt := 22) hx hb dX10_kept_4 (by decide) ?_
      refine lv_iconst (v := (-1 : Int32)) hx hb dX10_kept_22 (by decide) ?_
      rw [hQ]
      exact mo_iret C A hr hlocks dX10_kept_23 hF
    · refine lv_ifnull hx hb dX10_kept_4 ?_
      refine lv_iload_n hx hb dX10_kept_7 rfl (lv_at hl 1 rfl) ?_
      refine lv_if_lt (tgt := 22) hx hb dX10_kept_8 (by decide) (fun c3 => ?_) (fun c3 => ?_)
      · have hF := mo_ifT c3 hF
        refine lv_iconst (v := (-1 : Int32)) hx hb dX10_kept_22 (by decide) ?_
        rw [hQ]
        exact mo_iret C A hr hlocks dX10_kept_23 hF
      · have hF := mo_ifF c3 hF
        refine lv_iload_n hx hb dX10_kept_11 rfl (lv_at hl 1 rfl) ?_
        refine lv_aload_n hx hb dX10_kept_12 rfl (lv_at hl 0 rfl) ?_
        refine mo_wO C A (T := TX10) iX10 rfl 3 (by decide) tb_660 rfl dX10_kept_13 hF (fun v4 hF => ?_)
        rcases v4 with _ | a5
        · cases hF
        refine mo_wIN C A (T := TX8) iX8 rfl 3 (by decide) (List.mem_of_getElem? (i := 80) rfl) rfl dX10_kept_16 hF (fun v6 hF => ?_)
        refine lv_icmp_lt (tgt := 24) hx hb dX10_kept_19 (by decide) (fun c7 => ?_) (fun c7 => ?_)
        · have hF := mo_ifT c7 hF
          refine lv_aload_n hx hb dX10_kept_24 rfl (lv_at hl 0 rfl) ?_
          refine mo_wO C A (T := TX10) iX10 rfl 3 (by decide) tb_660 rfl dX10_kept_25 hF (fun v8 hF => ?_)
          rcases v8 with _ | a9
          · cases hF
          refine mo_wRN C A (T := TX8) iX8 rfl 2 (by decide) (List.mem_of_getElem? (i := 79) rfl) rfl dX10_kept_28 hF (fun v10 hF => ?_)
          refine lv_iload_n hx hb dX10_kept_31 rfl (lv_at hl 1 rfl) ?_
          refine mo_wlz C A dX10_kept_32 hF (fun v11 hF => ?_)
          refine lv_if_eq (tgt := 40) hx hb dX10_kept_33 (by decide) (fun c12 => ?_) (fun c12 => ?_)
          · have hF := mo_ifT c12 hF
            refine lv_iconst (v := (0 : Int32)) hx hb dX10_kept_40 (by decide) ?_
            rw [hQ]
            exact mo_iret C A hr hlocks dX10_kept_41 hF
          · have hF := mo_ifF c12 hF
            refine lv_iconst (v := (1 : Int32)) hx hb dX10_kept_36 (by decide) ?_
            refine lv_goto (tgt := 41) hx hb dX10_kept_37 (by decide) ?_
            rw [hQ]
            exact mo_iret C A hr hlocks dX10_kept_41 hF
        · have hF := mo_ifF c7 hF
          refine lv_iconst (v := (-1 : Int32)) hx hb dX10_kept_22 (by decide) ?_
          rw [hQ]
          exact mo_iret C A hr hlocks dX10_kept_23 hF
  exact E h0 s.heap [] hF A
