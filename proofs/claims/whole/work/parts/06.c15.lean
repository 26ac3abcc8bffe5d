set_option maxHeartbeats 4000000 in
set_option maxRecDepth 100000 in
theorem c_X11_register (l : Launch) (D : va_G) (dA : Nat → ClassId) (b0 : Nat) (x0 : Nat) (x1 : Int32) (x2 : Int32) : mo_Met l yX11_register [Cond.code yX11_register cX11_register 3 (some .int)] 1 21 D dA b0 [.ref x0, .int x1, .int x2] (fun r : Int32 => some (.int r)) (F_X11_register x0 x1 x2) := by
  refine mo_MetOf (own := RX11) (by decide) (Nat.le_of_ble_eq_true rfl) [(0, .ref x0), (1, .int x1), (2, .int x2)] rfl rfl ?_
  intro p e R s m args below meth c Q h0 h2 z ls hQ C hml hr hlocks hnm hfr hlo hF A hl
  have hx := C.1
  have hb := C.2.1
  have hown := C.2.2.1
  have hts := C.2.2.2.1
  have hK := C.2.2.2.2.1
  have iX11 := inlX11
  unfold F_X11_register at hF
  obtain ⟨-, hF⟩ := mo_ckE hF
  have E : ∀ (h : mo_H) (H : Heap) (locs : List Loc), (mo_b (F_X11_isDomain x0 x1) fun v1 => (if v1 = 0 then mo_ret (0 : Int32) else (if x2 < 0 then mo_ret (0 : Int32) else (if (8 : Int32) ≤ x2 then mo_ret (0 : Int32) else mo_b (mo_gR x0 11 19) fun v5 => mo_b (mo_la 0 v5 (((8 : Int32) * x1) + x2)) fun v6 => mo_ret v6)))).1 h = some (z, h2) → mo_A D dA b0 s.heap h0 h H locs → W p l e R s m args below meth c H locs (h.2.1 - h0.2.1) (h.2.2 - h0.2.2) Q (F0 m 0 ls []) := by
    intro h H locs hF A
    refine lv_aload_n hx hb dX11_register_0 rfl (lv_at hl 0 rfl) ?_
    refine lv_iload_n hx hb dX11_register_1 rfl (lv_at hl 1 rfl) ?_
    refine mo_cV (n := 1) (As := [.int x1]) (rest := []) C A hml hl.1 (c_X11_isDomain l D dA b0 x0 x1) (ci := 11) (q := (RX11, TX11, 56)) rfl (fun _ e => (mo_ckE e).1) (tb_v tb_198 tb_199 tb_200 tb_5 tb_201) rfl (by decide +kernel) ⟨Nat.le_trans (by decide) hfr, Nat.le_trans (Nat.le_of_ble_eq_true rfl) hlo⟩ rfl (Nat.le_of_ble_eq_true rfl) rfl dX11_register_2 hF (fun v1 h H locs hF A => ?_)
    show W _ _ _ _ _ _ _ _ _ _ _ _ _ _ _ (F0 m 5 ls [.int v1])
    refine lv_if_eq (tgt := 32) hx hb dX11_register_5 (by decide) (fun c2 => ?_) (fun c2 => ?_)
    · have hF := mo_ifT c2 hF
      refine lv_iconst (v := (0 : Int32)) hx hb dX11_register_32 (by decide) ?_
      rw [hQ]
      exact mo_iret C A hr hlocks dX11_register_33 hF
    · have hF := mo_ifF c2 hF
      refine lv_iload_n hx hb dX11_register_8 rfl (lv_at hl 2 rfl) ?_
      refine lv_if_lt (tgt := 32) hx hb dX11_register_9 (by decide) (fun c3 => ?_) (fun c3 => ?_)
      · have hF := mo_ifT c3 hF
        refine lv_iconst (v := (0 : Int32)) hx hb dX11_register_32 (by decide) ?_
        rw [hQ]
        exact mo_iret C A hr hlocks dX11_register_33 hF
      · have hF := mo_ifF c3 hF
        refine lv_iload_n hx hb dX11_register_12 rfl (lv_at hl 2 rfl) ?_
        refine lv_bipush (v := (8 : Int32)) hx hb dX11_register_13 (by decide) ?_
        refine lv_icmp_ge (tgt := 32) hx hb dX11_register_15 (by decide) (fun c4 => ?_) (fun c4 => ?_)
        · have hF := mo_ifT c4 hF
          refine lv_iconst (v := (0 : Int32)) hx hb dX11_register_32 (by decide) ?_
          rw [hQ]
          exact mo_iret C A hr hlocks dX11_register_33 hF
        · have hF := mo_ifF c4 hF
          refine lv_aload_n hx hb dX11_register_18 rfl (lv_at hl 0 rfl) ?_
          refine mo_wR C A (T := TX11) iX11 rfl 19 (by decide) tb_136 rfl dX11_register_19 hF (fun v5 hF => ?_)
          refine lv_bipush (v := (8 : Int32)) hx hb dX11_register_22 (by decide) ?_
          refine lv_iload_n hx hb dX11_register_24 rfl (lv_at hl 1 rfl) ?_
          refine lv_imul hx hb dX11_register_25 ?_
          refine lv_iload_n hx hb dX11_register_26 rfl (lv_at hl 2 rfl) ?_
          refine lv_iadd hx hb dX11_register_27 ?_
          refine mo_wla C A dX11_register_28 hF (fun v6 hF => ?_)
          refine lv_goto (tgt := 33) hx hb dX11_register_29 (by decide) ?_
          rw [hQ]
          exact mo_iret C A hr hlocks dX11_register_33 hF
  exact E h0 s.heap [] hF A
set_option maxHeartbeats 4000000 in
set_option maxRecDepth 100000 in
theorem c_X11_cell (l : Launch) (D : va_G) (dA : Nat → ClassId) (b0 : Nat) (x0 : Nat) (x1 : Int32) (x2 : Int32) : mo_Met l yX11_cell [Cond.code yX11_cell cX11_cell 3 (some .int)] 1 21 D dA b0 [.ref x0, .int x1, .int x2] (fun r : Int32 => some (.int r)) (F_X11_cell x0 x1 x2) := by
  refine mo_MetOf (own := RX11) (by decide) (Nat.le_of_ble_eq_true rfl) [(0, .ref x0), (1, .int x1), (2, .int x2)] rfl rfl ?_
  intro p e R s m args below meth c Q h0 h2 z ls hQ C hml hr hlocks hnm hfr hlo hF A hl
  have hx := C.1
  have hb := C.2.1
  have hown := C.2.2.1
  have hts := C.2.2.2.1
  have hK := C.2.2.2.2.1
  have iX11 := inlX11
  unfold F_X11_cell at hF
  obtain ⟨-, hF⟩ := mo_ckE hF
  have E : ∀ (h : mo_H) (H : Heap) (locs : List Loc), (mo_b (F_X11_isDomain x0 x1) fun v1 => (if v1 = 0 then mo_ret (0 : Int32) else (if x2 < 0 then mo_ret (0 : Int32) else (if (32 : Int32) ≤ x2 then mo_ret (0 : Int32) else mo_b (mo_gR x0 11 20) fun v5 => mo_b (mo_la 0 v5 (((32 : Int32) * x1) + x2)) fun v6 => mo_ret v6)))).1 h = some (z, h2) → mo_A D dA b0 s.heap h0 h H locs → W p l e R s m args below meth c H locs (h.2.1 - h0.2.1) (h.2.2 - h0.2.2) Q (F0 m 0 ls []) := by
    intro h H locs hF A
    refine lv_aload_n hx hb dX11_cell_0 rfl (lv_at hl 0 rfl) ?_
    refine lv_iload_n hx hb dX11_cell_1 rfl (lv_at hl 1 rfl) ?_
    refine mo_cV (n := 1) (As := [.int x1]) (rest := []) C A hml hl.1 (c_X11_isDomain l D dA b0 x0 x1) (ci := 11) (q := (RX11, TX11, 56)) rfl (fun _ e => (mo_ckE e).1) (tb_v tb_198 tb_199 tb_200 tb_5 tb_201) rfl (by decide +kernel) ⟨Nat.le_trans (by decide) hfr, Nat.le_trans (Nat.le_of_ble_eq_true rfl) hlo⟩ rfl (Nat.le_of_ble_eq_true rfl) rfl dX11_cell_2 hF (fun v1 h H locs hF A => ?_)
    show W _ _ _ _ _ _ _ _ _ _ _ _ _ _ _ (F0 m 5 ls [.int v1])
    refine lv_if_eq (tgt := 32) hx hb dX11_cell_5 (by decide) (fun c2 => ?_) (fun c2 => ?_)
    · have hF := mo_ifT c2 hF
      refine lv_iconst (v := (0 : Int32)) hx hb dX11_cell_32 (by decide) ?_
      rw [hQ]
      exact mo_iret C A hr hlocks dX11_cell_33 hF
    · have hF := mo_ifF c2 hF
      refine lv_iload_n hx hb dX11_cell_8 rfl (lv_at hl 2 rfl) ?_
      refine lv_if_lt (tgt := 32) hx hb dX11_cell_9 (by decide) (fun c3 => ?_) (fun c3 => ?_)
      · have hF := mo_ifT c3 hF
        refine lv_iconst (v := (0 : Int32)) hx hb dX11_cell_32 (by decide) ?_
        rw [hQ]
        exact mo_iret C A hr hlocks dX11_cell_33 hF
      · have hF := mo_ifF c3 hF
        refine lv_iload_n hx hb dX11_cell_12 rfl (lv_at hl 2 rfl) ?_
        refine lv_bipush (v := (32 : Int32)) hx hb dX11_cell_13 (by decide) ?_
        refine lv_icmp_ge (tgt := 32) hx hb dX11_cell_15 (by decide) (fun c4 => ?_) (fun c4 => ?_)
        · have hF := mo_ifT c4 hF
          refine lv_iconst (v := (0 : Int32)) hx hb dX11_cell_32 (by decide) ?_
          rw [hQ]
          exact mo_iret C A hr hlocks dX11_cell_33 hF
        · have hF := mo_ifF c4 hF
          refine lv_aload_n hx hb dX11_cell_18 rfl (lv_at hl 0 rfl) ?_
          refine mo_wR C A (T := TX11) iX11 rfl 20 (by decide) tb_137 rfl dX11_cell_19 hF (fun v5 hF => ?_)
          refine lv_bipush (v := (32 : Int32)) hx hb dX11_cell_22 (by decide) ?_
          refine lv_iload_n hx hb dX11_cell_24 rfl (lv_at hl 1 rfl) ?_
          refine lv_imul hx hb dX11_cell_25 ?_
          refine lv_iload_n hx hb dX11_cell_26 rfl (lv_at hl 2 rfl) ?_
          refine lv_iadd hx hb dX11_cell_27 ?_
          refine mo_wla C A dX11_cell_28 hF (fun v6 hF => ?_)
          refine lv_goto (tgt := 33) hx hb dX11_cell_29 (by decide) ?_
          rw [hQ]
          exact mo_iret C A hr hlocks dX11_cell_33 hF
  exact E h0 s.heap [] hF A
set_option maxHeartbeats 4000000 in
set_option maxRecDepth 100000 in
theorem c_X11_of (l : Launch) (D : va_G) (dA : Nat → ClassId) (b0 : Nat) (x0 : Nat) (x1 : Int32) (x2 : Int32) : mo_Met l yX11_of [Cond.code yX11_of cX11_of 3 (some .int)] 2 45 D dA b0 [.ref x0, .int x1, .int x2] (fun r : Int32 => some (.int r)) (F_X11_of x0 x1 x2) := by
  refine mo_MetOf (own := RX11) (by decide) (Nat.le_of_ble_eq_true rfl) [(0, .ref x0), (1, .int x1), (2, .int x2)] rfl rfl ?_
  intro p e R s m args below meth c Q h0 h2 z ls hQ C hml hr hlocks hnm hfr hlo hF A hl
  have hx := C.1
  have hb := C.2.1
  have hown := C.2.2.1
  have hts := C.2.2.2.1
  have hK := C.2.2.2.2.1
  have iX11 := inlX11
  unfold F_X11_of at hF
  obtain ⟨-, hF⟩ := mo_ckE hF
  have E : ∀ (h : mo_H) (H : Heap) (locs : List Loc), (mo_b (F_X11_isDomain x0 x1) fun v1 => (if v1 = 0 then mo_ret (-1 : Int32) else (if x2 = (0 : Int32) then mo_b (mo_gR x0 11 21) fun v4 => mo_b (mo_la 0 v4 x1) fun v5 => mo_ret v5 else (if x2 = (1 : Int32) then mo_b (mo_gR x0 11 22) fun v7 => mo_b (mo_la 0 v7 x1) fun v8 => mo_ret v8 else (if x2 = (2 : Int32) then mo_b (mo_gR x0 11 24) fun v10 => mo_b (mo_la 0 v10 x1) fun v11 => mo_ret v11 else (if x2 = (3 : Int32) then mo_b (mo_gR x0 11 26) fun v13 => mo_b (mo_la 0 v13 x1) fun v14 => mo_ret v14 else (if x2 = (4 : Int32) then mo_b (mo_gR x0 11 27) fun v16 => mo_b (mo_la 0 v16 x1) fun v17 => mo_ret v17 else (if x2 = (5 : Int32) then mo_b (mo_gR x0 11 28) fun v19 => mo_b (mo_la 0 v19 x1) fun v20 => mo_ret v20 else (if x2 = (6 : Int32) then mo_b (mo_gR x0 11 29) fun v22 => mo_b (mo_la 0 v22 x1) fun v23 => mo_ret v23 else (if x2 = (7 : Int32) then mo_b (F_X11_reigns x0 x1) fun v25 => (if v25 = 0 then mo_ret (0 : Int32) else mo_ret (1 : Int32)) else mo_ret (-1 : Int32))))))))))).1 h = some (z, h2) → mo_A D dA b0 s.heap h0 h H locs → W p l e R s m args below meth c H locs (h.2.1 - h0.2.1) (h.2.2 - h0.2.2) Q (F0 m 0 ls []) := by
    intro h H locs hF A
    refine lv_aload_n hx hb dX11_of_0 rfl (lv_at hl 0 rfl) ?_
    refine lv_iload_n hx hb dX11_of_1 rfl (lv_at hl 1 rfl) ?_
    refine mo_cV (n := 1) (As := [.int x1]) (rest := []) C A hml hl.1 (c_X11_isDomain l D dA b0 x0 x1) (ci := 11) (q := (RX11, TX11, 56)) rfl (fun _ e => (mo_ckE e).1) (tb_v tb_198 tb_199 tb_200 tb_5 tb_201) rfl (by decide +kernel) ⟨Nat.le_trans (by decide) hfr, Nat.le_trans (Nat.le_of_ble_eq_true rfl) hlo⟩ rfl (Nat.le_of_ble_eq_true rfl) rfl dX11_of_2 hF (fun v1 h H locs hF A => ?_)
    show W _ _ _ _ _ _ _ _ _ _ _ _ _ _ _ (F0 m 5 ls [.int v1])
    refine lv_if_ne (tgt := 10) hx hb dX11_of_5 (by decide) (fun c2 => ?_) (fun c2 => ?_)
    · have hF := mo_ifF c2 hF
      refine lv_iload_n hx hb dX11_of_10 rfl (lv_at hl 2 rfl) ?_
      by_cases c3 : x2 = (0 : Int32)
      · have hF := mo_ifT c3 hF
        refine mo_tsI hx hb (0 : Int32) (tgt := 56) (off := 45) dX11_of_11 c3 (by decide) (by decide) rfl (by decide) ?_
        refine lv_aload_n hx hb dX11_of_56 rfl (lv_at hl 0 rfl) ?_
        refine mo_wR C A (T := TX11) iX11 rfl 21 (by decide) tb_138 rfl dX11_of_57 hF (fun v4 hF => ?_)
        refine lv_iload_n hx hb dX11_of_60 rfl (lv_at hl 1 rfl) ?_
        refine mo_wla C A dX11_of_61 hF (fun v5 hF => ?_)
        rw [hQ]
        exact mo_iret C A hr hlocks dX11_of_62 hF
      have hF := mo_ifF c3 hF
      by_cases c6 : x2 = (1 : Int32)
      · have hF := mo_ifT c6 hF
        refine mo_tsI hx hb (1 : Int32) (tgt := 63) (off := 52) dX11_of_11 c6 (by decide) (by decide) rfl (by decide) ?_
        refine lv_aload_n hx hb dX11_of_63 rfl (lv_at hl 0 rfl) ?_
        refine mo_wR C A (T := TX11) iX11 rfl 22 (by decide) tb_139 rfl dX11_of_64 hF (fun v7 hF => ?_)
        refine lv_iload_n hx hb dX11_of_67 rfl (lv_at hl 1 rfl) ?_
        refine mo_wla C A dX11_of_68 hF (fun v8 hF => ?_)
        rw [hQ]
        exact mo_iret C A hr hlocks dX11_of_69 hF
      have hF := mo_ifF c6 hF
      by_cases c9 : x2 = (2 : Int32)
      · have hF := mo_ifT c9 hF
        refine mo_tsI hx hb (2 : Int32) (tgt := 70) (off := 59) dX11_of_11 c9 (by decide) (by decide) rfl (by decide) ?_
        refine lv_aload_n hx hb dX11_of_70 rfl (lv_at hl 0 rfl) ?_
        refine mo_wR C A (T := TX11) iX11 rfl 24 (by decide) tb_141 rfl dX11_of_71 hF (fun v10 hF => ?_)
        refine lv_iload_n hx hb dX11_of_74 rfl (lv_at hl 1 rfl) ?_
        refine mo_wla C A dX11_of_75 hF (fun v11 hF => ?_)
        rw [hQ]
        exact mo_iret C A hr hlocks dX11_of_76 hF
      have hF := mo_ifF c9 hF
      by_cases c12 : x2 = (3 : Int32)
      · have hF := mo_ifT c12 hF
        refine mo_tsI hx hb (3 : Int32) (tgt := 77) (off := 66) dX11_of_11 c12 (by decide) (by decide) rfl (by decide) ?_
        refine lv_aload_n hx hb dX11_of_77 rfl (lv_at hl 0 rfl) ?_
        refine mo_wR C A (T := TX11) iX11 rfl 26 (by decide) tb_143 rfl dX11_of_78 hF (fun v13 hF => ?_)
        refine lv_iload_n hx hb dX11_of_81 rfl (lv_at hl 1 rfl) ?_
        refine mo_wla C A dX11_of_82 hF (fun v14 hF => ?_)
        rw [hQ]
        exact mo_iret C A hr hlocks dX11_of_83 hF
      have hF := mo_ifF c12 hF
      by_cases c15 : x2 = (4 : Int32)
      · have hF := mo_ifT c15 hF
        refine mo_tsI hx hb (4 : Int32) (tgt := 84) (off := 73) dX11_of_11 c15 (by decide) (by decide) rfl (by decide) ?_
        refine lv_aload_n hx hb dX11_of_84 rfl (lv_at hl 0 rfl) ?_
        refine mo_wR C A (T := TX11) iX11 rfl 27 (by decide) tb_144 rfl dX11_of_85 hF (fun v16 hF => ?_)
        refine lv_iload_n hx hb dX11_of_88 rfl (lv_at hl 1 rfl) ?_
        refine mo_wla C A dX11_of_89 hF (fun v17 hF => ?_)
        rw [hQ]
        exact mo_iret C A hr hlocks dX11_of_90 hF
      have hF := mo_ifF c15 hF
      by_cases c18 : x2 = (5 : Int32)
      · have hF := mo_ifT c18 hF
        refine mo_tsI hx hb (5 : Int32) (tgt := 91) (off := 80) dX11_of_11 c18 (by decide) (by decide) rfl (by decide) ?_
        refine lv_aload_n hx hb dX11_of_91 rfl (lv_at hl 0 rfl) ?_
        refine mo_wR C A (T := TX11) iX11 rfl 28 (by decide) tb_145 rfl dX11_of_92 hF (fun v19 hF => ?_)
        refine lv_iload_n hx hb dX11_of_95 rfl (lv_at hl 1 rfl) ?_
        refine mo_wla C A dX11_of_96 hF (fun v20 hF => ?_)
        rw [hQ]
        exact mo_iret C A hr hlocks dX11_of_97 hF
      have hF := mo_ifF c18 hF
      by_cases c21 : x2 = (6 : Int32)
      · have hF := mo_ifT c21 hF
        refine mo_tsI hx hb (6 : Int32) (tgt := 98) (off := 87) dX11_of_11 c21 (by decide) (by decide) rfl (by decide) ?_
        refine lv_aload_n hx hb dX11_of_98 rfl (lv_at hl 0 rfl) ?_
        refine mo_wR C A (T := TX11) iX11 rfl 29 (by decide) tb_146 rfl dX11_of_99 hF (fun v22 hF => ?_)
        refine lv_iload_n hx hb dX11_of_102 rfl (lv_at hl 1 rfl) ?_
        refine mo_wla C A dX11_of_103 hF (fun v23 hF => ?_)
        rw [hQ]
        exact mo_iret C A hr hlocks dX11_of_104 hF
      have hF := mo_ifF c21 hF
      by_cases c24 : x2 = (7 : Int32)
      · have hF := mo_ifT c24 hF
        refine mo_tsI hx hb (7 : Int32) (tgt := 105) (off := 94) dX11_of_11 c24 (by decide) (by decide) rfl (by decide) ?_
        refine lv_aload_n hx hb dX11_of_105 rfl (lv_at hl 0 rfl) ?_
        refine lv_iload_n hx hb dX11_of_106 rfl (lv_at hl 1 rfl) ?_
        refine mo_cV (n := 1) (As := [.int x1]) (rest := []) C A hml hl.1 (c_X11_reigns l D dA b0 x0 x1) (ci := 11) (q := (RX11, TX11, 56)) rfl (fun _ e => (mo_ckE e).1) (tb_v tb_584 tb_585 tb_586 tb_5 tb_587) rfl (by decide +kernel) ⟨Nat.le_trans (by decide) hfr, Nat.le_trans (Nat.le_of_ble_eq_true rfl) hlo⟩ rfl (Nat.le_of_ble_eq_true rfl) rfl dX11_of_107 hF (fun v25 h H locs hF A => ?_)
        show W _ _ _ _ _ _ _ _ _ _ _ _ _ _ _ (F0 m 110 ls [.int v25])
        refine lv_if_eq (tgt := 117) hx hb dX11_of_110 (by decide) (fun c26 => ?_) (fun c26 => ?_)
        · have hF := mo_ifT c26 hF
          refine lv_iconst (v := (0 : Int32)) hx hb dX11_of_117 (by decide) ?_
          rw [hQ]
          exact mo_iret C A hr hlocks dX11_of_118 hF
        · have hF := mo_ifF c26 hF
          refine lv_iconst (v := (1 : Int32)) hx hb dX11_of_113 (by decide) ?_
          refine lv_goto (tgt := 118) hx hb dX11_of_114 (by decide) ?_
          rw [hQ]
          exact mo_iret C A hr hlocks dX11_of_118 hF
      have hF := mo_ifF c24 hF
      refine mo_tsD hx hb [(0 : Int32), (1 : Int32), (2 : Int32), (3 : Int32), (4 : Int32), (5 : Int32), (6 : Int32), (7 : Int32)] (tgt := 119) dX11_of_11 (List.forall_mem_cons.mpr ⟨c3, (List.forall_mem_cons.mpr ⟨c6, (List.forall_mem_cons.mpr ⟨c9, (List.forall_mem_cons.mpr ⟨c12, (List.forall_mem_cons.mpr ⟨c15, (List.forall_mem_cons.mpr ⟨c18, (List.forall_mem_cons.mpr ⟨c21, (List.forall_mem_cons.mpr ⟨c24, (fun _ h => absurd h List.not_mem_nil)⟩)⟩)⟩)⟩)⟩)⟩)⟩)⟩) (by decide) (by decide) (by decide) ?_
      refine lv_iconst (v := (-1 : Int32)) hx hb dX11_of_119 (by decide) ?_
      rw [hQ]
      exact mo_iret C A hr hlocks dX11_of_120 hF
    · have hF := mo_ifT c2 hF
      refine lv_iconst (v := (-1 : Int32)) hx hb dX11_of_8 (by decide) ?_
      rw [hQ]
      exact mo_iret C A hr hlocks dX11_of_9 hF
  exact E h0 s.heap [] hF A
set_option maxHeartbeats 4000000 in
set_option maxRecDepth 100000 in
theorem c_X11_output (l : Launch) (D : va_G) (dA : Nat → ClassId) (b0 : Nat) (x0 : Nat) (x1 : Int32) (x2 : Int32) : mo_Met l yX11_output [Cond.code yX11_output cX11_output 3 (some .int)] 1 21 D dA b0 [.ref x0, .int x1, .int x2] (fun r : Int32 => some (.int r)) (F_X11_output x0 x1 x2) := by
  refine mo_MetOf (own := RX11) (by decide) (Nat.le_of_ble_eq_true rfl) [(0, .ref x0), (1, .int x1), (2, .int x2)] rfl rfl ?_
  intro p e R s m args below meth c Q h0 h2 z ls hQ C hml hr hlocks hnm hfr hlo hF A hl
  have hx := C.1
  have hb := C.2.1
  have hown := C.2.2.1
  have hts := C.2.2.2.1
  have hK := C.2.2.2.2.1
  have iX11 := inlX11
  unfold F_X11_output at hF
  obtain ⟨-, hF⟩ := mo_ckE hF
  have E : ∀ (h : mo_H) (H : Heap) (locs : List Loc), (mo_b (F_X11_isDomain x0 x1) fun v1 => (if v1 = 0 then mo_ret (0 : Int32) else (if x2 < 0 then mo_ret (0 : Int32) else mo_b (mo_gR x0 11 26) fun v4 => mo_b (mo_la 0 v4 x1) fun v5 => (if v5 ≤ x2 then mo_ret (0 : Int32) else mo_b (mo_gR x0 11 25) fun v7 => mo_b (mo_la 0 v7 (((200 : Int32) * x1) + x2)) fun v8 => mo_ret v8)))).1 h = some (z, h2) → mo_A D dA b0 s.heap h0 h H locs → W p l e R s m args below meth c H locs (h.2.1 - h0.2.1) (h.2.2 - h0.2.2) Q (F0 m 0 ls []) := by
    intro h H locs hF A
    refine lv_aload_n hx hb dX11_output_0 rfl (lv_at hl 0 rfl) ?_
    refine lv_iload_n hx hb dX11_output_1 rfl (lv_at hl 1 rfl) ?_
    refine mo_cV (n := 1) (As := [.int x1]) (rest := []) C A hml hl.1 (c_X11_isDomain l D dA b0 x0 x1) (ci := 11) (q := (RX11, TX11, 56)) rfl (fun _ e => (mo_ckE e).1) (tb_v tb_198 tb_199 tb_200 tb_5 tb_201) rfl (by decide +kernel) ⟨Nat.le_trans (by decide) hfr, Nat.le_trans (Nat.le_of_ble_eq_true rfl) hlo⟩ rfl (Nat.le_of_ble_eq_true rfl) rfl dX11_output_2 hF (fun v1 h H locs hF A => ?_)
    show W _ _ _ _ _ _ _ _ _ _ _ _ _ _ _ (F0 m 5 ls [.int v1])
    refine lv_if_eq (tgt := 37) hx hb dX11_output_5 (by decide) (fun c2 => ?_) (fun c2 => ?_)
    · have hF := mo_ifT c2 hF
      refine lv_iconst (v := (0 : Int32)) hx hb dX11_output_37 (by decide) ?_
      rw [hQ]
      exact mo_iret C A hr hlocks dX11_output_38 hF
    · have hF := mo_ifF c2 hF
      refine lv_iload_n hx hb dX11_output_8 rfl (lv_at hl 2 rfl) ?_
      refine lv_if_lt (tgt := 37) hx hb dX11_output_9 (by decide) (fun c3 => ?_) (fun c3 => ?_)
      · have hF := mo_ifT c3 hF
        refine lv_iconst (v := (0 : Int32)) hx hb dX11_output_37 (by decide) ?_
        rw [hQ]
        exact mo_iret C A hr hlocks dX11_output_38 hF
      · have hF := mo_ifF c3 hF
        refine lv_iload_n hx hb dX11_output_12 rfl (lv_at hl 2 rfl) ?_
        refine lv_aload_n hx hb dX11_output_13 rfl (lv_at hl 0 rfl) ?_
        refine mo_wR C A (T := TX11) iX11 rfl 26 (by decide) tb_143 rfl dX11_output_14 hF (fun v4 hF => ?_)
        refine lv_iload_n hx hb dX11_output_17 rfl (lv_at hl 1 rfl) ?_
        refine mo_wla C A dX11_output_18 hF (fun v5 hF => ?_)
        refine lv_icmp_ge (tgt := 37) hx hb dX11_output_19 (by decide) (fun c6 => ?_) (fun c6 => ?_)
        · have hF := mo_ifT c6 hF
          refine lv_iconst (v := (0 : Int32)) hx hb dX11_output_37 (by decide) ?_
          rw [hQ]
          exact mo_iret C A hr hlocks dX11_output_38 hF
        · have hF := mo_ifF c6 hF
          refine lv_aload_n hx hb dX11_output_22 rfl (lv_at hl 0 rfl) ?_
          refine mo_wR C A (T := TX11) iX11 rfl 25 (by decide) tb_142 rfl dX11_output_23 hF (fun v7 hF => ?_)
          refine lv_sipush (v := (200 : Int32)) hx hb dX11_output_26 (by decide) ?_
          refine lv_iload_n hx hb dX11_output_29 rfl (lv_at hl 1 rfl) ?_
          refine lv_imul hx hb dX11_output_30 ?_
          refine lv_iload_n hx hb dX11_output_31 rfl (lv_at hl 2 rfl) ?_
          refine lv_iadd hx hb dX11_output_32 ?_
          refine mo_wla C A dX11_output_33 hF (fun v8 hF => ?_)
          refine lv_goto (tgt := 38) hx hb dX11_output_34 (by decide) ?_
          rw [hQ]
          exact mo_iret C A hr hlocks dX11_output_38 hF
  exact E h0 s.heap [] hF A
set_option maxHeartbeats 4000000 in
set_option maxRecDepth 100000 in
theorem c_X11_at (l : Launch) (D : va_G) (dA : Nat → ClassId) (b0 : Nat) (x0 : Nat) (x1 : Int32) (x2 : Int32) : mo_Met l yX11_at [Cond.code yX11_at cX11_at 3 (some .int)] 1 22 D dA b0 [.ref x0, .int x1, .int x2] (fun r : Int32 => some (.int r)) (F_X11_at x0 x1 x2) := by
  refine mo_MetOf (own := RX11) (by decide) (Nat.le_of_ble_eq_true rfl) [(0, .ref x0), (1, .int x1), (2, .int x2)] rfl rfl ?_
  intro p e R s m args below meth c Q h0 h2 z ls hQ C hml hr hlocks hnm hfr hlo hF A hl
  have hx := C.1
  have hb := C.2.1
  have hown := C.2.2.1
  have hts := C.2.2.2.1
  have hK := C.2.2.2.2.1
  have iX11 := inlX11
  unfold F_X11_at at hF
  obtain ⟨-, hF⟩ := mo_ckE hF
  have E : ∀ (h : mo_H) (H : Heap) (locs : List Loc), ((if x1 < 0 then mo_ret (-1 : Int32) else mo_b (mo_gI x0 11 2) fun v2 => (if x1 < v2 then (if x2 = (0 : Int32) then mo_b (mo_gR x0 11 3) fun v5 => mo_b (mo_la 0 v5 x1) fun v6 => mo_ret v6 else (if x2 = (1 : Int32) then mo_b (mo_gR x0 11 4) fun v8 => mo_b (mo_la 0 v8 x1) fun v9 => mo_ret v9 else (if x2 = (2 : Int32) then mo_b (mo_gR x0 11 5) fun v11 => mo_b (mo_la 1 v11 x1) fun v12 => (if v12 = 0 then mo_ret (0 : Int32) else mo_ret (1 : Int32)) else (if x2 = (3 : Int32) then mo_b (mo_gR x0 11 6) fun v15 => mo_b (mo_la 0 v15 x1) fun v16 => mo_ret v16 else (if x2 = (4 : Int32) then mo_b (mo_gR x0 11 32) fun v18 => mo_b (mo_la 0 v18 x1) fun v19 => mo_ret v19 else (if x2 = (5 : Int32) then mo_b (mo_gR x0 11 35) fun v21 => mo_b (mo_la 0 v21 x1) fun v22 => mo_ret v22 else (if x2 = (6 : Int32) then mo_b (mo_gR x0 11 36) fun v24 => mo_b (mo_la 0 v24 x1) fun v25 => mo_ret v25 else (if x2 = (7 : Int32) then mo_b (mo_gR x0 11 39) fun v27 => mo_b (mo_la 0 v27 x1) fun v28 => mo_ret v28 else (if x2 = (8 : Int32) then mo_b (mo_gR x0 11 5) fun v30 => mo_b (mo_la 1 v30 x1) fun v31 => (if v31 = 0 then mo_ret (0 : Int32) else mo_b (F_X11_ageOf x0 (0 : Int32) x1) fun v33 => mo_ret v33) else mo_ret (-1 : Int32)))))))))) else mo_ret (-1 : Int32)))).1 h = some (z, h2) → mo_A D dA b0 s.heap h0 h H locs → W p l e R s m args below meth c H locs (h.2.1 - h0.2.1) (h.2.2 - h0.2.2) Q (F0 m 0 ls []) := by
    intro h H locs hF A
    refine lv_iload_n hx hb dX11_at_0 rfl (lv_at hl 1 rfl) ?_
    refine lv_if_lt (tgt := 12) hx hb dX11_at_1 (by decide) (fun c1 => ?_) (fun c1 => ?_)
    · have hF := mo_ifT c1 hF
      refine lv_iconst (v := (-1 : Int32)) hx hb dX11_at_12 (by decide) ?_
      rw [hQ]
      exact mo_iret C A hr hlocks dX11_at_13 hF
    · have hF := mo_ifF c1 hF
      refine lv_iload_n hx hb dX11_at_4 rfl (lv_at hl 1 rfl) ?_
      refine lv_aload_n hx hb dX11_at_5 rfl (lv_at hl 0 rfl) ?_
      refine mo_wI C A (T := TX11) iX11 rfl 2 (by decide) tb_197 rfl dX11_at_6 hF (fun v2 hF => ?_)
      refine lv_icmp_lt (tgt := 14) hx hb dX11_at_9 (by decide) (fun c3 => ?_) (fun c3 => ?_)
      · have hF := mo_ifT c3 hF
        refine lv_iload_n hx hb dX11_at_14 rfl (lv_at hl 2 rfl) ?_
        by_cases c4 : x2 = (0 : Int32)
        · have hF := mo_ifT c4 hF
          refine mo_tsI hx hb (0 : Int32) (tgt := 64) (off := 49) dX11_at_15 c4 (by decide) (by decide) rfl (by decide) ?_
          refine lv_aload_n hx hb dX11_at_64 rfl (lv_at hl 0 rfl) ?_
          refine mo_wR C A (T := TX11) iX11 rfl 3 (by decide) tb_122 rfl dX11_at_65 hF (fun v5 hF => ?_)
          refine lv_iload_n hx hb dX11_at_68 rfl (lv_at hl 1 rfl) ?_
          refine mo_wla C A dX11_at_69 hF (fun v6 hF => ?_)
          rw [hQ]
          exact mo_iret C A hr hlocks dX11_at_70 hF
        have hF := mo_ifF c4 hF
        by_cases c7 : x2 = (1 : Int32)
        · have hF := mo_ifT c7 hF
          refine mo_tsI hx hb (1 : Int32) (tgt := 71) (off := 56) dX11_at_15 c7 (by decide) (by decide) rfl (by decide) ?_
          refine lv_aload_n hx hb dX11_at_71 rfl (lv_at hl 0 rfl) ?_
          refine mo_wR C A (T := TX11) iX11 rfl 4 (by decide) tb_123 rfl dX11_at_72 hF (fun v8 hF => ?_)
          refine lv_iload_n hx hb dX11_at_75 rfl (lv_at hl 1 rfl) ?_
          refine mo_wla C A dX11_at_76 hF (fun v9 hF => ?_)
          rw [hQ]
          exact mo_iret C A hr hlocks dX11_at_77 hF
        have hF := mo_ifF c7 hF
        by_cases c10 : x2 = (2 : Int32)
        · have hF := mo_ifT c10 hF
          refine mo_tsI hx hb (2 : Int32) (tgt := 78) (off := 63) dX11_at_15 c10 (by decide) (by decide) rfl (by decide) ?_
          refine lv_aload_n hx hb dX11_at_78 rfl (lv_at hl 0 rfl) ?_
          refine mo_wR C A (T := TX11) iX11 rfl 5 (by decide) tb_124 rfl dX11_at_79 hF (fun v11 hF => ?_)
          refine lv_iload_n hx hb dX11_at_82 rfl (lv_at hl 1 rfl) ?_
          refine mo_wlz C A dX11_at_83 hF (fun v12 hF => ?_)
          refine lv_if_eq (tgt := 91) hx hb dX11_at_84 (by decide) (fun c13 => ?_) (fun c13 => ?_)
          · have hF := mo_ifT c13 hF
            refine lv_iconst (v := (0 : Int32)) hx hb dX11_at_91 (by decide) ?_
            rw [hQ]
            exact mo_iret C A hr hlocks dX11_at_92 hF
          · have hF := mo_ifF c13 hF
            refine lv_iconst (v := (1 : Int32)) hx hb dX11_at_87 (by decide) ?_
            refine lv_goto (tgt := 92) hx hb dX11_at_88 (by decide) ?_
            rw [hQ]
            exact mo_iret C A hr hlocks dX11_at_92 hF
        have hF := mo_ifF c10 hF
        by_cases c14 : x2 = (3 : Int32)
        · have hF := mo_ifT c14 hF
          refine mo_tsI hx hb (3 : Int32) (tgt := 93) (off := 78) dX11_at_15 c14 (by decide) (by decide) rfl (by decide) ?_
          refine lv_aload_n hx hb dX11_at_93 rfl (lv_at hl 0 rfl) ?_
          refine mo_wR C A (T := TX11) iX11 rfl 6 (by decide) tb_125 rfl dX11_at_94 hF (fun v15 hF => ?_)
          refine lv_iload_n hx hb dX11_at_97 rfl (lv_at hl 1 rfl) ?_
          refine mo_wla C A dX11_at_98 hF (fun v16 hF => ?_)
          rw [hQ]
          exact mo_iret C A hr hlocks dX11_at_99 hF
        have hF := mo_ifF c14 hF
        by_cases c17 : x2 = (4 : Int32)
        · have hF := mo_ifT c17 hF
          refine mo_tsI hx hb (4 : Int32) (tgt := 100) (off := 85) dX11_at_15 c17 (by decide) (by decide) rfl (by decide) ?_
          refine lv_aload_n hx hb dX11_at_100 rfl (lv_at hl 0 rfl) ?_
          refine mo_wR C A (T := TX11) iX11 rfl 32 (by decide) tb_149 rfl dX11_at_101 hF (fun v18 hF => ?_)
          refine lv_iload_n hx hb dX11_at_104 rfl (lv_at hl 1 rfl) ?_
          refine mo_wla C A dX11_at_105 hF (fun v19 hF => ?_)
          rw [hQ]
          exact mo_iret C A hr hlocks dX11_at_106 hF
        have hF := mo_ifF c17 hF
        by_cases c20 : x2 = (5 : Int32)
        · have hF := mo_ifT c20 hF
          refine mo_tsI hx hb (5 : Int32) (tgt := 107) (off := 92) dX11_at_15 c20 (by decide) (by decide) rfl (by decide) ?_
          refine lv_aload_n hx hb dX11_at_107 rfl (lv_at hl 0 rfl) ?_
          refine mo_wR C A (T := TX11) iX11 rfl 35 (by decide) tb_152 rfl dX11_at_108 hF (fun v21 hF => ?_)
          refine lv_iload_n hx hb dX11_at_111 rfl (lv_at hl 1 rfl) ?_
          refine mo_wla C A dX11_at_112 hF (fun v22 hF => ?_)
          rw [hQ]
          exact mo_iret C A hr hlocks dX11_at_113 hF
        have hF := mo_ifF c20 hF
        by_cases c23 : x2 = (6 : Int32)
        · have hF := mo_ifT c23 hF
          refine mo_tsI hx hb (6 : Int32) (tgt := 114) (off := 99) dX11_at_15 c23 (by decide) (by decide) rfl (by decide) ?_
          refine lv_aload_n hx hb dX11_at_114 rfl (lv_at hl 0 rfl) ?_
          refine mo_wR C A (T := TX11) iX11 rfl 36 (by decide) tb_153 rfl dX11_at_115 hF (fun v24 hF => ?_)
          refine lv_iload_n hx hb dX11_at_118 rfl (lv_at hl 1 rfl) ?_
          refine mo_wla C A dX11_at_119 hF (fun v25 hF => ?_)
          rw [hQ]
          exact mo_iret C A hr hlocks dX11_at_120 hF
        have hF := mo_ifF c23 hF
        by_cases c26 : x2 = (7 : Int32)
        · have hF := mo_ifT c26 hF
          refine mo_tsI hx hb (7 : Int32) (tgt := 121) (off := 106) dX11_at_15 c26 (by decide) (by decide) rfl (by decide) ?_
          refine lv_aload_n hx hb dX11_at_121 rfl (lv_at hl 0 rfl) ?_
          refine mo_wR C A (T := TX11) iX11 rfl 39 (by decide) tb_156 rfl dX11_at_122 hF (fun v27 hF => ?_)
          refine lv_iload_n hx hb dX11_at_125 rfl (lv_at hl 1 rfl) ?_
          refine mo_wla C A dX11_at_126 hF (fun v28 hF => ?_)
          rw [hQ]
          exact mo_iret C A hr hlocks dX11_at_127 hF
        have hF := mo_ifF c26 hF
        by_cases c29 : x2 = (8 : Int32)
        · have hF := mo_ifT c29 hF
          refine mo_tsI hx hb (8 : Int32) (tgt := 128) (off := 113) dX11_at_15 c29 (by decide) (by decide) rfl (by decide) ?_
          refine lv_aload_n hx hb dX11_at_128 rfl (lv_at hl 0 rfl) ?_
          refine mo_wR C A (T := TX11) iX11 rfl 5 (by decide) tb_124 rfl dX11_at_129 hF (fun v30 hF => ?_)
          refine lv_iload_n hx hb dX11_at_132 rfl (lv_at hl 1 rfl) ?_
          refine mo_wlz C A dX11_at_133 hF (fun v31 hF => ?_)
          refine lv_if_eq (tgt := 146) hx hb dX11_at_134 (by decide) (fun c32 => ?_) (fun c32 => ?_)
          · have hF := mo_ifT c32 hF
            refine lv_iconst (v := (0 : Int32)) hx hb dX11_at_146 (by decide) ?_
            rw [hQ]
            exact mo_iret C A hr hlocks dX11_at_147 hF
          · have hF := mo_ifF c32 hF
            refine lv_aload_n hx hb dX11_at_137 rfl (lv_at hl 0 rfl) ?_
            refine lv_iconst (v := (0 : Int32)) hx hb dX11_at_138 (by decide) ?_
            refine lv_iload_n hx hb dX11_at_139 rfl (lv_at hl 1 rfl) ?_
            refine mo_cV (n := 2) (As := [.int (0 : Int32), .int x1]) (rest := []) C A hml hl.1 (c_X11_ageOf l D dA b0 x0 (0 : Int32) x1) (ci := 11) (q := (RX11, TX11, 56)) rfl (fun _ e => (mo_ckE e).1) (tb_v tb_572 tb_573 tb_574 tb_5 tb_575) rfl (by decide +kernel) ⟨Nat.le_trans (by decide) hfr, Nat.le_trans (Nat.le_of_ble_eq_true rfl) hlo⟩ rfl (Nat.le_of_ble_eq_true rfl) rfl dX11_at_140 hF (fun v33 h H locs hF A => ?_)
            show W _ _ _ _ _ _ _ _ _ _ _ _ _ _ _ (F0 m 143 ls [.int v33])
            refine lv_goto (tgt := 147) hx hb dX11_at_143 (by decide) ?_
            rw [hQ]
            exact mo_iret C A hr hlocks dX11_at_147 hF
        have hF := mo_ifF c29 hF
        refine mo_tsD hx hb [(0 : Int32), (1 : Int32), (2 : Int32), (3 : Int32), (4 : Int32), (5 : Int32), (6 : Int32), (7 : Int32), (8 : Int32)] (tgt := 148) dX11_at_15 (List.forall_mem_cons.mpr ⟨c4, (List.forall_mem_cons.mpr ⟨c7, (List.forall_mem_cons.mpr ⟨c10, (List.forall_mem_cons.mpr ⟨c14, (List.forall_mem_cons.mpr ⟨c17, (List.forall_mem_cons.mpr ⟨c20, (List.forall_mem_cons.mpr ⟨c23, (List.forall_mem_cons.mpr ⟨c26, (List.forall_mem_cons.mpr ⟨c29, (fun _ h => absurd h List.not_mem_nil)⟩)⟩)⟩)⟩)⟩)⟩)⟩)⟩)⟩) (by decide) (by decide) (by decide) ?_
        refine lv_iconst (v := (-1 : Int32)) hx hb dX11_at_148 (by decide) ?_
        rw [hQ]
        exact mo_iret C A hr hlocks dX11_at_149 hF
      · have hF := mo_ifF c3 hF
        refine lv_iconst (v := (-1 : Int32)) hx hb dX11_at_12 (by decide) ?_
        rw [hQ]
        exact mo_iret C A hr hlocks dX11_at_13 hF
  exact E h0 s.heap [] hF A
set_option maxHeartbeats 4000000 in
set_option maxRecDepth 100000 in
theorem c_X11_told (l : Launch) (D : va_G) (dA : Nat → ClassId) (b0 : Nat) (x0 : Nat) (x1 : Int32) : mo_Met l yX11_told [Cond.code yX11_told cX11_told 2 (some .int)] 1 21 D dA b0 [.ref x0, .int x1] (fun r : Int32 => some (.int r)) (F_X11_told x0 x1) := by
  refine mo_MetOf (own := RX11) (by decide) (Nat.le_of_ble_eq_true rfl) [(0, .ref x0), (1, .int x1)] rfl rfl ?_
  intro p e R s m args below meth c Q h0 h2 z ls hQ C hml hr hlocks hnm hfr hlo hF A hl
  have hx := C.1
  have hb := C.2.1
  have hown := C.2.2.1
  have hts := C.2.2.2.1
  have hK := C.2.2.2.2.1
  have iX11 := inlX11
  unfold F_X11_told at hF
  obtain ⟨-, hF⟩ := mo_ckE hF
  have E : ∀ (h : mo_H) (H : Heap) (locs : List Loc), ((if x1 = (0 : Int32) then mo_b (mo_gR x0 11 45) fun v2 => mo_b (mo_la 0 v2 (0 : Int32)) fun v3 => mo_ret v3 else (if x1 = (1 : Int32) then mo_b (mo_gI x0 11 14) fun v5 => mo_ret v5 else (if x1 = (2 : Int32) then mo_b (mo_gI x0 11 13) fun v7 => (if v7 = 0 then mo_ret (-1 : Int32) else mo_b (F_X11_slotDomain x0 (0 : Int32)) fun v9 => mo_ret v9) else (if x1 = (3 : Int32) then mo_b (mo_gR x0 11 47) fun v11 => mo_b (mo_la 0 v11 (0 : Int32)) fun v12 => mo_ret v12 else (if x1 = (4 : Int32) then mo_b (mo_gR x0 11 46) fun v14 => mo_b (mo_la 0 v14 (0 : Int32)) fun v15 => mo_ret v15 else (if x1 = (5 : Int32) then mo_b (mo_gR x0 11 48) fun v17 => mo_b (mo_la 0 v17 (0 : Int32)) fun v18 => mo_ret v18 else (if x1 = (6 : Int32) then mo_b (mo_gR x0 11 49) fun v20 => mo_b (mo_la 0 v20 (0 : Int32)) fun v21 => mo_ret v21 else (if x1 = (7 : Int32) then mo_b (mo_gI x0 11 2) fun v23 => mo_ret v23 else (if x1 = (8 : Int32) then mo_b (mo_gI x0 11 0) fun v25 => mo_ret v25 else (if x1 = (9 : Int32) then mo_b (mo_gI x0 11 13) fun v27 => (if v27 = 0 then mo_ret (0 : Int32) else mo_ret (1 : Int32)) else mo_ret (-1 : Int32)))))))))))).1 h = some (z, h2) → mo_A D dA b0 s.heap h0 h H locs → W p l e R s m args below meth c H locs (h.2.1 - h0.2.1) (h.2.2 - h0.2.2) Q (F0 m 0 ls []) := by
    intro h H locs hF A
    refine lv_iload_n hx hb dX11_told_0 rfl (lv_at hl 1 rfl) ?_
    by_cases c1 : x1 = (0 : Int32)
    · have hF := mo_ifT c1 hF
      refine mo_tsI hx hb (0 : Int32) (tgt := 56) (off := 55) dX11_told_1 c1 (by decide) (by decide) rfl (by decide) ?_
      refine lv_aload_n hx hb dX11_told_56 rfl (lv_at hl 0 rfl) ?_
      refine mo_wR C A (T := TX11) iX11 rfl 45 (by decide) tb_163 rfl dX11_told_57 hF (fun v2 hF => ?_)
      refine lv_iconst (v := (0 : Int32)) hx hb dX11_told_60 (by decide) ?_
      refine mo_wla C A dX11_told_61 hF (fun v3 hF => ?_)
      rw [hQ]
      exact mo_iret C A hr hlocks dX11_told_62 hF
    have hF := mo_ifF c1 hF
    by_cases c4 : x1 = (1 : Int32)
    · have hF := mo_ifT c4 hF
      refine mo_tsI hx hb (1 : Int32) (tgt := 63) (off := 62) dX11_told_1 c4 (by decide) (by decide) rfl (by decide) ?_
      refine lv_aload_n hx hb dX11_told_63 rfl (lv_at hl 0 rfl) ?_
      refine mo_wI C A (T := TX11) iX11 rfl 14 (by decide) tb_316 rfl dX11_told_64 hF (fun v5 hF => ?_)
      rw [hQ]
      exact mo_iret C A hr hlocks dX11_told_67 hF
    have hF := mo_ifF c4 hF
    by_cases c6 : x1 = (2 : Int32)
    · have hF := mo_ifT c6 hF
      refine mo_tsI hx hb (2 : Int32) (tgt := 68) (off := 67) dX11_told_1 c6 (by decide) (by decide) rfl (by decide) ?_
      refine lv_aload_n hx hb dX11_told_68 rfl (lv_at hl 0 rfl) ?_
      refine mo_wI C A (T := TX11) iX11 rfl 13 (by decide) tb_196 rfl dX11_told_69 hF (fun v7 hF => ?_)
      refine lv_if_eq (tgt := 83) hx hb dX11_told_72 (by decide) (fun c8 => ?_) (fun c8 => ?_)
      · have hF := mo_ifT c8 hF
        refine lv_iconst (v := (-1 : Int32)) hx hb dX11_told_83 (by decide) ?_
        rw [hQ]
        exact mo_iret C A hr hlocks dX11_told_84 hF
      · have hF := mo_ifF c8 hF
        refine lv_aload_n hx hb dX11_told_75 rfl (lv_at hl 0 rfl) ?_
        refine lv_iconst (v := (0 : Int32)) hx hb dX11_told_76 (by decide) ?_
        refine mo_cV (n := 1) (As := [.int (0 : Int32)]) (rest := []) C A hml hl.1 (c_X11_slotDomain l D dA b0 x0 (0 : Int32)) (ci := 11) (q := (RX11, TX11, 56)) rfl (fun _ e => (mo_ckE e).1) (tb_v tb_535 tb_536 tb_537 tb_5 tb_538) rfl (by decide +kernel) ⟨Nat.le_trans (by decide) hfr, Nat.le_trans (Nat.le_of_ble_eq_true rfl) hlo⟩ rfl (Nat.le_of_ble_eq_true rfl) rfl dX11_told_77 hF (fun v9 h H locs hF A => ?_)
        show W _ _ _ _ _ _ _ _ _ _ _ _ _ _ _ (F0 m 80 ls [.int v9])
        refine lv_goto (tgt := 84) hx hb dX11_told_80 (by decide) ?_
        rw [hQ]
        exact mo_iret C A hr hlocks dX11_told_84 hF
    have hF := mo_ifF c6 hF
    by_cases c10 : x1 = (3 : Int32)
    · have hF := mo_ifT c10 hF
      refine mo_tsI hx hb (3 : Int32) (tgt := 85) (off := 84) dX11_told_1 c10 (by decide) (by decide) rfl (by decide) ?_
      refine lv_aload_n hx hb dX11_told_85 rfl (lv_at hl 0 rfl) ?_
      refine mo_wR C A (T := TX11) iX11 rfl 47 (by decide) tb_165 rfl dX11_told_86 hF (fun v11 hF => ?_)
      refine lv_iconst (v := (0 : Int32)) hx hb dX11_told_89 (by decide) ?_
      refine mo_wla C A dX11_told_90 hF (fun v12 hF => ?_)
      rw [hQ]
      exact mo_iret C A hr hlocks dX11_told_91 hF
    have hF := mo_ifF c10 hF
    by_cases c13 : x1 = (4 : Int32)
    · have hF := mo_ifT c13 hF
      refine mo_tsI hx hb (4 : Int32) (tgt := 92) (off := 91) dX11_told_1 c13 (by decide) (by decide) rfl (by decide) ?_
      refine lv_aload_n hx hb dX11_told_92 rfl (lv_at hl 0 rfl) ?_
      refine mo_wR C A (T := TX11) iX11 rfl 46 (by decide) tb_164 rfl dX11_told_93 hF (fun v14 hF => ?_)
      refine lv_iconst (v := (0 : Int32)) hx hb dX11_told_96 (by decide) ?_
      refine mo_wla C A dX11_told_97 hF (fun v15 hF => ?_)
      rw [hQ]
      exact mo_iret C A hr hlocks dX11_told_98 hF
    have hF := mo_ifF c13 hF
    by_cases c16 : x1 = (5 : Int32)
    · have hF := mo_ifT c16 hF
      refine mo_tsI hx hb (5 : Int32) (tgt := 99) (off := 98) dX11_told_1 c16 (by decide) (by decide) rfl (by decide) ?_
      refine lv_aload_n hx hb dX11_told_99 rfl (lv_at hl 0 rfl) ?_
      refine mo_wR C A (T := TX11) iX11 rfl 48 (by decide) tb_166 rfl dX11_told_100 hF (fun v17 hF => ?_)
      refine lv_iconst (v := (0 : Int32)) hx hb dX11_told_103 (by decide) ?_
      refine mo_wla C A dX11_told_104 hF (fun v18 hF => ?_)
      rw [hQ]
      exact mo_iret C A hr hlocks dX11_told_105 hF
    have hF := mo_ifF c16 hF
    by_cases c19 : x1 = (6 : Int32)
    · have hF := mo_ifT c19 hF
      refine mo_tsI hx hb (6 : Int32) (tgt := 106) (off := 105) dX11_told_1 c19 (by decide) (by decide) rfl (by decide) ?_
      refine lv_aload_n hx hb dX11_told_106 rfl (lv_at hl 0 rfl) ?_
      refine mo_wR C A (T := TX11) iX11 rfl 49 (by decide) tb_167 rfl dX11_told_107 hF (fun v20 hF => ?_)
      refine lv_iconst (v := (0 : Int32)) hx hb dX11_told_110 (by decide) ?_
      refine mo_wla C A dX11_told_111 hF (fun v21 hF => ?_)
      rw [hQ]
      exact mo_iret C A hr hlocks dX11_told_112 hF
    have hF := mo_ifF c19 hF
    by_cases c22 : x1 = (7 : Int32)
    · have hF := mo_ifT c22 hF
      refine mo_tsI hx hb (7 : Int32) (tgt := 113) (off := 112) dX11_told_1 c22 (by decide) (by decide) rfl (by decide) ?_
      refine lv_aload_n hx hb dX11_told_113 rfl (lv_at hl 0 rfl) ?_
      refine mo_wI C A (T := TX11) iX11 rfl 2 (by decide) tb_197 rfl dX11_told_114 hF (fun v23 hF => ?_)
      rw [hQ]
      exact mo_iret C A hr hlocks dX11_told_117 hF
    have hF := mo_ifF c22 hF
    by_cases c24 : x1 = (8 : Int32)
    · have hF := mo_ifT c24 hF
      refine mo_tsI hx hb (8 : Int32) (tgt := 118) (off := 117) dX11_told_1 c24 (by decide) (by decide) rfl (by decide) ?_
      refine lv_aload_n hx hb dX11_told_118 rfl (lv_at hl 0 rfl) ?_
      refine mo_wI C A (T := TX11) iX11 rfl 0 (by decide) tb_173 rfl dX11_told_119 hF (fun v25 hF => ?_)
      rw [hQ]
      exact mo_iret C A hr hlocks dX11_told_122 hF
    have hF := mo_ifF c24 hF
    by_cases c26 : x1 = (9 : Int32)
    · have hF := mo_ifT c26 hF
      refine mo_tsI hx hb (9 : Int32) (tgt := 123) (off := 122) dX11_told_1 c26 (by decide) (by decide) rfl (by decide) ?_
      refine lv_aload_n hx hb dX11_told_123 rfl (lv_at hl 0 rfl) ?_
      refine mo_wI C A (T := TX11) iX11 rfl 13 (by decide) tb_196 rfl dX11_told_124 hF (fun v27 hF => ?_)
      refine lv_if_eq (tgt := 134) hx hb dX11_told_127 (by decide) (fun c28 => ?_) (fun c28 => ?_)
      · have hF := mo_ifT c28 hF
        refine lv_iconst (v := (0 : Int32)) hx hb dX11_told_134 (by decide) ?_
        rw [hQ]
        exact mo_iret C A hr hlocks dX11_told_135 hF
      · have hF := mo_ifF c28 hF
        refine lv_iconst (v := (1 : Int32)) hx hb dX11_told_130 (by decide) ?_
        refine lv_goto (tgt := 135) hx hb dX11_told_131 (by decide) ?_
        rw [hQ]
        exact mo_iret C A hr hlocks dX11_told_135 hF
    have hF := mo_ifF c26 hF
    refine mo_tsD hx hb [(0 : Int32), (1 : Int32), (2 : Int32), (3 : Int32), (4 : Int32), (5 : Int32), (6 : Int32), (7 : Int32), (8 : Int32), (9 : Int32)] (tgt := 136) dX11_told_1 (List.forall_mem_cons.mpr ⟨c1, (List.forall_mem_cons.mpr ⟨c4, (List.forall_mem_cons.mpr ⟨c6, (List.forall_mem_cons.mpr ⟨c10, (List.forall_mem_cons.mpr ⟨c13, (List.forall_mem_cons.mpr ⟨c16, (List.forall_mem_cons.mpr ⟨c19, (List.forall_mem_cons.mpr ⟨c22, (List.forall_mem_cons.mpr ⟨c24, (List.forall_mem_cons.mpr ⟨c26, (fun _ h => absurd h List.not_mem_nil)⟩)⟩)⟩)⟩)⟩)⟩)⟩)⟩)⟩)⟩) (by decide) (by decide) (by decide) ?_
    refine lv_iconst (v := (-1 : Int32)) hx hb dX11_told_136 (by decide) ?_
    rw [hQ]
    exact mo_iret C A hr hlocks dX11_told_137 hF
  exact E h0 s.heap [] hF A
set_option maxHeartbeats 4000000 in
set_option maxRecDepth 100000 in
theorem c_X11_action (l : Launch) (D : va_G) (dA : Nat → ClassId) (b0 : Nat) (x0 : Nat) (x1 : Int32) (x2 : Int32) : mo_Met l yX11_action [Cond.code yX11_action cX11_action 3 (some .int)] 0 0 D dA b0 [.ref x0, .int x1, .int x2] (fun r : Int32 => some (.int r)) (F_X11_action x0 x1 x2) := by
  refine mo_MetOf (own := RX11) (by decide) (Nat.le_of_ble_eq_true rfl) [(0, .ref x0), (1, .int x1), (2, .int x2)] rfl rfl ?_
  intro p e R s m args below meth c Q h0 h2 z ls hQ C hml hr hlocks hnm hfr hlo hF A hl
  have hx := C.1
  have hb := C.2.1
  have hown := C.2.2.1
  have hts := C.2.2.2.1
  have hK := C.2.2.2.2.1
  have iX11 := inlX11
  unfold F_X11_action at hF
  obtain ⟨-, hF⟩ := mo_ckE hF
  have E : ∀ (h : mo_H) (H : Heap) (locs : List Loc), ((if x1 < 0 then mo_ret (0 : Int32) else mo_b (mo_gI x0 11 14) fun v2 => (if x1 < v2 then (if x2 = (0 : Int32) then mo_b (mo_gR x0 11 15) fun v5 => mo_b (mo_la 0 v5 x1) fun v6 => mo_ret v6 else (if x2 = (1 : Int32) then mo_b (mo_gR x0 11 16) fun v8 => mo_b (mo_la 1 v8 x1) fun v9 => (if v9 = 0 then mo_ret (0 : Int32) else mo_ret (1 : Int32)) else (if x2 = (2 : Int32) then mo_b (mo_gR x0 11 17) fun v12 => mo_b (mo_la 0 v12 x1) fun v13 => mo_ret v13 else (if x2 = (3 : Int32) then mo_b (mo_gR x0 11 18) fun v15 => mo_b (mo_la 0 v15 x1) fun v16 => mo_ret v16 else mo_ret (0 : Int32))))) else mo_ret (0 : Int32)))).1 h = some (z, h2) → mo_A D dA b0 s.heap h0 h H locs → W p l e R s m args below meth c H locs (h.2.1 - h0.2.1) (h.2.2 - h0.2.2) Q (F0 m 0 ls []) := by
    intro h H locs hF A
    refine lv_iload_n hx hb dX11_action_0 rfl (lv_at hl 1 rfl) ?_
    refine lv_if_lt (tgt := 12) hx hb dX11_action_1 (by decide) (fun c1 => ?_) (fun c1 => ?_)
    · have hF := mo_ifT c1 hF
      refine lv_iconst (v := (0 : Int32)) hx hb dX11_action_12 (by decide) ?_
      rw [hQ]
      exact mo_iret C A hr hlocks dX11_action_13 hF
    · have hF := mo_ifF c1 hF
      refine lv_iload_n hx hb dX11_action_4 rfl (lv_at hl 1 rfl) ?_
      refine lv_aload_n hx hb dX11_action_5 rfl (lv_at hl 0 rfl) ?_
      refine mo_wI C A (T := TX11) iX11 rfl 14 (by decide) tb_316 rfl dX11_action_6 hF (fun v2 hF => ?_)
      refine lv_icmp_lt (tgt := 14) hx hb dX11_action_9 (by decide) (fun c3 => ?_) (fun c3 => ?_)
      · have hF := mo_ifT c3 hF
        refine lv_iload_n hx hb dX11_action_14 rfl (lv_at hl 2 rfl) ?_
        by_cases c4 : x2 = (0 : Int32)
        · have hF := mo_ifT c4 hF
          refine mo_tsI hx hb (0 : Int32) (tgt := 44) (off := 29) dX11_action_15 c4 (by decide) (by decide) rfl (by decide) ?_
          refine lv_aload_n hx hb dX11_action_44 rfl (lv_at hl 0 rfl) ?_
          refine mo_wR C A (T := TX11) iX11 rfl 15 (by decide) tb_132 rfl dX11_action_45 hF (fun v5 hF => ?_)
          refine lv_iload_n hx hb dX11_action_48 rfl (lv_at hl 1 rfl) ?_
          refine mo_wla C A dX11_action_49 hF (fun v6 hF => ?_)
          rw [hQ]
          exact mo_iret C A hr hlocks dX11_action_50 hF
        have hF := mo_ifF c4 hF
        by_cases c7 : x2 = (1 : Int32)
        · have hF := mo_ifT c7 hF
          refine mo_tsI hx hb (1 : Int32) (tgt := 51) (off := 36) dX11_action_15 c7 (by decide) (by decide) rfl (by decide) ?_
          refine lv_aload_n hx hb dX11_action_51 rfl (lv_at hl 0 rfl) ?_
          refine mo_wR C A (T := TX11) iX11 rfl 16 (by decide) tb_133 rfl dX11_action_52 hF (fun v8 hF => ?_)
          refine lv_iload_n hx hb dX11_action_55 rfl (lv_at hl 1 rfl) ?_
          refine mo_wlz C A dX11_action_56 hF (fun v9 hF => ?_)
          refine lv_if_eq (tgt := 64) hx hb dX11_action_57 (by decide) (fun c10 => ?_) (fun c10 => ?_)
          · have hF := mo_ifT c10 hF
            refine lv_iconst (v := (0 : Int32)) hx hb dX11_action_64 (by decide) ?_
            rw [hQ]
            exact mo_iret C A hr hlocks dX11_action_65 hF
          · have hF := mo_ifF c10 hF
            refine lv_iconst (v := (1 : Int32)) hx hb dX11_action_60 (by decide) ?_
            refine lv_goto (tgt := 65) hx hb dX11_action_61 (by decide) ?_
            rw [hQ]
            exact mo_iret C A hr hlocks dX11_action_65 hF
        have hF := mo_ifF c7 hF
        by_cases c11 : x2 = (2 : Int32)
        · have hF := mo_ifT c11 hF
          refine mo_tsI hx hb (2 : Int32) (tgt := 66) (off := 51) dX11_action_15 c11 (by decide) (by decide) rfl (by decide) ?_
          refine lv_aload_n hx hb dX11_action_66 rfl (lv_at hl 0 rfl) ?_
          refine mo_wR C A (T := TX11) iX11 rfl 17 (by decide) tb_134 rfl dX11_action_67 hF (fun v12 hF => ?_)
          refine lv_iload_n hx hb dX11_action_70 rfl (lv_at hl 1 rfl) ?_
          refine mo_wla C A dX11_action_71 hF (fun v13 hF => ?_)
          rw [hQ]
          exact mo_iret C A hr hlocks dX11_action_72 hF
        have hF := mo_ifF c11 hF
        by_cases c14 : x2 = (3 : Int32)
        · have hF := mo_ifT c14 hF
          refine mo_tsI hx hb (3 : Int32) (tgt := 73) (off := 58) dX11_action_15 c14 (by decide) (by decide) rfl (by decide) ?_
          refine lv_aload_n hx hb dX11_action_73 rfl (lv_at hl 0 rfl) ?_
          refine mo_wR C A (T := TX11) iX11 rfl 18 (by decide) tb_135 rfl dX11_action_74 hF (fun v15 hF => ?_)
          refine lv_iload_n hx hb dX11_action_77 rfl (lv_at hl 1 rfl) ?_
          refine mo_wla C A dX11_action_78 hF (fun v16 hF => ?_)
          rw [hQ]
          exact mo_iret C A hr hlocks dX11_action_79 hF
        have hF := mo_ifF c14 hF
        refine mo_tsD hx hb [(0 : Int32), (1 : Int32), (2 : Int32), (3 : Int32)] (tgt := 80) dX11_action_15 (List.forall_mem_cons.mpr ⟨c4, (List.forall_mem_cons.mpr ⟨c7, (List.forall_mem_cons.mpr ⟨c11, (List.forall_mem_cons.mpr ⟨c14, (fun _ h => absurd h List.not_mem_nil)⟩)⟩)⟩)⟩) (by decide) (by decide) (by decide) ?_
        refine lv_iconst (v := (0 : Int32)) hx hb dX11_action_80 (by decide) ?_
        rw [hQ]
        exact mo_iret C A hr hlocks dX11_action_81 hF
      · have hF := mo_ifF c3 hF
        refine lv_iconst (v := (0 : Int32)) hx hb dX11_action_12 (by decide) ?_
        rw [hQ]
        exact mo_iret C A hr hlocks dX11_action_13 hF
  exact E h0 s.heap [] hF A
