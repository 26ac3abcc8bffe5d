set_option maxHeartbeats 4000000 in
set_option maxRecDepth 100000 in
theorem c_X6_add (l : Launch) (D : va_G) (dA : Nat → ClassId) (b0 : Nat) (x0 : Nat) (x1 : Nat) (x2 : Int32) (x3 : Int32) : mo_Met l yX6_add [Cond.code yX6_add cX6_add 5 none] 2 40 D dA b0 [.ref x0, .ref x1, .int x2, .int x3] (fun _ : Unit => none) (F_X6_add x0 x1 x2 x3) := by
  refine mo_MetOf (own := RX6) (by decide) (Nat.le_of_ble_eq_true rfl) [(0, .ref x0), (1, .ref x1), (2, .int x2), (3, .int x3)] rfl rfl ?_
  intro p e R s m args below meth c Q h0 h2 z ls hQ C hml hr hlocks hnm hfr hlo hF A hl
  have hx := C.1
  have hb := C.2.1
  have hown := C.2.2.1
  have hts := C.2.2.2.1
  have hK := C.2.2.2.2.1
  have iX6 := inlX6
  have J33 : ∀   (x0 : Nat) (x1 : Nat) (x2 : Int32) (x3 : Int32) (x4 : Int32) (h : mo_H) (H : Heap) (locs : List Loc) (ls : Array Slot), mo_A D dA b0 s.heap h0 h H locs → lv_has ls 5 [(0, .ref x0), (1, .ref x1), (2, .int x2), (3, .int x3), (4, .int x4)] → (F_X6_add_33 x0 x1 x2 x3 x4).1 h = some (z, h2) → W p l e R s m args below meth c H locs (h.2.1 - h0.2.1) (h.2.2 - h0.2.2) Q (F0 m 33 ls []) := by
    intro  x0 x1 x2 x3 x4 h H locs ls A hl hF
    unfold F_X6_add_33 at hF
    refine lv_aload_n hx hb dX6_add_33 rfl (lv_at hl 0 rfl) ?_
    refine mo_wR C A (T := TX6) iX6 rfl 0 (by decide) tb_100 rfl dX6_add_34 hF (fun v1 hF => ?_)
    refine lv_iload hx hb dX6_add_37 (lv_at hl 4 rfl) ?_
    refine lv_iload_n hx hb dX6_add_39 rfl (lv_at hl 3 rfl) ?_
    refine mo_wsa C A dX6_add_40 hF (fun h H locs hF A => ?_)
    refine lv_aload_n hx hb dX6_add_41 rfl (lv_at hl 1 rfl) ?_
    refine lv_iload_n hx hb dX6_add_42 rfl (lv_at hl 2 rfl) ?_
    refine lv_aload_n hx hb dX6_add_43 rfl (lv_at hl 0 rfl) ?_
    refine mo_wR C A (T := TX6) iX6 rfl 0 (by decide) tb_100 rfl dX6_add_44 hF (fun v2 hF => ?_)
    refine lv_iload hx hb dX6_add_47 (lv_at hl 4 rfl) ?_
    refine lv_iconst (v := (1 : Int32)) hx hb dX6_add_49 (by decide) ?_
    refine lv_iadd hx hb dX6_add_50 ?_
    refine lv_iload_n hx hb dX6_add_51 rfl (lv_at hl 3 rfl) ?_
    refine mo_wcp C A (by rw [hml]; exact hl.1.symm) tb_453 tb_248 tb_249 tb_250 (Nat.le_trans (by decide) hfr) (Nat.le_trans (Nat.le_of_ble_eq_true rfl) hlo) dX6_add_52 hF (fun h H locs hF A => ?_)
    refine lv_aload_n hx hb dX6_add_55 rfl (lv_at hl 0 rfl) ?_
    refine lv_dup hx hb dX6_add_56 rfl ?_
    refine mo_wI C A (T := TX6) iX6 rfl 1 (by decide) tb_365 rfl dX6_add_57 hF (fun v3 hF => ?_)
    refine lv_iconst (v := (1 : Int32)) hx hb dX6_add_60 (by decide) ?_
    refine lv_iadd hx hb dX6_add_61 ?_
    refine mo_wpV C A (T := TX6) iX6 tyX6 tyX6_ok nmX6 rfl 1 (by decide) tb_365 rfl rfl rfl rfl dX6_add_62 hF (fun h H locs hF A => ?_)
    rw [hQ]
    exact mo_vret C A hr hlocks dX6_add_65 hF
  unfold F_X6_add at hF
  obtain ⟨-, hF⟩ := mo_ckE hF
  have E : ∀ (h : mo_H) (H : Heap) (locs : List Loc), (mo_b (mo_gI x0 6 1) fun v4 => mo_b (mo_gR x0 6 0) fun v5 => mo_b (mo_ln v5) fun v6 => (if ((5 : Int32) * v4) = v6 then mo_b (mo_gR x0 6 0) fun v8 => mo_b (F_J7_copyOf_59c91 v8 ((2 : Int32) * ((5 : Int32) * v4))) fun v9 => mo_b (mo_pV x0 6 0 (.ref v9)) fun _ => F_X6_add_33 x0 x1 x2 x3 ((5 : Int32) * v4) else F_X6_add_33 x0 x1 x2 x3 ((5 : Int32) * v4))).1 h = some (z, h2) → mo_A D dA b0 s.heap h0 h H locs → W p l e R s m args below meth c H locs (h.2.1 - h0.2.1) (h.2.2 - h0.2.2) Q (F0 m 0 ls []) := by
    intro h H locs hF A
    refine lv_iconst (v := (5 : Int32)) hx hb dX6_add_0 (by decide) ?_
    refine lv_aload_n hx hb dX6_add_1 rfl (lv_at hl 0 rfl) ?_
    refine mo_wI C A (T := TX6) iX6 rfl 1 (by decide) tb_365 rfl dX6_add_2 hF (fun v4 hF => ?_)
    refine lv_imul hx hb dX6_add_5 ?_
    refine lv_istore (lv' := [(4, .int ((5 : Int32) * v4)), (0, .ref x0), (1, .ref x1), (2, .int x2), (3, .int x3)]) hx hb dX6_add_6 hl (by decide) rfl (fun ls hl => ?_)
    refine lv_iload hx hb dX6_add_8 (lv_at hl 0 rfl) ?_
    refine lv_aload_n hx hb dX6_add_10 rfl (lv_at hl 1 rfl) ?_
    refine mo_wR C A (T := TX6) iX6 rfl 0 (by decide) tb_100 rfl dX6_add_11 hF (fun v5 hF => ?_)
    refine mo_wln C A dX6_add_14 hF (fun v6 hF => ?_)
    refine lv_icmp_ne (tgt := 33) hx hb dX6_add_15 (by decide) (fun c7 => ?_) (fun c7 => ?_)
    · have hF := mo_ifF c7 hF
      exact J33 x0 x1 x2 x3 ((5 : Int32) * v4) h H locs ls A (lv_sub hl [1, 2, 3, 4, 0] rfl) hF
    · have hF := mo_ifT c7 hF
      refine lv_aload_n hx hb dX6_add_18 rfl (lv_at hl 1 rfl) ?_
      refine lv_aload_n hx hb dX6_add_19 rfl (lv_at hl 1 rfl) ?_
      refine mo_wR C A (T := TX6) iX6 rfl 0 (by decide) tb_100 rfl dX6_add_20 hF (fun v8 hF => ?_)
      refine lv_iconst (v := (2 : Int32)) hx hb dX6_add_23 (by decide) ?_
      refine lv_iload hx hb dX6_add_24 (lv_at hl 0 rfl) ?_
      refine lv_imul hx hb dX6_add_26 ?_
      refine mo_cS (n := 2) (As := [.ref v8, .int ((2 : Int32) * ((5 : Int32) * v4))]) (rest := [.ref x0]) C A hml hl.1 (c_J7_copyOf_59c91 l D dA b0 v8 ((2 : Int32) * ((5 : Int32) * v4))) (tb_s tb_454 tb_237 tb_238 tb_239) rfl (by decide +kernel) ⟨Nat.le_trans (by decide) hfr, Nat.le_trans (Nat.le_of_ble_eq_true rfl) hlo⟩ rfl (Nat.le_of_ble_eq_true rfl) rfl dX6_add_27 hF (fun v9 h H locs hF A => ?_)
      show W _ _ _ _ _ _ _ _ _ _ _ _ _ _ _ (F0 m 30 ls [.ref v9, .ref x0])
      refine mo_wpV C A (T := TX6) iX6 tyX6 tyX6_ok nmX6 rfl 0 (by decide) tb_100 rfl rfl rfl rfl dX6_add_30 hF (fun h H locs hF A => ?_)
      exact J33 x0 x1 x2 x3 ((5 : Int32) * v4) h H locs ls A (lv_sub hl [1, 2, 3, 4, 0] rfl) hF
  exact E h0 s.heap [] hF A
set_option maxHeartbeats 4000000 in
set_option maxRecDepth 100000 in
theorem c_X5_send (l : Launch) (D : va_G) (dA : Nat → ClassId) (b0 : Nat) (x0 : Nat) (x1 : Int32) (x2 : Int32) : mo_Met l yX5_send [Cond.code yX5_send cX5_send 7 (some .boolean)] 3 64 D dA b0 [.ref x0, .int x1, .int x2] (fun r : Int32 => some (.int r)) (F_X5_send x0 x1 x2) := by
  refine mo_MetOf (own := RX5) (by decide) (Nat.le_of_ble_eq_true rfl) [(0, .ref x0), (1, .int x1), (2, .int x2)] rfl rfl ?_
  intro p e R s m args below meth c Q h0 h2 z ls hQ C hml hr hlocks hnm hfr hlo hF A hl
  have hx := C.1
  have hb := C.2.1
  have hown := C.2.2.1
  have hts := C.2.2.2.1
  have hK := C.2.2.2.2.1
  have iX1 := inlX1
  have iX3 := inlX3
  have iX4 := inlX4
  have iX5 := inlX5
  unfold F_X5_send at hF
  obtain ⟨-, hF⟩ := mo_ckE hF
  have E : ∀ (h : mo_H) (H : Heap) (locs : List Loc), (mo_b (mo_gR x0 5 1) fun v1 => mo_b (mo_lq 4 v1 x1) fun v2 => mo_b (F_X10_partA x2) fun v3 => mo_b (F_X5_channelOfKind x0 v3 (0 : Int32)) fun v4 => (mo_mO v4 (mo_rz (0 : Int32)) (fun a5 => mo_b (mo_gR a5 1 0) fun v6 => mo_b (mo_gI v6 4 0) fun v7 => (if v7 = x1 then mo_b (F_X10_partB x2) fun v9 => mo_b (F_X3_read v2 v9) fun v10 => mo_b (F_X10_partC x2) fun v11 => mo_b (F_X3_read v2 v11) fun v12 => (if v12 < (1 : Int32) then mo_rz (0 : Int32) else (if (4 : Int32) < v12 then mo_rz (0 : Int32) else mo_b (F_X3_hasCells v10 v12) fun v15 => (if v15 = 0 then mo_rz (0 : Int32) else mo_b (mo_gI a5 1 3) fun v17 => mo_b (mo_gR a5 1 0) fun v18 => mo_b (mo_gI v18 4 3) fun v19 => (if v17 = v19 then mo_b (F_X3_report v2 (0 : Int32)) fun v26 => mo_rz (1 : Int32) else mo_b (mo_gI a5 1 3) fun v21 => mo_b (mo_pV a5 1 3 (.int (v21 + (1 : Int32)))) fun _ => mo_b (mo_gR a5 1 2) fun v22 => mo_b (mo_gR v2 3 1) fun v23 => mo_b (F_X6_add v22 v23 v10 v12) fun v24 => mo_b (F_X3_report v2 (1 : Int32)) fun v25 => mo_rz (1 : Int32))))) else mo_rz (0 : Int32))))).1 h = some (z, h2) → mo_A D dA b0 s.heap h0 h H locs → W p l e R s m args below meth c H locs (h.2.1 - h0.2.1) (h.2.2 - h0.2.2) Q (F0 m 0 ls []) := by
    intro h H locs hF A
    refine lv_aload_n hx hb dX5_send_0 rfl (lv_at hl 0 rfl) ?_
    refine mo_wR C A (T := TX5) iX5 rfl 1 (by decide) tb_63 rfl dX5_send_1 hF (fun v1 hF => ?_)
    refine lv_iload_n hx hb dX5_send_4 rfl (lv_at hl 1 rfl) ?_
    refine mo_wlq C A (t := 4) (fun _ => rfl) dX5_send_5 hF (fun v2 hF => ?_)
    refine lv_astore_n (lv' := [(3, .ref v2), (0, .ref x0), (1, .int x1), (2, .int x2)]) hx hb dX5_send_6 rfl hl (by decide) rfl (fun ls hl => ?_)
    refine lv_aload_n hx hb dX5_send_7 rfl (lv_at hl 1 rfl) ?_
    refine lv_iload_n hx hb dX5_send_8 rfl (lv_at hl 3 rfl) ?_
    refine mo_cN (n := 1) (As := [.int x2]) (rest := [.ref x0]) C A hml hl.1 (c_X10_partA l D dA b0 x2) (tb_o tb_387) (List.mem_of_getElem? (i := 87) rfl) tb_2 tb_386 rfl (by decide +kernel) ⟨Nat.le_trans (by decide) hfr, Nat.le_trans (Nat.le_of_ble_eq_true rfl) hlo⟩ rfl (Nat.le_of_ble_eq_true rfl) rfl dX5_send_9 hF (fun v3 h H locs hF A => ?_)
    show W _ _ _ _ _ _ _ _ _ _ _ _ _ _ _ (F0 m 12 ls [.int v3, .ref x0])
    refine lv_iconst (v := (0 : Int32)) hx hb dX5_send_12 (by decide) ?_
    refine mo_cV (n := 2) (As := [.int v3, .int (0 : Int32)]) (rest := []) C A hml hl.1 (c_X5_channelOfKind l D dA b0 x0 v3 (0 : Int32)) (ci := 5) (q := (RX5, TX5, 5)) rfl (fun _ e => (mo_ckE e).1) (tb_v tb_442 tb_443 tb_444 tb_29 tb_445) rfl (by decide +kernel) ⟨Nat.le_trans (by decide) hfr, Nat.le_trans (Nat.le_of_ble_eq_true rfl) hlo⟩ rfl (Nat.le_of_ble_eq_true rfl) rfl dX5_send_13 hF (fun v4 h H locs hF A => ?_)
    show W _ _ _ _ _ _ _ _ _ _ _ _ _ _ _ (F0 m 16 ls [va_rf v4])
    refine mo_ast (lv' := [(4, va_rf v4), (3, .ref v2), (0, .ref x0), (1, .int x1), (2, .int x2)]) hx hb dX5_send_16 hl (by decide) rfl (fun ls hl => ?_)
    refine mo_ald hx hb dX5_send_18 (lv_at hl 0 rfl) ?_
    rcases v4 with _ | a5
    · refine lv_ifnullN (tgt := 35) hx hb dX5_send_20 (by decide) ?_
      refine lv_iconst (v := (0 : Int32)) hx hb dX5_send_35 (by decide) ?_
      rw [hQ]
      exact mo_zret C A hr hlocks dX5_send_36 hF
    · refine lv_ifnull hx hb dX5_send_20 ?_
      refine lv_aload hx hb dX5_send_23 (lv_at hl 0 rfl) ?_
      refine mo_wRN C A (T := TX1) iX1 rfl 0 (by decide) (List.mem_of_getElem? (i := 34) rfl) rfl dX5_send_25 hF (fun v6 hF => ?_)
      refine mo_wIN C A (T := TX4) iX4 rfl 0 (by decide) (List.mem_of_getElem? (i := 67) rfl) rfl dX5_send_28 hF (fun v7 hF => ?_)
      refine lv_iload_n hx hb dX5_send_31 rfl (lv_at hl 3 rfl) ?_
      refine lv_icmp_eq (tgt := 37) hx hb dX5_send_32 (by decide) (fun c8 => ?_) (fun c8 => ?_)
      · have hF := mo_ifT c8 hF
        refine lv_aload_n hx hb dX5_send_37 rfl (lv_at hl 1 rfl) ?_
        refine lv_iload_n hx hb dX5_send_38 rfl (lv_at hl 4 rfl) ?_
        refine mo_cN (n := 1) (As := [.int x2]) (rest := [.ref v2]) C A hml hl.1 (c_X10_partB l D dA b0 x2) (tb_o tb_389) (List.mem_of_getElem? (i := 88) rfl) tb_2 tb_388 rfl (by decide +kernel) ⟨Nat.le_trans (by decide) hfr, Nat.le_trans (Nat.le_of_ble_eq_true rfl) hlo⟩ rfl (Nat.le_of_ble_eq_true rfl) rfl dX5_send_39 hF (fun v9 h H locs hF A => ?_)
        show W _ _ _ _ _ _ _ _ _ _ _ _ _ _ _ (F0 m 42 ls [.int v9, .ref v2])
        refine mo_cV (n := 1) (As := [.int v9]) (rest := []) C A hml hl.1 (c_X3_read l D dA b0 v2 v9) (ci := 3) (q := (RX3, TX3, 9)) rfl (fun _ e => (mo_ckE e).1) (tb_v tb_446 tb_391 tb_392 tb_65 tb_393) rfl (by decide +kernel) ⟨Nat.le_trans (by decide) hfr, Nat.le_trans (Nat.le_of_ble_eq_true rfl) hlo⟩ rfl (Nat.le_of_ble_eq_true rfl) rfl dX5_send_42 hF (fun v10 h H locs hF A => ?_)
        show W _ _ _ _ _ _ _ _ _ _ _ _ _ _ _ (F0 m 45 ls [.int v10])
        refine lv_istore (lv' := [(5, .int v10), (4, .ref a5), (3, .ref v2), (0, .ref x0), (1, .int x1), (2, .int x2)]) hx hb dX5_send_45 hl (by decide) rfl (fun ls hl => ?_)
        refine lv_aload_n hx hb dX5_send_47 rfl (lv_at hl 2 rfl) ?_
        refine lv_iload_n hx hb dX5_send_48 rfl (lv_at hl 5 rfl) ?_
        refine mo_cN (n := 1) (As := [.int x2]) (rest := [.ref v2]) C A hml hl.1 (c_X10_partC l D dA b0 x2) (tb_o tb_433) (List.mem_of_getElem? (i := 89) rfl) tb_2 tb_432 rfl (by decide +kernel) ⟨Nat.le_trans (by decide) hfr, Nat.le_trans (Nat.le_of_ble_eq_true rfl) hlo⟩ rfl (Nat.le_of_ble_eq_true rfl) rfl dX5_send_49 hF (fun v11 h H locs hF A => ?_)
        show W _ _ _ _ _ _ _ _ _ _ _ _ _ _ _ (F0 m 52 ls [.int v11, .ref v2])
        refine mo_cV (n := 1) (As := [.int v11]) (rest := []) C A hml hl.1 (c_X3_read l D dA b0 v2 v11) (ci := 3) (q := (RX3, TX3, 9)) rfl (fun _ e => (mo_ckE e).1) (tb_v tb_446 tb_391 tb_392 tb_65 tb_393) rfl (by decide +kernel) ⟨Nat.le_trans (by decide) hfr, Nat.le_trans (Nat.le_of_ble_eq_true rfl) hlo⟩ rfl (Nat.le_of_ble_eq_true rfl) rfl dX5_send_52 hF (fun v12 h H locs hF A => ?_)
        show W _ _ _ _ _ _ _ _ _ _ _ _ _ _ _ (F0 m 55 ls [.int v12])
        refine lv_istore (lv' := [(6, .int v12), (5, .int v10), (4, .ref a5), (3, .ref v2), (0, .ref x0), (1, .int x1), (2, .int x2)]) hx hb dX5_send_55 hl (by decide) rfl (fun ls hl => ?_)
        refine lv_iload hx hb dX5_send_57 (lv_at hl 0 rfl) ?_
        refine lv_iconst (v := (1 : Int32)) hx hb dX5_send_59 (by decide) ?_
        refine lv_icmp_lt (tgt := 79) hx hb dX5_send_60 (by decide) (fun c13 => ?_) (fun c13 => ?_)
        · have hF := mo_ifT c13 hF
          refine lv_iconst (v := (0 : Int32)) hx hb dX5_send_79 (by decide) ?_
          rw [hQ]
          exact mo_zret C A hr hlocks dX5_send_80 hF
        · have hF := mo_ifF c13 hF
          refine lv_iload hx hb dX5_send_63 (lv_at hl 0 rfl) ?_
          refine lv_iconst (v := (4 : Int32)) hx hb dX5_send_65 (by decide) ?_
          refine lv_icmp_gt (tgt := 79) hx hb dX5_send_66 (by decide) (fun c14 => ?_) (fun c14 => ?_)
          · have hF := mo_ifT c14 hF
            refine lv_iconst (v := (0 : Int32)) hx hb dX5_send_79 (by decide) ?_
            rw [hQ]
            exact mo_zret C A hr hlocks dX5_send_80 hF
          · have hF := mo_ifF c14 hF
            refine lv_iload hx hb dX5_send_69 (lv_at hl 1 rfl) ?_
            refine lv_iload hx hb dX5_send_71 (lv_at hl 0 rfl) ?_
            refine mo_cS (n := 2) (As := [.int v10, .int v12]) (rest := []) C A hml hl.1 (c_X3_hasCells l D dA b0 v10 v12) (tb_s tb_447 tb_399 tb_65 tb_400) rfl (by decide +kernel) ⟨Nat.le_trans (by decide) hfr, Nat.le_trans (Nat.le_of_ble_eq_true rfl) hlo⟩ rfl (Nat.le_of_ble_eq_true rfl) rfl dX5_send_73 hF (fun v15 h H locs hF A => ?_)
            show W _ _ _ _ _ _ _ _ _ _ _ _ _ _ _ (F0 m 76 ls [.int v15])
            refine lv_if_ne (tgt := 81) hx hb dX5_send_76 (by decide) (fun c16 => ?_) (fun c16 => ?_)
            · have hF := mo_ifF c16 hF
              refine lv_aload hx hb dX5_send_81 (lv_at hl 2 rfl) ?_
              refine mo_wIN C A (T := TX1) iX1 rfl 3 (by decide) (List.mem_of_getElem? (i := 40) rfl) rfl dX5_send_83 hF (fun v17 hF => ?_)
              refine lv_aload hx hb dX5_send_86 (lv_at hl 2 rfl) ?_
              refine mo_wRN C A (T := TX1) iX1 rfl 0 (by decide) (List.mem_of_getElem? (i := 34) rfl) rfl dX5_send_88 hF (fun v18 hF => ?_)
              refine mo_wIN C A (T := TX4) iX4 rfl 3 (by decide) (List.mem_of_getElem? (i := 76) rfl) rfl dX5_send_91 hF (fun v19 hF => ?_)
              refine lv_icmp_ne (tgt := 104) hx hb dX5_send_94 (by decide) (fun c20 => ?_) (fun c20 => ?_)
              · have hF := mo_ifF c20 hF
                refine lv_aload hx hb dX5_send_104 (lv_at hl 2 rfl) ?_
                refine lv_dup hx hb dX5_send_106 rfl ?_
                refine mo_wIN C A (T := TX1) iX1 rfl 3 (by decide) (List.mem_of_getElem? (i := 40) rfl) rfl dX5_send_107 hF (fun v21 hF => ?_)
                refine lv_iconst (v := (1 : Int32)) hx hb dX5_send_110 (by decide) ?_
                refine lv_iadd hx hb dX5_send_111 ?_
                refine mo_wpN C A (T := TX1) iX1 tyX1 tyX1_ok nmX1 rfl 3 (by decide) (List.mem_of_getElem? (i := 40) rfl) rfl rfl rfl rfl dX5_send_112 hF (fun h H locs hF A => ?_)
                refine lv_aload hx hb dX5_send_115 (lv_at hl 2 rfl) ?_
                refine mo_wRN C A (T := TX1) iX1 rfl 2 (by decide) (List.mem_of_getElem? (i := 38) rfl) rfl dX5_send_117 hF (fun v22 hF => ?_)
                refine lv_aload_n hx hb dX5_send_120 rfl (lv_at hl 3 rfl) ?_
                refine mo_wRN C A (T := TX3) iX3 rfl 1 (by decide) (List.mem_of_getElem? (i := 21) rfl) rfl dX5_send_121 hF (fun v23 hF => ?_)
                refine lv_iload hx hb dX5_send_124 (lv_at hl 1 rfl) ?_
                refine lv_iload hx hb dX5_send_126 (lv_at hl 0 rfl) ?_
                refine mo_cV (n := 3) (As := [.ref v23, .int v10, .int v12]) (rest := []) C A hml hl.1 (c_X6_add l D dA b0 v22 v23 v10 v12) (ci := 6) (q := (RX6, TX6, 3)) rfl (fun _ e => (mo_ckE e).1) (tb_v tb_449 tb_450 tb_451 tb_91 tb_452) rfl (by decide +kernel) ⟨Nat.le_trans (by decide) hfr, Nat.le_trans (Nat.le_of_ble_eq_true rfl) hlo⟩ rfl (Nat.le_of_ble_eq_true rfl) rfl dX5_send_128 hF (fun v24 h H locs hF A => ?_)
                show W _ _ _ _ _ _ _ _ _ _ _ _ _ _ _ (F0 m 131 ls [])
                refine lv_aload_n hx hb dX5_send_131 rfl (lv_at hl 3 rfl) ?_
                refine lv_iconst (v := (1 : Int32)) hx hb dX5_send_132 (by decide) ?_
                refine mo_cV (n := 1) (As := [.int (1 : Int32)]) (rest := []) C A hml hl.1 (c_X3_report l D dA b0 v2 (1 : Int32)) (ci := 3) (q := (RX3, TX3, 9)) rfl (fun _ e => (mo_ckE e).1) (tb_v tb_448 tb_419 tb_420 tb_65 tb_421) rfl (by decide +kernel) ⟨Nat.le_trans (by decide) hfr, Nat.le_trans (Nat.le_of_ble_eq_true rfl) hlo⟩ rfl (Nat.le_of_ble_eq_true rfl) rfl dX5_send_133 hF (fun v25 h H locs hF A => ?_)
                show W _ _ _ _ _ _ _ _ _ _ _ _ _ _ _ (F0 m 136 ls [])
                refine lv_iconst (v := (1 : Int32)) hx hb dX5_send_136 (by decide) ?_
                rw [hQ]
                exact mo_zret C A hr hlocks dX5_send_137 hF
              · have hF := mo_ifT c20 hF
                refine lv_aload_n hx hb dX5_send_97 rfl (lv_at hl 3 rfl) ?_
                refine lv_iconst (v := (0 : Int32)) hx hb dX5_send_98 (by decide) ?_
                refine mo_cV (n := 1) (As := [.int (0 : Int32)]) (rest := []) C A hml hl.1 (c_X3_report l D dA b0 v2 (0 : Int32)) (ci := 3) (q := (RX3, TX3, 9)) rfl (fun _ e => (mo_ckE e).1) (tb_v tb_448 tb_419 tb_420 tb_65 tb_421) rfl (by decide +kernel) ⟨Nat.le_trans (by decide) hfr, Nat.le_trans (Nat.le_of_ble_eq_true rfl) hlo⟩ rfl (Nat.le_of_ble_eq_true rfl) rfl dX5_send_99 hF (fun v26 h H locs hF A => ?_)
                show W _ _ _ _ _ _ _ _ _ _ _ _ _ _ _ (F0 m 102 ls [])
                refine lv_iconst (v := (1 : Int32)) hx hb dX5_send_102 (by decide) ?_
                rw [hQ]
                exact mo_zret C A hr hlocks dX5_send_103 hF
            · have hF := mo_ifT c16 hF
              refine lv_iconst (v := (0 : Int32)) hx hb dX5_send_79 (by decide) ?_
              rw [hQ]
              exact mo_zret C A hr hlocks dX5_send_80 hF
      · have hF := mo_ifF c8 hF
        refine lv_iconst (v := (0 : Int32)) hx hb dX5_send_35 (by decide) ?_
        rw [hQ]
        exact mo_zret C A hr hlocks dX5_send_36 hF
  exact E h0 s.heap [] hF A
set_option maxHeartbeats 4000000 in
set_option maxRecDepth 100000 in
theorem c_X6_nextWords (l : Launch) (D : va_G) (dA : Nat → ClassId) (b0 : Nat) (x0 : Nat) : mo_Met l yX6_nextWords [Cond.code yX6_nextWords cX6_nextWords 1 (some .int)] 0 0 D dA b0 [.ref x0] (fun r : Int32 => some (.int r)) (F_X6_nextWords x0) := by
  refine mo_MetOf (own := RX6) (by decide) (Nat.le_of_ble_eq_true rfl) [(0, .ref x0)] rfl rfl ?_
  intro p e R s m args below meth c Q h0 h2 z ls hQ C hml hr hlocks hnm hfr hlo hF A hl
  have hx := C.1
  have hb := C.2.1
  have hown := C.2.2.1
  have hts := C.2.2.2.1
  have hK := C.2.2.2.2.1
  have iX6 := inlX6
  unfold F_X6_nextWords at hF
  obtain ⟨-, hF⟩ := mo_ckE hF
  have E : ∀ (h : mo_H) (H : Heap) (locs : List Loc), (mo_b (mo_gI x0 6 2) fun v1 => mo_b (mo_gI x0 6 1) fun v2 => (if v2 ≤ v1 then mo_ret (0 : Int32) else mo_b (mo_gR x0 6 0) fun v4 => mo_b (mo_gI x0 6 2) fun v5 => mo_b (mo_la 0 v4 ((5 : Int32) * v5)) fun v6 => mo_ret v6)).1 h = some (z, h2) → mo_A D dA b0 s.heap h0 h H locs → W p l e R s m args below meth c H locs (h.2.1 - h0.2.1) (h.2.2 - h0.2.2) Q (F0 m 0 ls []) := by
    intro h H locs hF A
    refine lv_aload_n hx hb dX6_nextWords_0 rfl (lv_at hl 0 rfl) ?_
    refine mo_wI C A (T := TX6) iX6 rfl 2 (by decide) tb_366 rfl dX6_nextWords_1 hF (fun v1 hF => ?_)
    refine lv_aload_n hx hb dX6_nextWords_4 rfl (lv_at hl 0 rfl) ?_
    refine mo_wI C A (T := TX6) iX6 rfl 1 (by decide) tb_365 rfl dX6_nextWords_5 hF (fun v2 hF => ?_)
    refine lv_icmp_ge (tgt := 25) hx hb dX6_nextWords_8 (by decide) (fun c3 => ?_) (fun c3 => ?_)
    · have hF := mo_ifT c3 hF
      refine lv_iconst (v := (0 : Int32)) hx hb dX6_nextWords_25 (by decide) ?_
      rw [hQ]
      exact mo_iret C A hr hlocks dX6_nextWords_26 hF
    · have hF := mo_ifF c3 hF
      refine lv_aload_n hx hb dX6_nextWords_11 rfl (lv_at hl 0 rfl) ?_
      refine mo_wR C A (T := TX6) iX6 rfl 0 (by decide) tb_100 rfl dX6_nextWords_12 hF (fun v4 hF => ?_)
      refine lv_iconst (v := (5 : Int32)) hx hb dX6_nextWords_15 (by decide) ?_
      refine lv_aload_n hx hb dX6_nextWords_16 rfl (lv_at hl 0 rfl) ?_
      refine mo_wI C A (T := TX6) iX6 rfl 2 (by decide) tb_366 rfl dX6_nextWords_17 hF (fun v5 hF => ?_)
      refine lv_imul hx hb dX6_nextWords_20 ?_
      refine mo_wla C A dX6_nextWords_21 hF (fun v6 hF => ?_)
      refine lv_goto (tgt := 26) hx hb dX6_nextWords_22 (by decide) ?_
      rw [hQ]
      exact mo_iret C A hr hlocks dX6_nextWords_26 hF
  exact E h0 s.heap [] hF A
set_option maxHeartbeats 4000000 in
set_option maxRecDepth 100000 in
theorem c_X6_takeInto (l : Launch) (D : va_G) (dA : Nat → ClassId) (b0 : Nat) (x0 : Nat) (x1 : Nat) (x2 : Int32) : mo_Met l yX6_takeInto [Cond.code yX6_takeInto cX6_takeInto 3 none] 1 18 D dA b0 [.ref x0, .ref x1, .int x2] (fun _ : Unit => none) (F_X6_takeInto x0 x1 x2) := by
  refine mo_MetOf (own := RX6) (by decide) (Nat.le_of_ble_eq_true rfl) [(0, .ref x0), (1, .ref x1), (2, .int x2)] rfl rfl ?_
  intro p e R s m args below meth c Q h0 h2 z ls hQ C hml hr hlocks hnm hfr hlo hF A hl
  have hx := C.1
  have hb := C.2.1
  have hown := C.2.2.1
  have hts := C.2.2.2.1
  have hK := C.2.2.2.2.1
  have iX6 := inlX6
  unfold F_X6_takeInto at hF
  obtain ⟨-, hF⟩ := mo_ckE hF
  have E : ∀ (h : mo_H) (H : Heap) (locs : List Loc), (mo_b (mo_gI x0 6 2) fun v1 => mo_b (mo_gI x0 6 1) fun v2 => (if v2 ≤ v1 then mo_ret () else mo_b (mo_gR x0 6 0) fun v4 => mo_b (mo_gI x0 6 2) fun v5 => mo_b (mo_gR x0 6 0) fun v6 => mo_b (mo_gI x0 6 2) fun v7 => mo_b (mo_la 0 v6 ((5 : Int32) * v7)) fun v8 => mo_b (mo_cp v4 (((5 : Int32) * v5) + (1 : Int32)) x1 x2 v8) fun _ => mo_b (mo_gI x0 6 2) fun v9 => mo_b (mo_pV x0 6 2 (.int (v9 + (1 : Int32)))) fun _ => mo_ret ())).1 h = some (z, h2) → mo_A D dA b0 s.heap h0 h H locs → W p l e R s m args below meth c H locs (h.2.1 - h0.2.1) (h.2.2 - h0.2.2) Q (F0 m 0 ls []) := by
    intro h H locs hF A
    refine lv_aload_n hx hb dX6_takeInto_0 rfl (lv_at hl 0 rfl) ?_
    refine mo_wI C A (T := TX6) iX6 rfl 2 (by decide) tb_366 rfl dX6_takeInto_1 hF (fun v1 hF => ?_)
    refine lv_aload_n hx hb dX6_takeInto_4 rfl (lv_at hl 0 rfl) ?_
    refine mo_wI C A (T := TX6) iX6 rfl 1 (by decide) tb_365 rfl dX6_takeInto_5 hF (fun v2 hF => ?_)
    refine lv_icmp_ge (tgt := 49) hx hb dX6_takeInto_8 (by decide) (fun c3 => ?_) (fun c3 => ?_)
    · have hF := mo_ifT c3 hF
      rw [hQ]
      exact mo_vret C A hr hlocks dX6_takeInto_49 hF
    · have hF := mo_ifF c3 hF
      refine lv_aload_n hx hb dX6_takeInto_11 rfl (lv_at hl 0 rfl) ?_
      refine mo_wR C A (T := TX6) iX6 rfl 0 (by decide) tb_100 rfl dX6_takeInto_12 hF (fun v4 hF => ?_)
      refine lv_iconst (v := (5 : Int32)) hx hb dX6_takeInto_15 (by decide) ?_
      refine lv_aload_n hx hb dX6_takeInto_16 rfl (lv_at hl 0 rfl) ?_
      refine mo_wI C A (T := TX6) iX6 rfl 2 (by decide) tb_366 rfl dX6_takeInto_17 hF (fun v5 hF => ?_)
      refine lv_imul hx hb dX6_takeInto_20 ?_
      refine lv_iconst (v := (1 : Int32)) hx hb dX6_takeInto_21 (by decide) ?_
      refine lv_iadd hx hb dX6_takeInto_22 ?_
      refine lv_aload_n hx hb dX6_takeInto_23 rfl (lv_at hl 1 rfl) ?_
      refine lv_iload_n hx hb dX6_takeInto_24 rfl (lv_at hl 2 rfl) ?_
      refine lv_aload_n hx hb dX6_takeInto_25 rfl (lv_at hl 0 rfl) ?_
      refine mo_wR C A (T := TX6) iX6 rfl 0 (by decide) tb_100 rfl dX6_takeInto_26 hF (fun v6 hF => ?_)
      refine lv_iconst (v := (5 : Int32)) hx hb dX6_takeInto_29 (by decide) ?_
      refine lv_aload_n hx hb dX6_takeInto_30 rfl (lv_at hl 0 rfl) ?_
      refine mo_wI C A (T := TX6) iX6 rfl 2 (by decide) tb_366 rfl dX6_takeInto_31 hF (fun v7 hF => ?_)
      refine lv_imul hx hb dX6_takeInto_34 ?_
      refine mo_wla C A dX6_takeInto_35 hF (fun v8 hF => ?_)
      refine mo_wcp C A (by rw [hml]; exact hl.1.symm) tb_453 tb_248 tb_249 tb_250 (Nat.le_trans (by decide) hfr) (Nat.le_trans (Nat.le_of_ble_eq_true rfl) hlo) dX6_takeInto_36 hF (fun h H locs hF A => ?_)
      refine lv_aload_n hx hb dX6_takeInto_39 rfl (lv_at hl 0 rfl) ?_
      refine lv_dup hx hb dX6_takeInto_40 rfl ?_
      refine mo_wI C A (T := TX6) iX6 rfl 2 (by decide) tb_366 rfl dX6_takeInto_41 hF (fun v9 hF => ?_)
      refine lv_iconst (v := (1 : Int32)) hx hb dX6_takeInto_44 (by decide) ?_
      refine lv_iadd hx hb dX6_takeInto_45 ?_
      refine mo_wpV C A (T := TX6) iX6 tyX6 tyX6_ok nmX6 rfl 2 (by decide) tb_366 rfl rfl rfl rfl dX6_takeInto_46 hF (fun h H locs hF A => ?_)
      rw [hQ]
      exact mo_vret C A hr hlocks dX6_takeInto_49 hF
  exact E h0 s.heap [] hF A
set_option maxHeartbeats 4000000 in
set_option maxRecDepth 100000 in
theorem c_X5_take (l : Launch) (D : va_G) (dA : Nat → ClassId) (b0 : Nat) (x0 : Nat) (x1 : Int32) (x2 : Int32) : mo_Met l yX5_take [Cond.code yX5_take cX5_take 7 (some .boolean)] 2 40 D dA b0 [.ref x0, .int x1, .int x2] (fun r : Int32 => some (.int r)) (F_X5_take x0 x1 x2) := by
  refine mo_MetOf (own := RX5) (by decide) (Nat.le_of_ble_eq_true rfl) [(0, .ref x0), (1, .int x1), (2, .int x2)] rfl rfl ?_
  intro p e R s m args below meth c Q h0 h2 z ls hQ C hml hr hlocks hnm hfr hlo hF A hl
  have hx := C.1
  have hb := C.2.1
  have hown := C.2.2.1
  have hts := C.2.2.2.1
  have hK := C.2.2.2.2.1
  have iX1 := inlX1
  have iX3 := inlX3
  have iX4 := inlX4
  have iX5 := inlX5
  unfold F_X5_take at hF
  obtain ⟨-, hF⟩ := mo_ckE hF
  have E : ∀ (h : mo_H) (H : Heap) (locs : List Loc), (mo_b (mo_gR x0 5 1) fun v1 => mo_b (mo_lq 4 v1 x1) fun v2 => mo_b (F_X10_partA x2) fun v3 => mo_b (F_X5_channelOfKind x0 v3 (0 : Int32)) fun v4 => (mo_mO v4 (mo_rz (0 : Int32)) (fun a5 => mo_b (mo_gR a5 1 0) fun v6 => mo_b (mo_gI v6 4 1) fun v7 => (if v7 = x1 then mo_b (mo_gR a5 1 1) fun v9 => mo_b (F_X6_left v9) fun v10 => (if v10 = 0 then mo_b (F_X3_report v2 (-1 : Int32)) fun v22 => mo_rz (1 : Int32) else mo_b (F_X10_partB x2) fun v12 => mo_b (F_X3_read v2 v12) fun v13 => mo_b (mo_gR a5 1 1) fun v14 => mo_b (F_X6_nextWords v14) fun v15 => mo_b (F_X3_hasCells v13 v15) fun v16 => (if v16 = 0 then mo_rz (0 : Int32) else mo_b (mo_gR a5 1 1) fun v18 => mo_b (mo_gR v2 3 1) fun v19 => mo_b (F_X6_takeInto v18 v19 v13) fun v20 => mo_b (F_X3_report v2 v15) fun v21 => mo_rz (1 : Int32))) else mo_rz (0 : Int32))))).1 h = some (z, h2) → mo_A D dA b0 s.heap h0 h H locs → W p l e R s m args below meth c H locs (h.2.1 - h0.2.1) (h.2.2 - h0.2.2) Q (F0 m 0 ls []) := by
    intro h H locs hF A
    refine lv_aload_n hx hb dX5_take_0 rfl (lv_at hl 0 rfl) ?_
    refine mo_wR C A (T := TX5) iX5 rfl 1 (by decide) tb_63 rfl dX5_take_1 hF (fun v1 hF => ?_)
    refine lv_iload_n hx hb dX5_take_4 rfl (lv_at hl 1 rfl) ?_
    refine mo_wlq C A (t := 4) (fun _ => rfl) dX5_take_5 hF (fun v2 hF => ?_)
    refine lv_astore_n (lv' := [(3, .ref v2), (0, .ref x0), (1, .int x1), (2, .int x2)]) hx hb dX5_take_6 rfl hl (by decide) rfl (fun ls hl => ?_)
    refine lv_aload_n hx hb dX5_take_7 rfl (lv_at hl 1 rfl) ?_
    refine lv_iload_n hx hb dX5_take_8 rfl (lv_at hl 3 rfl) ?_
    refine mo_cN (n := 1) (As := [.int x2]) (rest := [.ref x0]) C A hml hl.1 (c_X10_partA l D dA b0 x2) (tb_o tb_387) (List.mem_of_getElem? (i := 87) rfl) tb_2 tb_386 rfl (by decide +kernel) ⟨Nat.le_trans (by decide) hfr, Nat.le_trans (Nat.le_of_ble_eq_true rfl) hlo⟩ rfl (Nat.le_of_ble_eq_true rfl) rfl dX5_take_9 hF (fun v3 h H locs hF A => ?_)
    show W _ _ _ _ _ _ _ _ _ _ _ _ _ _ _ (F0 m 12 ls [.int v3, .ref x0])
    refine lv_iconst (v := (0 : Int32)) hx hb dX5_take_12 (by decide) ?_
    refine mo_cV (n := 2) (As := [.int v3, .int (0 : Int32)]) (rest := []) C A hml hl.1 (c_X5_channelOfKind l D dA b0 x0 v3 (0 : Int32)) (ci := 5) (q := (RX5, TX5, 5)) rfl (fun _ e => (mo_ckE e).1) (tb_v tb_442 tb_443 tb_444 tb_29 tb_445) rfl (by decide +kernel) ⟨Nat.le_trans (by decide) hfr, Nat.le_trans (Nat.le_of_ble_eq_true rfl) hlo⟩ rfl (Nat.le_of_ble_eq_true rfl) rfl dX5_take_13 hF (fun v4 h H locs hF A => ?_)
    show W _ _ _ _ _ _ _ _ _ _ _ _ _ _ _ (F0 m 16 ls [va_rf v4])
    refine mo_ast (lv' := [(4, va_rf v4), (3, .ref v2), (0, .ref x0), (1, .int x1), (2, .int x2)]) hx hb dX5_take_16 hl (by decide) rfl (fun ls hl => ?_)
    refine mo_ald hx hb dX5_take_18 (lv_at hl 0 rfl) ?_
    rcases v4 with _ | a5
    · refine lv_ifnullN (tgt := 35) hx hb dX5_take_20 (by decide) ?_
      refine lv_iconst (v := (0 : Int32)) hx hb dX5_take_35 (by decide) ?_
      rw [hQ]
      exact mo_zret C A hr hlocks dX5_take_36 hF
    · refine lv_ifnull hx hb dX5_take_20 ?_
      refine lv_aload hx hb dX5_take_23 (lv_at hl 0 rfl) ?_
      refine mo_wRN C A (T := TX1) iX1 rfl 0 (by decide) (List.mem_of_getElem? (i := 34) rfl) rfl dX5_take_25 hF (fun v6 hF => ?_)
      refine mo_wIN C A (T := TX4) iX4 rfl 1 (by decide) (List.mem_of_getElem? (i := 70) rfl) rfl dX5_take_28 hF (fun v7 hF => ?_)
      refine lv_iload_n hx hb dX5_take_31 rfl (lv_at hl 3 rfl) ?_
      refine lv_icmp_eq (tgt := 37) hx hb dX5_take_32 (by decide) (fun c8 => ?_) (fun c8 => ?_)
      · have hF := mo_ifT c8 hF
        refine lv_aload hx hb dX5_take_37 (lv_at hl 0 rfl) ?_
        refine mo_wRN C A (T := TX1) iX1 rfl 1 (by decide) (List.mem_of_getElem? (i := 37) rfl) rfl dX5_take_39 hF (fun v9 hF => ?_)
        refine mo_cV (n := 0) (As := []) (rest := []) C A hml hl.1 (c_X6_left l D dA b0 v9) (ci := 6) (q := (RX6, TX6, 3)) rfl (fun _ e => (mo_ckE e).1) (tb_v tb_459 tb_362 tb_363 tb_91 tb_364) rfl (by decide +kernel) ⟨Nat.le_trans (by decide) hfr, Nat.le_trans (Nat.le_of_ble_eq_true rfl) hlo⟩ rfl (Nat.le_of_ble_eq_true rfl) rfl dX5_take_42 hF (fun v10 h H locs hF A => ?_)
        show W _ _ _ _ _ _ _ _ _ _ _ _ _ _ _ (F0 m 45 ls [.int v10])
        refine lv_if_ne (tgt := 55) hx hb dX5_take_45 (by decide) (fun c11 => ?_) (fun c11 => ?_)
        · have hF := mo_ifF c11 hF
          refine lv_aload_n hx hb dX5_take_55 rfl (lv_at hl 1 rfl) ?_
          refine lv_iload_n hx hb dX5_take_56 rfl (lv_at hl 4 rfl) ?_
          refine mo_cN (n := 1) (As := [.int x2]) (rest := [.ref v2]) C A hml hl.1 (c_X10_partB l D dA b0 x2) (tb_o tb_389) (List.mem_of_getElem? (i := 88) rfl) tb_2 tb_388 rfl (by decide +kernel) ⟨Nat.le_trans (by decide) hfr, Nat.le_trans (Nat.le_of_ble_eq_true rfl) hlo⟩ rfl (Nat.le_of_ble_eq_true rfl) rfl dX5_take_57 hF (fun v12 h H locs hF A => ?_)
          show W _ _ _ _ _ _ _ _ _ _ _ _ _ _ _ (F0 m 60 ls [.int v12, .ref v2])
          refine mo_cV (n := 1) (As := [.int v12]) (rest := []) C A hml hl.1 (c_X3_read l D dA b0 v2 v12) (ci := 3) (q := (RX3, TX3, 9)) rfl (fun _ e => (mo_ckE e).1) (tb_v tb_446 tb_391 tb_392 tb_65 tb_393) rfl (by decide +kernel) ⟨Nat.le_trans (by decide) hfr, Nat.le_trans (Nat.le_of_ble_eq_true rfl) hlo⟩ rfl (Nat.le_of_ble_eq_true rfl) rfl dX5_take_60 hF (fun v13 h H locs hF A => ?_)
          show W _ _ _ _ _ _ _ _ _ _ _ _ _ _ _ (F0 m 63 ls [.int v13])
          refine lv_istore (lv' := [(5, .int v13), (4, .ref a5), (3, .ref v2), (0, .ref x0), (1, .int x1), (2, .int x2)]) hx hb dX5_take_63 hl (by decide) rfl (fun ls hl => ?_)
          refine lv_aload hx hb dX5_take_65 (lv_at hl 1 rfl) ?_
          refine mo_wRN C A (T := TX1) iX1 rfl 1 (by decide) (List.mem_of_getElem? (i := 37) rfl) rfl dX5_take_67 hF (fun v14 hF => ?_)
          refine mo_cV (n := 0) (As := []) (rest := []) C A hml hl.1 (c_X6_nextWords l D dA b0 v14) (ci := 6) (q := (RX6, TX6, 3)) rfl (fun _ e => (mo_ckE e).1) (tb_v tb_460 tb_461 tb_462 tb_91 tb_463) rfl (by decide +kernel) ⟨Nat.le_trans (by decide) hfr, Nat.le_trans (Nat.le_of_ble_eq_true rfl) hlo⟩ rfl (Nat.le_of_ble_eq_true rfl) rfl dX5_take_70 hF (fun v15 h H locs hF A => ?_)
          show W _ _ _ _ _ _ _ _ _ _ _ _ _ _ _ (F0 m 73 ls [.int v15])
          refine lv_istore (lv' := [(6, .int v15), (5, .int v13), (4, .ref a5), (3, .ref v2), (0, .ref x0), (1, .int x1), (2, .int x2)]) hx hb dX5_take_73 hl (by decide) rfl (fun ls hl => ?_)
          refine lv_iload hx hb dX5_take_75 (lv_at hl 1 rfl) ?_
          refine lv_iload hx hb dX5_take_77 (lv_at hl 0 rfl) ?_
          refine mo_cS (n := 2) (As := [.int v13, .int v15]) (rest := []) C A hml hl.1 (c_X3_hasCells l D dA b0 v13 v15) (tb_s tb_447 tb_399 tb_65 tb_400) rfl (by decide +kernel) ⟨Nat.le_trans (by decide) hfr, Nat.le_trans (Nat.le_of_ble_eq_true rfl) hlo⟩ rfl (Nat.le_of_ble_eq_true rfl) rfl dX5_take_79 hF (fun v16 h H locs hF A => ?_)
          show W _ _ _ _ _ _ _ _ _ _ _ _ _ _ _ (F0 m 82 ls [.int v16])
          refine lv_if_ne (tgt := 87) hx hb dX5_take_82 (by decide) (fun c17 => ?_) (fun c17 => ?_)
          · have hF := mo_ifF c17 hF
            refine lv_aload hx hb dX5_take_87 (lv_at hl 2 rfl) ?_
            refine mo_wRN C A (T := TX1) iX1 rfl 1 (by decide) (List.mem_of_getElem? (i := 37) rfl) rfl dX5_take_89 hF (fun v18 hF => ?_)
            refine lv_aload_n hx hb dX5_take_92 rfl (lv_at hl 3 rfl) ?_
            refine mo_wRN C A (T := TX3) iX3 rfl 1 (by decide) (List.mem_of_getElem? (i := 21) rfl) rfl dX5_take_93 hF (fun v19 hF => ?_)
            refine lv_iload hx hb dX5_take_96 (lv_at hl 1 rfl) ?_
            refine mo_cV (n := 2) (As := [.ref v19, .int v13]) (rest := []) C A hml hl.1 (c_X6_takeInto l D dA b0 v18 v19 v13) (ci := 6) (q := (RX6, TX6, 3)) rfl (fun _ e => (mo_ckE e).1) (tb_v tb_464 tb_465 tb_466 tb_91 tb_467) rfl (by decide +kernel) ⟨Nat.le_trans (by decide) hfr, Nat.le_trans (Nat.le_of_ble_eq_true rfl) hlo⟩ rfl (Nat.le_of_ble_eq_true rfl) rfl dX5_take_98 hF (fun v20 h H locs hF A => ?_)
            show W _ _ _ _ _ _ _ _ _ _ _ _ _ _ _ (F0 m 101 ls [])
            refine lv_aload_n hx hb dX5_take_101 rfl (lv_at hl 3 rfl) ?_
            refine lv_iload hx hb dX5_take_102 (lv_at hl 0 rfl) ?_
            refine mo_cV (n := 1) (As := [.int v15]) (rest := []) C A hml hl.1 (c_X3_report l D dA b0 v2 v15) (ci := 3) (q := (RX3, TX3, 9)) rfl (fun _ e => (mo_ckE e).1) (tb_v tb_448 tb_419 tb_420 tb_65 tb_421) rfl (by decide +kernel) ⟨Nat.le_trans (by decide) hfr, Nat.le_trans (Nat.le_of_ble_eq_true rfl) hlo⟩ rfl (Nat.le_of_ble_eq_true rfl) rfl dX5_take_104 hF (fun v21 h H locs hF A => ?_)
            show W _ _ _ _ _ _ _ _ _ _ _ _ _ _ _ (F0 m 107 ls [])
            refine lv_iconst (v := (1 : Int32)) hx hb dX5_take_107 (by decide) ?_
            rw [hQ]
            exact mo_zret C A hr hlocks dX5_take_108 hF
          · have hF := mo_ifT c17 hF
            refine lv_iconst (v := (0 : Int32)) hx hb dX5_take_85 (by decide) ?_
            rw [hQ]
            exact mo_zret C A hr hlocks dX5_take_86 hF
        · have hF := mo_ifT c11 hF
          refine lv_aload_n hx hb dX5_take_48 rfl (lv_at hl 1 rfl) ?_
          refine lv_iconst (v := (-1 : Int32)) hx hb dX5_take_49 (by decide) ?_
          refine mo_cV (n := 1) (As := [.int (-1 : Int32)]) (rest := []) C A hml hl.1 (c_X3_report l D dA b0 v2 (-1 : Int32)) (ci := 3) (q := (RX3, TX3, 9)) rfl (fun _ e => (mo_ckE e).1) (tb_v tb_448 tb_419 tb_420 tb_65 tb_421) rfl (by decide +kernel) ⟨Nat.le_trans (by decide) hfr, Nat.le_trans (Nat.le_of_ble_eq_true rfl) hlo⟩ rfl (Nat.le_of_ble_eq_true rfl) rfl dX5_take_50 hF (fun v22 h H locs hF A => ?_)
          show W _ _ _ _ _ _ _ _ _ _ _ _ _ _ _ (F0 m 53 ls [])
          refine lv_iconst (v := (1 : Int32)) hx hb dX5_take_53 (by decide) ?_
          rw [hQ]
          exact mo_zret C A hr hlocks dX5_take_54 hF
      · have hF := mo_ifF c8 hF
        refine lv_iconst (v := (0 : Int32)) hx hb dX5_take_35 (by decide) ?_
        rw [hQ]
        exact mo_zret C A hr hlocks dX5_take_36 hF
  exact E h0 s.heap [] hF A
set_option maxHeartbeats 4000000 in
set_option maxRecDepth 100000 in
theorem c_X5_writeBoard (l : Launch) (D : va_G) (dA : Nat → ClassId) (b0 : Nat) (x0 : Nat) (x1 : Int32) (x2 : Int32) : mo_Met l yX5_writeBoard [Cond.code yX5_writeBoard cX5_writeBoard 6 (some .boolean)] 1 22 D dA b0 [.ref x0, .int x1, .int x2] (fun r : Int32 => some (.int r)) (F_X5_writeBoard x0 x1 x2) := by
  refine mo_MetOf (own := RX5) (by decide) (Nat.le_of_ble_eq_true rfl) [(0, .ref x0), (1, .int x1), (2, .int x2)] rfl rfl ?_
  intro p e R s m args below meth c Q h0 h2 z ls hQ C hml hr hlocks hnm hfr hlo hF A hl
  have hx := C.1
  have hb := C.2.1
  have hown := C.2.2.1
  have hts := C.2.2.2.1
  have hK := C.2.2.2.2.1
  have iX1 := inlX1
  have iX2 := inlX2
  have iX3 := inlX3
  have iX4 := inlX4
  have iX5 := inlX5
  unfold F_X5_writeBoard at hF
  obtain ⟨-, hF⟩ := mo_ckE hF
  have E : ∀ (h : mo_H) (H : Heap) (locs : List Loc), (mo_b (mo_gR x0 5 1) fun v1 => mo_b (mo_lq 4 v1 x1) fun v2 => mo_b (F_X10_partA x2) fun v3 => mo_b (F_X5_channelOfKind x0 v3 (1 : Int32)) fun v4 => mo_b (F_X10_partB x2) fun v5 => mo_b (F_X3_read v2 v5) fun v6 => (mo_mO v4 (mo_rz (0 : Int32)) (fun a7 => mo_b (mo_gR a7 1 0) fun v8 => mo_b (mo_gI v8 4 0) fun v9 => (if v9 = x1 then mo_b (mo_gR a7 1 0) fun v11 => mo_b (mo_gI v11 4 3) fun v12 => mo_b (F_X3_hasCells v6 v12) fun v13 => (if v13 = 0 then mo_rz (0 : Int32) else mo_b (mo_gR v2 3 1) fun v15 => mo_b (mo_gR a7 1 5) fun v16 => mo_b (mo_gR a7 1 0) fun v17 => mo_b (mo_gI v17 4 3) fun v18 => mo_b (mo_cp v15 v6 v16 (0 : Int32) v18) fun _ => mo_b (mo_gI a7 1 6) fun v19 => mo_b (mo_pV a7 1 6 (.int (v19 + (1 : Int32)))) fun _ => mo_b (mo_gR x0 5 3) fun v20 => mo_b (mo_gI v20 2 1) fun v21 => mo_b (mo_pV a7 1 7 (.int v21)) fun _ => mo_rz (1 : Int32)) else mo_rz (0 : Int32))))).1 h = some (z, h2) → mo_A D dA b0 s.heap h0 h H locs → W p l e R s m args below meth c H locs (h.2.1 - h0.2.1) (h.2.2 - h0.2.2) Q (F0 m 0 ls []) := by
    intro h H locs hF A
    refine lv_aload_n hx hb dX5_writeBoard_0 rfl (lv_at hl 0 rfl) ?_
    refine mo_wR C A (T := TX5) iX5 rfl 1 (by decide) tb_63 rfl dX5_writeBoard_1 hF (fun v1 hF => ?_)
    refine lv_iload_n hx hb dX5_writeBoard_4 rfl (lv_at hl 1 rfl) ?_
    refine mo_wlq C A (t := 4) (fun _ => rfl) dX5_writeBoard_5 hF (fun v2 hF => ?_)
    refine lv_astore_n (lv' := [(3, .ref v2), (0, .ref x0), (1, .int x1), (2, .int x2)]) hx hb dX5_writeBoard_6 rfl hl (by decide) rfl (fun ls hl => ?_)
    refine lv_aload_n hx hb dX5_writeBoard_7 rfl (lv_at hl 1 rfl) ?_
    refine lv_iload_n hx hb dX5_writeBoard_8 rfl (lv_at hl 3 rfl) ?_
    refine mo_cN (n := 1) (As := [.int x2]) (rest := [.ref x0]) C A hml hl.1 (c_X10_partA l D dA b0 x2) (tb_o tb_387) (List.mem_of_getElem? (i := 87) rfl) tb_2 tb_386 rfl (by decide +kernel) ⟨Nat.le_trans (by decide) hfr, Nat.le_trans (Nat.le_of_ble_eq_true rfl) hlo⟩ rfl (Nat.le_of_ble_eq_true rfl) rfl dX5_writeBoard_9 hF (fun v3 h H locs hF A => ?_)
    show W _ _ _ _ _ _ _ _ _ _ _ _ _ _ _ (F0 m 12 ls [.int v3, .ref x0])
    refine lv_iconst (v := (1 : Int32)) hx hb dX5_writeBoard_12 (by decide) ?_
    refine mo_cV (n := 2) (As := [.int v3, .int (1 : Int32)]) (rest := []) C A hml hl.1 (c_X5_channelOfKind l D dA b0 x0 v3 (1 : Int32)) (ci := 5) (q := (RX5, TX5, 5)) rfl (fun _ e => (mo_ckE e).1) (tb_v tb_442 tb_443 tb_444 tb_29 tb_445) rfl (by decide +kernel) ⟨Nat.le_trans (by decide) hfr, Nat.le_trans (Nat.le_of_ble_eq_true rfl) hlo⟩ rfl (Nat.le_of_ble_eq_true rfl) rfl dX5_writeBoard_13 hF (fun v4 h H locs hF A => ?_)
    show W _ _ _ _ _ _ _ _ _ _ _ _ _ _ _ (F0 m 16 ls [va_rf v4])
    refine mo_ast (lv' := [(4, va_rf v4), (3, .ref v2), (0, .ref x0), (1, .int x1), (2, .int x2)]) hx hb dX5_writeBoard_16 hl (by decide) rfl (fun ls hl => ?_)
    refine lv_aload_n hx hb dX5_writeBoard_18 rfl (lv_at hl 1 rfl) ?_
    refine lv_iload_n hx hb dX5_writeBoard_19 rfl (lv_at hl 4 rfl) ?_
    refine mo_cN (n := 1) (As := [.int x2]) (rest := [.ref v2]) C A hml hl.1 (c_X10_partB l D dA b0 x2) (tb_o tb_389) (List.mem_of_getElem? (i := 88) rfl) tb_2 tb_388 rfl (by decide +kernel) ⟨Nat.le_trans (by decide) hfr, Nat.le_trans (Nat.le_of_ble_eq_true rfl) hlo⟩ rfl (Nat.le_of_ble_eq_true rfl) rfl dX5_writeBoard_20 hF (fun v5 h H locs hF A => ?_)
    show W _ _ _ _ _ _ _ _ _ _ _ _ _ _ _ (F0 m 23 ls [.int v5, .ref v2])
    refine mo_cV (n := 1) (As := [.int v5]) (rest := []) C A hml hl.1 (c_X3_read l D dA b0 v2 v5) (ci := 3) (q := (RX3, TX3, 9)) rfl (fun _ e => (mo_ckE e).1) (tb_v tb_446 tb_391 tb_392 tb_65 tb_393) rfl (by decide +kernel) ⟨Nat.le_trans (by decide) hfr, Nat.le_trans (Nat.le_of_ble_eq_true rfl) hlo⟩ rfl (Nat.le_of_ble_eq_true rfl) rfl dX5_writeBoard_23 hF (fun v6 h H locs hF A => ?_)
    show W _ _ _ _ _ _ _ _ _ _ _ _ _ _ _ (F0 m 26 ls [.int v6])
    refine lv_istore (lv' := [(5, .int v6), (4, va_rf v4), (3, .ref v2), (0, .ref x0), (1, .int x1), (2, .int x2)]) hx hb dX5_writeBoard_26 hl (by decide) (by cases v4 <;> rfl) (fun ls hl => ?_)
    refine mo_ald hx hb dX5_writeBoard_28 (lv_at hl 1 rfl) ?_
    rcases v4 with _ | a7
    · refine lv_ifnullN (tgt := 61) hx hb dX5_writeBoard_30 (by decide) ?_
      refine lv_iconst (v := (0 : Int32)) hx hb dX5_writeBoard_61 (by decide) ?_
      rw [hQ]
      exact mo_zret C A hr hlocks dX5_writeBoard_62 hF
    · refine lv_ifnull hx hb dX5_writeBoard_30 ?_
      refine lv_aload hx hb dX5_writeBoard_33 (lv_at hl 1 rfl) ?_
      refine mo_wRN C A (T := TX1) iX1 rfl 0 (by decide) (List.mem_of_getElem? (i := 34) rfl) rfl dX5_writeBoard_35 hF (fun v8 hF => ?_)
      refine mo_wIN C A (T := TX4) iX4 rfl 0 (by decide) (List.mem_of_getElem? (i := 67) rfl) rfl dX5_writeBoard_38 hF (fun v9 hF => ?_)
      refine lv_iload_n hx hb dX5_writeBoard_41 rfl (lv_at hl 4 rfl) ?_
      refine lv_icmp_ne (tgt := 61) hx hb dX5_writeBoard_42 (by decide) (fun c10 => ?_) (fun c10 => ?_)
      · have hF := mo_ifF c10 hF
        refine lv_iconst (v := (0 : Int32)) hx hb dX5_writeBoard_61 (by decide) ?_
        rw [hQ]
        exact mo_zret C A hr hlocks dX5_writeBoard_62 hF
      · have hF := mo_ifT c10 hF
        refine lv_iload hx hb dX5_writeBoard_45 (lv_at hl 0 rfl) ?_
        refine lv_aload hx hb dX5_writeBoard_47 (lv_at hl 1 rfl) ?_
        refine mo_wRN C A (T := TX1) iX1 rfl 0 (by decide) (List.mem_of_getElem? (i := 34) rfl) rfl dX5_writeBoard_49 hF (fun v11 hF => ?_)
        refine mo_wIN C A (T := TX4) iX4 rfl 3 (by decide) (List.mem_of_getElem? (i := 76) rfl) rfl dX5_writeBoard_52 hF (fun v12 hF => ?_)
        refine mo_cS (n := 2) (As := [.int v6, .int v12]) (rest := []) C A hml hl.1 (c_X3_hasCells l D dA b0 v6 v12) (tb_s tb_447 tb_399 tb_65 tb_400) rfl (by decide +kernel) ⟨Nat.le_trans (by decide) hfr, Nat.le_trans (Nat.le_of_ble_eq_true rfl) hlo⟩ rfl (Nat.le_of_ble_eq_true rfl) rfl dX5_writeBoard_55 hF (fun v13 h H locs hF A => ?_)
        show W _ _ _ _ _ _ _ _ _ _ _ _ _ _ _ (F0 m 58 ls [.int v13])
        refine lv_if_ne (tgt := 63) hx hb dX5_writeBoard_58 (by decide) (fun c14 => ?_) (fun c14 => ?_)
        · have hF := mo_ifF c14 hF
          refine lv_aload_n hx hb dX5_writeBoard_63 rfl (lv_at hl 2 rfl) ?_
          refine mo_wRN C A (T := TX3) iX3 rfl 1 (by decide) (List.mem_of_getElem? (i := 21) rfl) rfl dX5_writeBoard_64 hF (fun v15 hF => ?_)
          refine lv_iload hx hb dX5_writeBoard_67 (lv_at hl 0 rfl) ?_
          refine lv_aload hx hb dX5_writeBoard_69 (lv_at hl 1 rfl) ?_
          refine mo_wRN C A (T := TX1) iX1 rfl 5 (by decide) (List.mem_of_getElem? (i := 42) rfl) rfl dX5_writeBoard_71 hF (fun v16 hF => ?_)
          refine lv_iconst (v := (0 : Int32)) hx hb dX5_writeBoard_74 (by decide) ?_
          refine lv_aload hx hb dX5_writeBoard_75 (lv_at hl 1 rfl) ?_
          refine mo_wRN C A (T := TX1) iX1 rfl 0 (by decide) (List.mem_of_getElem? (i := 34) rfl) rfl dX5_writeBoard_77 hF (fun v17 hF => ?_)
          refine mo_wIN C A (T := TX4) iX4 rfl 3 (by decide) (List.mem_of_getElem? (i := 76) rfl) rfl dX5_writeBoard_80 hF (fun v18 hF => ?_)
          refine mo_wcp C A (by rw [hml]; exact hl.1.symm) tb_472 tb_248 tb_249 tb_250 (Nat.le_trans (by decide) hfr) (Nat.le_trans (Nat.le_of_ble_eq_true rfl) hlo) dX5_writeBoard_83 hF (fun h H locs hF A => ?_)
          refine lv_aload hx hb dX5_writeBoard_86 (lv_at hl 1 rfl) ?_
          refine lv_dup hx hb dX5_writeBoard_88 rfl ?_
          refine mo_wIN C A (T := TX1) iX1 rfl 6 (by decide) (List.mem_of_getElem? (i := 44) rfl) rfl dX5_writeBoard_89 hF (fun v19 hF => ?_)
          refine lv_iconst (v := (1 : Int32)) hx hb dX5_writeBoard_92 (by decide) ?_
          refine lv_iadd hx hb dX5_writeBoard_93 ?_
          refine mo_wpN C A (T := TX1) iX1 tyX1 tyX1_ok nmX1 rfl 6 (by decide) (List.mem_of_getElem? (i := 44) rfl) rfl rfl rfl rfl dX5_writeBoard_94 hF (fun h H locs hF A => ?_)
          refine lv_aload hx hb dX5_writeBoard_97 (lv_at hl 1 rfl) ?_
          refine lv_aload_n hx hb dX5_writeBoard_99 rfl (lv_at hl 3 rfl) ?_
          refine mo_wR C A (T := TX5) iX5 rfl 3 (by decide) tb_73 rfl dX5_writeBoard_100 hF (fun v20 hF => ?_)
          refine mo_wIN C A (T := TX2) iX2 rfl 1 (by decide) (List.mem_of_getElem? (i := 46) rfl) rfl dX5_writeBoard_103 hF (fun v21 hF => ?_)
          refine mo_wpN C A (T := TX1) iX1 tyX1 tyX1_ok nmX1 rfl 7 (by decide) (List.mem_of_getElem? (i := 45) rfl) rfl rfl rfl rfl dX5_writeBoard_106 hF (fun h H locs hF A => ?_)
          refine lv_iconst (v := (1 : Int32)) hx hb dX5_writeBoard_109 (by decide) ?_
          rw [hQ]
          exact mo_zret C A hr hlocks dX5_writeBoard_110 hF
        · have hF := mo_ifT c14 hF
          refine lv_iconst (v := (0 : Int32)) hx hb dX5_writeBoard_61 (by decide) ?_
          rw [hQ]
          exact mo_zret C A hr hlocks dX5_writeBoard_62 hF
  exact E h0 s.heap [] hF A
set_option maxHeartbeats 4000000 in
set_option maxRecDepth 100000 in
theorem c_X5_performShared (l : Launch) (D : va_G) (dA : Nat → ClassId) (b0 : Nat) (x0 : Nat) (x1 : Int32) (x2 : Int32) : mo_Met l yX5_performShared [Cond.code yX5_performShared cX5_performShared 4 (some .boolean)] 4 90 D dA b0 [.ref x0, .int x1, .int x2] (fun r : Int32 => some (.int r)) (F_X5_performShared x0 x1 x2) := by
  refine mo_MetOf (own := RX5) (by decide) (Nat.le_of_ble_eq_true rfl) [(0, .ref x0), (1, .int x1), (2, .int x2)] rfl rfl ?_
  intro p e R s m args below meth c Q h0 h2 z ls hQ C hml hr hlocks hnm hfr hlo hF A hl
  have hx := C.1
  have hb := C.2.1
  have hown := C.2.2.1
  have hts := C.2.2.2.1
  have hK := C.2.2.2.2.1
  have iX2 := inlX2
  have iX5 := inlX5
  unfold F_X5_performShared at hF
  obtain ⟨-, hF⟩ := mo_ckE hF
  have E : ∀ (h : mo_H) (H : Heap) (locs : List Loc), (mo_b (F_X10_partA x2) fun v1 => mo_b (F_X10_operation x2) fun v2 => (if v2 = (14 : Int32) then mo_b (F_X5_send x0 x1 x2) fun v4 => mo_rz v4 else (if v2 = (15 : Int32) then mo_b (F_X5_take x0 x1 x2) fun v6 => mo_rz v6 else (if v2 = (16 : Int32) then mo_b (F_X5_writeBoard x0 x1 x2) fun v8 => mo_rz v8 else (if v2 = (17 : Int32) then mo_b (F_X5_seeBoard x0 x1 x2) fun v10 => mo_rz v10 else (if v2 = (20 : Int32) then mo_b (mo_gR x0 5 1) fun v12 => mo_b (mo_lq 4 v12 x1) fun v13 => mo_b (mo_gR x0 5 3) fun v14 => mo_b (mo_gI v14 2 1) fun v15 => mo_b (F_X3_write v13 v1 v15) fun v16 => mo_rz (1 : Int32) else (if v2 = (21 : Int32) then mo_b (mo_pZ x0 5 4 (1 : Int32)) fun _ => mo_rz (1 : Int32) else (if v2 = (22 : Int32) then mo_b (F_X5_look x0 x1 x2) fun v20 => mo_rz v20 else (if v2 = (23 : Int32) then mo_b (F_X5_ask x0 x1 v1) fun v22 => mo_rz v22 else (if v2 = (24 : Int32) then mo_b (mo_gR x0 5 1) fun v24 => mo_b (mo_lq 4 v24 x1) fun v25 => mo_b (mo_gR x0 5 3) fun v26 => mo_b (mo_gI v26 2 4) fun v27 => mo_b (F_X3_write v25 v1 v27) fun v28 => mo_rz (1 : Int32) else mo_rz (0 : Int32))))))))))).1 h = some (z, h2) → mo_A D dA b0 s.heap h0 h H locs → W p l e R s m args below meth c H locs (h.2.1 - h0.2.1) (h.2.2 - h0.2.2) Q (F0 m 0 ls []) := by
    intro h H locs hF A
    refine lv_iload_n hx hb dX5_performShared_0 rfl (lv_at hl 2 rfl) ?_
    refine mo_cN (n := 1) (As := [.int x2]) (rest := []) C A hml hl.1 (c_X10_partA l D dA b0 x2) (tb_o tb_387) (List.mem_of_getElem? (i := 87) rfl) tb_2 tb_386 rfl (by decide +kernel) ⟨Nat.le_trans (by decide) hfr, Nat.le_trans (Nat.le_of_ble_eq_true rfl) hlo⟩ rfl (Nat.le_of_ble_eq_true rfl) rfl dX5_performShared_1 hF (fun v1 h H locs hF A => ?_)
    show W _ _ _ _ _ _ _ _ _ _ _ _ _ _ _ (F0 m 4 ls [.int v1])
    refine lv_istore_n (lv' := [(3, .int v1), (0, .ref x0), (1, .int x1), (2, .int x2)]) hx hb dX5_performShared_4 rfl hl (by decide) rfl (fun ls hl => ?_)
    refine lv_iload_n hx hb dX5_performShared_5 rfl (lv_at hl 3 rfl) ?_
    refine mo_cN (n := 1) (As := [.int x2]) (rest := []) C A hml hl.1 (c_X10_operation l D dA b0 x2) (tb_o tb_377) (List.mem_of_getElem? (i := 82) rfl) tb_2 tb_376 rfl (by decide +kernel) ⟨Nat.le_trans (by decide) hfr, Nat.le_trans (Nat.le_of_ble_eq_true rfl) hlo⟩ rfl (Nat.le_of_ble_eq_true rfl) rfl dX5_performShared_6 hF (fun v2 h H locs hF A => ?_)
    show W _ _ _ _ _ _ _ _ _ _ _ _ _ _ _ (F0 m 9 ls [.int v2])
    by_cases c3 : v2 = (14 : Int32)
    · have hF := mo_ifT c3 hF
      refine mo_tsI hx hb (14 : Int32) (tgt := 68) (off := 59) dX5_performShared_9 c3 (by decide) (by decide) rfl (by decide) ?_
      refine lv_aload_n hx hb dX5_performShared_68 rfl (lv_at hl 1 rfl) ?_
      refine lv_iload_n hx hb dX5_performShared_69 rfl (lv_at hl 2 rfl) ?_
      refine lv_iload_n hx hb dX5_performShared_70 rfl (lv_at hl 3 rfl) ?_
      refine mo_cV (n := 2) (As := [.int x1, .int x2]) (rest := []) C A hml hl.1 (c_X5_send l D dA b0 x0 x1 x2) (ci := 5) (q := (RX5, TX5, 5)) rfl (fun _ e => (mo_ckE e).1) (tb_v tb_438 tb_439 tb_440 tb_29 tb_441) rfl (by decide +kernel) ⟨Nat.le_trans (by decide) hfr, Nat.le_trans (Nat.le_of_ble_eq_true rfl) hlo⟩ rfl (Nat.le_of_ble_eq_true rfl) rfl dX5_performShared_71 hF (fun v4 h H locs hF A => ?_)
      show W _ _ _ _ _ _ _ _ _ _ _ _ _ _ _ (F0 m 74 ls [.int v4])
      rw [hQ]
      exact mo_zret C A hr hlocks dX5_performShared_74 hF
    have hF := mo_ifF c3 hF
    by_cases c5 : v2 = (15 : Int32)
    · have hF := mo_ifT c5 hF
      refine mo_tsI hx hb (15 : Int32) (tgt := 75) (off := 66) dX5_performShared_9 c5 (by decide) (by decide) rfl (by decide) ?_
      refine lv_aload_n hx hb dX5_performShared_75 rfl (lv_at hl 1 rfl) ?_
      refine lv_iload_n hx hb dX5_performShared_76 rfl (lv_at hl 2 rfl) ?_
      refine lv_iload_n hx hb dX5_performShared_77 rfl (lv_at hl 3 rfl) ?_
      refine mo_cV (n := 2) (As := [.int x1, .int x2]) (rest := []) C A hml hl.1 (c_X5_take l D dA b0 x0 x1 x2) (ci := 5) (q := (RX5, TX5, 5)) rfl (fun _ e => (mo_ckE e).1) (tb_v tb_455 tb_456 tb_457 tb_29 tb_458) rfl (by decide +kernel) ⟨Nat.le_trans (by decide) hfr, Nat.le_trans (Nat.le_of_ble_eq_true rfl) hlo⟩ rfl (Nat.le_of_ble_eq_true rfl) rfl dX5_performShared_78 hF (fun v6 h H locs hF A => ?_)
      show W _ _ _ _ _ _ _ _ _ _ _ _ _ _ _ (F0 m 81 ls [.int v6])
      rw [hQ]
      exact mo_zret C A hr hlocks dX5_performShared_81 hF
    have hF := mo_ifF c5 hF
    by_cases c7 : v2 = (16 : Int32)
    · have hF := mo_ifT c7 hF
      refine mo_tsI hx hb (16 : Int32) (tgt := 82) (off := 73) dX5_performShared_9 c7 (by decide) (by decide) rfl (by decide) ?_
      refine lv_aload_n hx hb dX5_performShared_82 rfl (lv_at hl 1 rfl) ?_
      refine lv_iload_n hx hb dX5_performShared_83 rfl (lv_at hl 2 rfl) ?_
      refine lv_iload_n hx hb dX5_performShared_84 rfl (lv_at hl 3 rfl) ?_
      refine mo_cV (n := 2) (As := [.int x1, .int x2]) (rest := []) C A hml hl.1 (c_X5_writeBoard l D dA b0 x0 x1 x2) (ci := 5) (q := (RX5, TX5, 5)) rfl (fun _ e => (mo_ckE e).1) (tb_v tb_468 tb_469 tb_470 tb_29 tb_471) rfl (by decide +kernel) ⟨Nat.le_trans (by decide) hfr, Nat.le_trans (Nat.le_of_ble_eq_true rfl) hlo⟩ rfl (Nat.le_of_ble_eq_true rfl) rfl dX5_performShared_85 hF (fun v8 h H locs hF A => ?_)
      show W _ _ _ _ _ _ _ _ _ _ _ _ _ _ _ (F0 m 88 ls [.int v8])
      rw [hQ]
      exact mo_zret C A hr hlocks dX5_performShared_88 hF
    have hF := mo_ifF c7 hF
    by_cases c9 : v2 = (17 : Int32)
    · have hF := mo_ifT c9 hF
      refine mo_tsI hx hb (17 : Int32) (tgt := 89) (off := 80) dX5_performShared_9 c9 (by decide) (by decide) rfl (by decide) ?_
      refine lv_aload_n hx hb dX5_performShared_89 rfl (lv_at hl 1 rfl) ?_
      refine lv_iload_n hx hb dX5_performShared_90 rfl (lv_at hl 2 rfl) ?_
      refine lv_iload_n hx hb dX5_performShared_91 rfl (lv_at hl 3 rfl) ?_
      refine mo_cV (n := 2) (As := [.int x1, .int x2]) (rest := []) C A hml hl.1 (c_X5_seeBoard l D dA b0 x0 x1 x2) (ci := 5) (q := (RX5, TX5, 5)) rfl (fun _ e => (mo_ckE e).1) (tb_v tb_473 tb_474 tb_475 tb_29 tb_476) rfl (by decide +kernel) ⟨Nat.le_trans (by decide) hfr, Nat.le_trans (Nat.le_of_ble_eq_true rfl) hlo⟩ rfl (Nat.le_of_ble_eq_true rfl) rfl dX5_performShared_92 hF (fun v10 h H locs hF A => ?_)
      show W _ _ _ _ _ _ _ _ _ _ _ _ _ _ _ (F0 m 95 ls [.int v10])
      rw [hQ]
      exact mo_zret C A hr hlocks dX5_performShared_95 hF
    have hF := mo_ifF c9 hF
    by_cases c11 : v2 = (20 : Int32)
    · have hF := mo_ifT c11 hF
      refine mo_tsI hx hb (20 : Int32) (tgt := 96) (off := 87) dX5_performShared_9 c11 (by decide) (by decide) rfl (by decide) ?_
      refine lv_aload_n hx hb dX5_performShared_96 rfl (lv_at hl 1 rfl) ?_
      refine mo_wR C A (T := TX5) iX5 rfl 1 (by decide) tb_63 rfl dX5_performShared_97 hF (fun v12 hF => ?_)
      refine lv_iload_n hx hb dX5_performShared_100 rfl (lv_at hl 2 rfl) ?_
      refine mo_wlq C A (t := 4) (fun _ => rfl) dX5_performShared_101 hF (fun v13 hF => ?_)
      refine lv_iload_n hx hb dX5_performShared_102 rfl (lv_at hl 0 rfl) ?_
      refine lv_aload_n hx hb dX5_performShared_103 rfl (lv_at hl 1 rfl) ?_
      refine mo_wR C A (T := TX5) iX5 rfl 3 (by decide) tb_73 rfl dX5_performShared_104 hF (fun v14 hF => ?_)
      refine mo_wIN C A (T := TX2) iX2 rfl 1 (by decide) (List.mem_of_getElem? (i := 46) rfl) rfl dX5_performShared_107 hF (fun v15 hF => ?_)
      refine mo_cV (n := 2) (As := [.int v1, .int v15]) (rest := []) C A hml hl.1 (c_X3_write l D dA b0 v13 v1 v15) (ci := 3) (q := (RX3, TX3, 9)) rfl (fun _ e => (mo_ckE e).1) (tb_v tb_483 tb_402 tb_403 tb_65 tb_404) rfl (by decide +kernel) ⟨Nat.le_trans (by decide) hfr, Nat.le_trans (Nat.le_of_ble_eq_true rfl) hlo⟩ rfl (Nat.le_of_ble_eq_true rfl) rfl dX5_performShared_110 hF (fun v16 h H locs hF A => ?_)
      show W _ _ _ _ _ _ _ _ _ _ _ _ _ _ _ (F0 m 113 ls [])
      refine lv_iconst (v := (1 : Int32)) hx hb dX5_performShared_113 (by decide) ?_
      rw [hQ]
      exact mo_zret C A hr hlocks dX5_performShared_114 hF
    have hF := mo_ifF c11 hF
    by_cases c17 : v2 = (21 : Int32)
    · have hF := mo_ifT c17 hF
      refine mo_tsI hx hb (21 : Int32) (tgt := 115) (off := 106) dX5_performShared_9 c17 (by decide) (by decide) rfl (by decide) ?_
      refine lv_aload_n hx hb dX5_performShared_115 rfl (lv_at hl 1 rfl) ?_
      refine lv_iconst (v := (1 : Int32)) hx hb dX5_performShared_116 (by decide) ?_
      obtain ⟨z18, hF⟩ := mo_pZE hF
      refine mo_wpV C A (T := TX5) iX5 tyX5 tyX5_ok nmX5 rfl 4 (by decide) tb_333 rfl rfl (by rcases z18 with h | h <;> rw [h] <;> rfl) (by rcases z18 with h | h <;> rw [h] <;> rfl) dX5_performShared_117 hF (fun h H locs hF A => ?_)
      refine lv_iconst (v := (1 : Int32)) hx hb dX5_performShared_120 (by decide) ?_
      rw [hQ]
      exact mo_zret C A hr hlocks dX5_performShared_121 hF
    have hF := mo_ifF c17 hF
    by_cases c19 : v2 = (22 : Int32)
    · have hF := mo_ifT c19 hF
      refine mo_tsI hx hb (22 : Int32) (tgt := 122) (off := 113) dX5_performShared_9 c19 (by decide) (by decide) rfl (by decide) ?_
      refine lv_aload_n hx hb dX5_performShared_122 rfl (lv_at hl 1 rfl) ?_
      refine lv_iload_n hx hb dX5_performShared_123 rfl (lv_at hl 2 rfl) ?_
      refine lv_iload_n hx hb dX5_performShared_124 rfl (lv_at hl 3 rfl) ?_
      refine mo_cV (n := 2) (As := [.int x1, .int x2]) (rest := []) C A hml hl.1 (c_X5_look l D dA b0 x0 x1 x2) (ci := 5) (q := (RX5, TX5, 5)) rfl (fun _ e => (mo_ckE e).1) (tb_v tb_484 tb_485 tb_486 tb_29 tb_487) rfl (by decide +kernel) ⟨Nat.le_trans (by decide) hfr, Nat.le_trans (Nat.le_of_ble_eq_true rfl) hlo⟩ rfl (Nat.le_of_ble_eq_true rfl) rfl dX5_performShared_125 hF (fun v20 h H locs hF A => ?_)
      show W _ _ _ _ _ _ _ _ _ _ _ _ _ _ _ (F0 m 128 ls [.int v20])
      rw [hQ]
      exact mo_zret C A hr hlocks dX5_performShared_128 hF
    have hF := mo_ifF c19 hF
    by_cases c21 : v2 = (23 : Int32)
    · have hF := mo_ifT c21 hF
      refine mo_tsI hx hb (23 : Int32) (tgt := 129) (off := 120) dX5_performShared_9 c21 (by decide) (by decide) rfl (by decide) ?_
      refine lv_aload_n hx hb dX5_performShared_129 rfl (lv_at hl 1 rfl) ?_
      refine lv_iload_n hx hb dX5_performShared_130 rfl (lv_at hl 2 rfl) ?_
      refine lv_iload_n hx hb dX5_performShared_131 rfl (lv_at hl 0 rfl) ?_
      refine mo_cV (n := 2) (As := [.int x1, .int v1]) (rest := []) C A hml hl.1 (c_X5_ask l D dA b0 x0 x1 v1) (ci := 5) (q := (RX5, TX5, 5)) rfl (fun _ e => (mo_ckE e).1) (tb_v tb_490 tb_491 tb_492 tb_29 tb_493) rfl (by decide +kernel) ⟨Nat.le_trans (by decide) hfr, Nat.le_trans (Nat.le_of_ble_eq_true rfl) hlo⟩ rfl (Nat.le_of_ble_eq_true rfl) rfl dX5_performShared_132 hF (fun v22 h H locs hF A => ?_)
      show W _ _ _ _ _ _ _ _ _ _ _ _ _ _ _ (F0 m 135 ls [.int v22])
      rw [hQ]
      exact mo_zret C A hr hlocks dX5_performShared_135 hF
    have hF := mo_ifF c21 hF
    by_cases c23 : v2 = (24 : Int32)
    · have hF := mo_ifT c23 hF
      refine mo_tsI hx hb (24 : Int32) (tgt := 136) (off := 127) dX5_performShared_9 c23 (by decide) (by decide) rfl (by decide) ?_
      refine lv_aload_n hx hb dX5_performShared_136 rfl (lv_at hl 1 rfl) ?_
      refine mo_wR C A (T := TX5) iX5 rfl 1 (by decide) tb_63 rfl dX5_performShared_137 hF (fun v24 hF => ?_)
      refine lv_iload_n hx hb dX5_performShared_140 rfl (lv_at hl 2 rfl) ?_
      refine mo_wlq C A (t := 4) (fun _ => rfl) dX5_performShared_141 hF (fun v25 hF => ?_)
      refine lv_iload_n hx hb dX5_performShared_142 rfl (lv_at hl 0 rfl) ?_
      refine lv_aload_n hx hb dX5_performShared_143 rfl (lv_at hl 1 rfl) ?_
      refine mo_wR C A (T := TX5) iX5 rfl 3 (by decide) tb_73 rfl dX5_performShared_144 hF (fun v26 hF => ?_)
      refine mo_wIN C A (T := TX2) iX2 rfl 4 (by decide) (List.mem_of_getElem? (i := 50) rfl) rfl dX5_performShared_147 hF (fun v27 hF => ?_)
      refine mo_cV (n := 2) (As := [.int v1, .int v27]) (rest := []) C A hml hl.1 (c_X3_write l D dA b0 v25 v1 v27) (ci := 3) (q := (RX3, TX3, 9)) rfl (fun _ e => (mo_ckE e).1) (tb_v tb_483 tb_402 tb_403 tb_65 tb_404) rfl (by decide +kernel) ⟨Nat.le_trans (by decide) hfr, Nat.le_trans (Nat.le_of_ble_eq_true rfl) hlo⟩ rfl (Nat.le_of_ble_eq_true rfl) rfl dX5_performShared_150 hF (fun v28 h H locs hF A => ?_)
      show W _ _ _ _ _ _ _ _ _ _ _ _ _ _ _ (F0 m 153 ls [])
      refine lv_iconst (v := (1 : Int32)) hx hb dX5_performShared_153 (by decide) ?_
      rw [hQ]
      exact mo_zret C A hr hlocks dX5_performShared_154 hF
    have hF := mo_ifF c23 hF
    refine mo_tsD hx hb [(14 : Int32), (15 : Int32), (16 : Int32), (17 : Int32), (20 : Int32), (21 : Int32), (22 : Int32), (23 : Int32), (24 : Int32)] (tgt := 155) dX5_performShared_9 (List.forall_mem_cons.mpr ⟨c3, (List.forall_mem_cons.mpr ⟨c5, (List.forall_mem_cons.mpr ⟨c7, (List.forall_mem_cons.mpr ⟨c9, (List.forall_mem_cons.mpr ⟨c11, (List.forall_mem_cons.mpr ⟨c17, (List.forall_mem_cons.mpr ⟨c19, (List.forall_mem_cons.mpr ⟨c21, (List.forall_mem_cons.mpr ⟨c23, (fun _ h => absurd h List.not_mem_nil)⟩)⟩)⟩)⟩)⟩)⟩)⟩)⟩)⟩) (by decide) (by decide) (by decide) ?_
    refine lv_iconst (v := (0 : Int32)) hx hb dX5_performShared_155 (by decide) ?_
    rw [hQ]
    exact mo_zret C A hr hlocks dX5_performShared_156 hF
  exact E h0 s.heap [] hF A
set_option maxHeartbeats 4000000 in
set_option maxRecDepth 100000 in
theorem c_X5_makeStep (l : Launch) (D : va_G) (dA : Nat → ClassId) (b0 : Nat) (x0 : Nat) (x1 : Int32) : mo_Met l yX5_makeStep [Cond.code yX5_makeStep cX5_makeStep 5 none] 5 113 D dA b0 [.ref x0, .int x1] (fun _ : Unit => none) (F_X5_makeStep x0 x1) := by
  refine mo_MetOf (own := RX5) (by decide) (Nat.le_of_ble_eq_true rfl) [(0, .ref x0), (1, .int x1)] rfl rfl ?_
  intro p e R s m args below meth c Q h0 h2 z ls hQ C hml hr hlocks hnm hfr hlo hF A hl
  have hx := C.1
  have hb := C.2.1
  have hown := C.2.2.1
  have hts := C.2.2.2.1
  have hK := C.2.2.2.2.1
  have iX3 := inlX3
  have iX5 := inlX5
  have iX7 := inlX7
  have iX9 := inlX9
  have J70 : ∀   (x0 : Nat) (x1 : Int32) (x2 : Nat) (x3 : Int32) (x4 : Int32) (h : mo_H) (H : Heap) (locs : List Loc) (ls : Array Slot), mo_A D dA b0 s.heap h0 h H locs → lv_has ls 5 [(0, .ref x0), (1, .int x1), (2, .ref x2), (3, .int x3), (4, .int x4)] → (F_X5_makeStep_70 x0 x1 x2 x3 x4).1 h = some (z, h2) → W p l e R s m args below meth c H locs (h.2.1 - h0.2.1) (h.2.2 - h0.2.2) Q (F0 m 70 ls []) := by
    intro  x0 x1 x2 x3 x4 h H locs ls A hl hF
    unfold F_X5_makeStep_70 at hF
    refine lv_iload hx hb dX5_makeStep_70 (lv_at hl 4 rfl) ?_
    refine lv_if_eq (tgt := 87) hx hb dX5_makeStep_72 (by decide) (fun c1 => ?_) (fun c1 => ?_)
    · have hF := mo_ifT c1 hF
      refine lv_aload_n hx hb dX5_makeStep_87 rfl (lv_at hl 2 rfl) ?_
      refine lv_aload_n hx hb dX5_makeStep_88 rfl (lv_at hl 0 rfl) ?_
      refine mo_wR C A (T := TX5) iX5 rfl 0 (by decide) tb_61 rfl dX5_makeStep_89 hF (fun v2 hF => ?_)
      refine mo_wRN C A (T := TX7) iX7 rfl 5 (by decide) (List.mem_of_getElem? (i := 15) rfl) rfl dX5_makeStep_92 hF (fun v3 hF => ?_)
      refine lv_iload_n hx hb dX5_makeStep_95 rfl (lv_at hl 1 rfl) ?_
      refine mo_wla C A dX5_makeStep_96 hF (fun v4 hF => ?_)
      refine mo_cV (n := 1) (As := [.int v4]) (rest := []) C A hml hl.1 (c_X3_fail l D dA b0 x2 v4) (ci := 3) (q := (RX3, TX3, 9)) rfl (fun _ e => (mo_ckE e).1) (tb_v tb_503 tb_504 tb_505 tb_65 tb_506) rfl (by decide +kernel) ⟨Nat.le_trans (by decide) hfr, Nat.le_trans (Nat.le_of_ble_eq_true rfl) hlo⟩ rfl (Nat.le_of_ble_eq_true rfl) rfl dX5_makeStep_97 hF (fun v5 h H locs hF A => ?_)
      show W _ _ _ _ _ _ _ _ _ _ _ _ _ _ _ (F0 m 100 ls [])
      rw [hQ]
      exact mo_vret C A hr hlocks dX5_makeStep_100 hF
    · have hF := mo_ifF c1 hF
      refine lv_aload_n hx hb dX5_makeStep_75 rfl (lv_at hl 2 rfl) ?_
      refine lv_aload_n hx hb dX5_makeStep_76 rfl (lv_at hl 2 rfl) ?_
      refine lv_iload_n hx hb dX5_makeStep_77 rfl (lv_at hl 3 rfl) ?_
      refine mo_cV (n := 1) (As := [.int x3]) (rest := [.ref x2]) C A hml hl.1 (c_X3_placeAfter l D dA b0 x2 x3) (ci := 3) (q := (RX3, TX3, 9)) rfl (fun _ e => (mo_ckE e).1) (tb_v tb_498 tb_499 tb_500 tb_65 tb_501) rfl (by decide +kernel) ⟨Nat.le_trans (by decide) hfr, Nat.le_trans (Nat.le_of_ble_eq_true rfl) hlo⟩ rfl (Nat.le_of_ble_eq_true rfl) rfl dX5_makeStep_78 hF (fun v6 h H locs hF A => ?_)
      show W _ _ _ _ _ _ _ _ _ _ _ _ _ _ _ (F0 m 81 ls [.int v6, .ref x2])
      refine mo_wpN C A (T := TX3) iX3 tyX3 tyX3_ok nmX3 rfl 4 (by decide) (List.mem_of_getElem? (i := 25) rfl) rfl rfl rfl rfl dX5_makeStep_81 hF (fun h H locs hF A => ?_)
      refine lv_goto (tgt := 100) hx hb dX5_makeStep_84 (by decide) ?_
      rw [hQ]
      exact mo_vret C A hr hlocks dX5_makeStep_100 hF
  have J68 : ∀   (x0 : Nat) (x1 : Int32) (x2 : Nat) (x3 : Int32) (s0 : Int32) (h : mo_H) (H : Heap) (locs : List Loc) (ls : Array Slot), mo_A D dA b0 s.heap h0 h H locs → lv_has ls 5 [(0, .ref x0), (1, .int x1), (2, .ref x2), (3, .int x3)] → (F_X5_makeStep_68 x0 x1 x2 x3 s0).1 h = some (z, h2) → W p l e R s m args below meth c H locs (h.2.1 - h0.2.1) (h.2.2 - h0.2.2) Q (F0 m 68 ls [.int s0]) := by
    intro  x0 x1 x2 x3 s0 h H locs ls A hl hF
    unfold F_X5_makeStep_68 at hF
    refine lv_istore (lv' := [(4, .int s0), (0, .ref x0), (1, .int x1), (2, .ref x2), (3, .int x3)]) hx hb dX5_makeStep_68 hl (by decide) rfl (fun ls hl => ?_)
    exact J70 x0 x1 x2 x3 s0 h H locs ls A (lv_sub hl [1, 2, 3, 4, 0] rfl) hF
  unfold F_X5_makeStep at hF
  obtain ⟨-, hF⟩ := mo_ckE hF
  have E : ∀ (h : mo_H) (H : Heap) (locs : List Loc), (mo_b (mo_gR x0 5 1) fun v7 => mo_b (mo_lq 4 v7 x1) fun v8 => mo_b (mo_gI v8 3 7) fun v9 => mo_b (mo_pV v8 3 7 (.int (v9 + (1 : Int32)))) fun _ => mo_b (F_X5_dueInstruction x0) fun v10 => mo_b (mo_gI v8 3 4) fun v11 => mo_b (mo_gR x0 5 0) fun v12 => mo_b (mo_gR v12 7 4) fun v13 => mo_b (mo_lq 2 v13 x1) fun v14 => mo_b (mo_gI v14 9 1) fun v15 => (if v15 ≤ v11 then F_X5_makeStep_70 x0 x1 v8 v10 (0 : Int32) else mo_b (F_X10_operation v10) fun v17 => mo_b (F_X5_isAlone v17) fun v18 => (if v18 = 0 then mo_b (F_X5_performShared x0 x1 v10) fun v20 => F_X5_makeStep_68 x0 x1 v8 v10 v20 else mo_b (F_X3_performAlone v8 v10) fun v21 => F_X5_makeStep_68 x0 x1 v8 v10 v21))).1 h = some (z, h2) → mo_A D dA b0 s.heap h0 h H locs → W p l e R s m args below meth c H locs (h.2.1 - h0.2.1) (h.2.2 - h0.2.2) Q (F0 m 0 ls []) := by
    intro h H locs hF A
    refine lv_aload_n hx hb dX5_makeStep_0 rfl (lv_at hl 0 rfl) ?_
    refine mo_wR C A (T := TX5) iX5 rfl 1 (by decide) tb_63 rfl dX5_makeStep_1 hF (fun v7 hF => ?_)
    refine lv_iload_n hx hb dX5_makeStep_4 rfl (lv_at hl 1 rfl) ?_
    refine mo_wlq C A (t := 4) (fun _ => rfl) dX5_makeStep_5 hF (fun v8 hF => ?_)
    refine lv_astore_n (lv' := [(2, .ref v8), (0, .ref x0), (1, .int x1)]) hx hb dX5_makeStep_6 rfl hl (by decide) rfl (fun ls hl => ?_)
    refine lv_aload_n hx hb dX5_makeStep_7 rfl (lv_at hl 0 rfl) ?_
    refine lv_dup hx hb dX5_makeStep_8 rfl ?_
    refine mo_wIN C A (T := TX3) iX3 rfl 7 (by decide) (List.mem_of_getElem? (i := 30) rfl) rfl dX5_makeStep_9 hF (fun v9 hF => ?_)
    refine lv_iconst (v := (1 : Int32)) hx hb dX5_makeStep_12 (by decide) ?_
    refine lv_iadd hx hb dX5_makeStep_13 ?_
    refine mo_wpN C A (T := TX3) iX3 tyX3 tyX3_ok nmX3 rfl 7 (by decide) (List.mem_of_getElem? (i := 30) rfl) rfl rfl rfl rfl dX5_makeStep_14 hF (fun h H locs hF A => ?_)
    refine lv_aload_n hx hb dX5_makeStep_17 rfl (lv_at hl 1 rfl) ?_
    refine mo_cV (n := 0) (As := []) (rest := []) C A hml hl.1 (c_X5_dueInstruction l D dA b0 x0) (ci := 5) (q := (RX5, TX5, 5)) rfl (fun _ e => (mo_ckE e).1) (tb_v tb_375 tb_344 tb_345 tb_29 tb_346) rfl (by decide +kernel) ⟨Nat.le_trans (by decide) hfr, Nat.le_trans (Nat.le_of_ble_eq_true rfl) hlo⟩ rfl (Nat.le_of_ble_eq_true rfl) rfl dX5_makeStep_18 hF (fun v10 h H locs hF A => ?_)
    show W _ _ _ _ _ _ _ _ _ _ _ _ _ _ _ (F0 m 21 ls [.int v10])
    refine lv_istore_n (lv' := [(3, .int v10), (2, .ref v8), (0, .ref x0), (1, .int x1)]) hx hb dX5_makeStep_21 rfl hl (by decide) rfl (fun ls hl => ?_)
    refine lv_iconst (v := (0 : Int32)) hx hb dX5_makeStep_22 (by decide) ?_
    refine lv_istore (lv' := [(4, .int (0 : Int32)), (3, .int v10), (2, .ref v8), (0, .ref x0), (1, .int x1)]) hx hb dX5_makeStep_23 hl (by decide) rfl (fun ls hl => ?_)
    refine lv_aload_n hx hb dX5_makeStep_25 rfl (lv_at hl 2 rfl) ?_
    refine mo_wIN C A (T := TX3) iX3 rfl 4 (by decide) (List.mem_of_getElem? (i := 25) rfl) rfl dX5_makeStep_26 hF (fun v11 hF => ?_)
    refine lv_aload_n hx hb dX5_makeStep_29 rfl (lv_at hl 3 rfl) ?_
    refine mo_wR C A (T := TX5) iX5 rfl 0 (by decide) tb_61 rfl dX5_makeStep_30 hF (fun v12 hF => ?_)
    refine mo_wRN C A (T := TX7) iX7 rfl 4 (by decide) (List.mem_of_getElem? (i := 12) rfl) rfl dX5_makeStep_33 hF (fun v13 hF => ?_)
    refine lv_iload_n hx hb dX5_makeStep_36 rfl (lv_at hl 4 rfl) ?_
    refine mo_wlq C A (t := 2) (fun _ => rfl) dX5_makeStep_37 hF (fun v14 hF => ?_)
    refine mo_wIN C A (T := TX9) iX9 rfl 1 (by decide) (List.mem_of_getElem? (i := 3) rfl) rfl dX5_makeStep_38 hF (fun v15 hF => ?_)
    refine lv_icmp_ge (tgt := 70) hx hb dX5_makeStep_41 (by decide) (fun c16 => ?_) (fun c16 => ?_)
    · have hF := mo_ifT c16 hF
      exact J70 x0 x1 v8 v10 (0 : Int32) h H locs ls A (lv_sub hl [3, 4, 2, 1, 0] rfl) hF
    · have hF := mo_ifF c16 hF
      refine lv_iload_n hx hb dX5_makeStep_44 rfl (lv_at hl 1 rfl) ?_
      refine mo_cN (n := 1) (As := [.int v10]) (rest := []) C A hml hl.1 (c_X10_operation l D dA b0 v10) (tb_o tb_377) (List.mem_of_getElem? (i := 82) rfl) tb_2 tb_376 rfl (by decide +kernel) ⟨Nat.le_trans (by decide) hfr, Nat.le_trans (Nat.le_of_ble_eq_true rfl) hlo⟩ rfl (Nat.le_of_ble_eq_true rfl) rfl dX5_makeStep_45 hF (fun v17 h H locs hF A => ?_)
      show W _ _ _ _ _ _ _ _ _ _ _ _ _ _ _ (F0 m 48 ls [.int v17])
      refine mo_cS (n := 1) (As := [.int v17]) (rest := []) C A hml hl.1 (c_X5_isAlone l D dA b0 v17) (tb_s tb_378 tb_379 tb_29 tb_380) rfl (by decide +kernel) ⟨Nat.le_trans (by decide) hfr, Nat.le_trans (Nat.le_of_ble_eq_true rfl) hlo⟩ rfl (Nat.le_of_ble_eq_true rfl) rfl dX5_makeStep_48 hF (fun v18 h H locs hF A => ?_)
      show W _ _ _ _ _ _ _ _ _ _ _ _ _ _ _ (F0 m 51 ls [.int v18])
      refine lv_if_eq (tgt := 62) hx hb dX5_makeStep_51 (by decide) (fun c19 => ?_) (fun c19 => ?_)
      · have hF := mo_ifT c19 hF
        refine lv_aload_n hx hb dX5_makeStep_62 rfl (lv_at hl 3 rfl) ?_
        refine lv_iload_n hx hb dX5_makeStep_63 rfl (lv_at hl 4 rfl) ?_
        refine lv_iload_n hx hb dX5_makeStep_64 rfl (lv_at hl 1 rfl) ?_
        refine mo_cV (n := 2) (As := [.int x1, .int v10]) (rest := []) C A hml hl.1 (c_X5_performShared l D dA b0 x0 x1 v10) (ci := 5) (q := (RX5, TX5, 5)) rfl (fun _ e => (mo_ckE e).1) (tb_v tb_434 tb_435 tb_436 tb_29 tb_437) rfl (by decide +kernel) ⟨Nat.le_trans (by decide) hfr, Nat.le_trans (Nat.le_of_ble_eq_true rfl) hlo⟩ rfl (Nat.le_of_ble_eq_true rfl) rfl dX5_makeStep_65 hF (fun v20 h H locs hF A => ?_)
        show W _ _ _ _ _ _ _ _ _ _ _ _ _ _ _ (F0 m 68 ls [.int v20])
        exact J68 x0 x1 v8 v10 v20 h H locs ls A (lv_sub hl [3, 4, 2, 1] rfl) hF
      · have hF := mo_ifF c19 hF
        refine lv_aload_n hx hb dX5_makeStep_54 rfl (lv_at hl 2 rfl) ?_
        refine lv_iload_n hx hb dX5_makeStep_55 rfl (lv_at hl 1 rfl) ?_
        refine mo_cV (n := 1) (As := [.int v10]) (rest := []) C A hml hl.1 (c_X3_performAlone l D dA b0 v8 v10) (ci := 3) (q := (RX3, TX3, 9)) rfl (fun _ e => (mo_ckE e).1) (tb_v tb_381 tb_382 tb_383 tb_65 tb_384) rfl (by decide +kernel) ⟨Nat.le_trans (by decide) hfr, Nat.le_trans (Nat.le_of_ble_eq_true rfl) hlo⟩ rfl (Nat.le_of_ble_eq_true rfl) rfl dX5_makeStep_56 hF (fun v21 h H locs hF A => ?_)
        show W _ _ _ _ _ _ _ _ _ _ _ _ _ _ _ (F0 m 59 ls [.int v21])
        refine lv_goto (tgt := 68) hx hb dX5_makeStep_59 (by decide) ?_
        exact J68 x0 x1 v8 v10 v21 h H locs ls A (lv_sub hl [3, 4, 2, 1] rfl) hF
  exact E h0 s.heap [] hF A
