set_option maxHeartbeats 4000000 in
set_option maxRecDepth 100000 in
theorem c_X10_init (l : Launch) (D : va_G) (dA : Nat → ClassId) (b0 : Nat) (x0 : Nat) (x1 : Int32) : mo_Met l yX10_init [Cond.code yX10_init cX10_init 2 none] 4 80 D dA b0 [.ref x0, .int x1] (fun _ : Unit => none) (F_X10_init x0 x1) := by
  refine mo_MetOf (own := RX10) (by decide) (Nat.le_of_ble_eq_true rfl) [(0, .ref x0), (1, .int x1)] rfl rfl ?_
  intro p e R s m args below meth c Q h0 h2 z ls hQ C hml hr hlocks hnm hfr hlo hF A hl
  have hx := C.1
  have hb := C.2.1
  have hown := C.2.2.1
  have hts := C.2.2.2.1
  have hK := C.2.2.2.2.1
  have iX0 := inlX0
  have iX5 := inlX5
  have iX7 := inlX7
  have iX10 := inlX10
  unfold F_X10_init at hF
  have E : ∀ (h : mo_H) (H : Heap) (locs : List Loc), (mo_b (mo_nc 7 dfX7) fun v1 => mo_b (F_X7_init v1 (if (2 : Int32) < (if x1 < (6 : Int32) then x1 else (6 : Int32)) then (if x1 < (6 : Int32) then x1 else (6 : Int32)) else (2 : Int32))) fun v2 => mo_b (mo_pV x0 10 0 (.ref v1)) fun _ => mo_b (mo_nc 5 dfX5) fun v3 => mo_b (mo_gR x0 10 0) fun v4 => mo_b (F_X5_init v3 v4) fun v5 => mo_b (mo_pV x0 10 1 (.ref v3)) fun _ => mo_b (mo_nc 0 dfX0) fun v6 => mo_b (F_X0_init v6) fun v7 => mo_b (mo_pV x0 10 2 (.ref v6)) fun _ => mo_ret ()).1 h = some (z, h2) → mo_A D dA b0 s.heap h0 h H locs → W p l e R s m args below meth c H locs (h.2.1 - h0.2.1) (h.2.2 - h0.2.2) Q (F0 m 0 ls []) := by
    intro h H locs hF A
    refine lv_aload_n hx hb dX10_init_0 rfl (lv_at hl 0 rfl) ?_
    refine W.objInit hx hb hown (hts _ tb_13) (hts _ tb_14) (hts _ tb_15) rfl (by rw [hml]; exact hl.1) rfl dX10_init_1 (Nat.le_trans (by decide) hfr) (Nat.le_trans (Nat.le_of_ble_eq_true rfl) hlo) ?_
    refine W.eq (g2 := F0 m 4 ls []) rfl ?_
    refine lv_aload_n hx hb dX10_init_4 rfl (lv_at hl 0 rfl) ?_
    refine mo_wnc C A (T := TX7) iX7 tyX7 tyX7_ok rfl tb_16 tb_17 tb_18 dfX7_ok rfl dX10_init_5 hF (fun v1 h H hF A => ?_)
    refine lv_dup hx hb dX10_init_8 rfl ?_
    refine lv_iconst (v := (2 : Int32)) hx hb dX10_init_9 (by decide) ?_
    refine lv_bipush (v := (6 : Int32)) hx hb dX10_init_10 (by decide) ?_
    refine lv_iload_n hx hb dX10_init_12 rfl (lv_at hl 1 rfl) ?_
    refine mo_wmn C A (by rw [hml]; exact hl.1.symm) tb_19 tb_20 tb_21 tb_22 (Nat.le_trans (by decide) hfr) (Nat.le_trans (Nat.le_of_ble_eq_true rfl) hlo) dX10_init_13 hF ?_
    refine mo_wmx C A (by rw [hml]; exact hl.1.symm) tb_23 tb_24 tb_21 tb_25 (Nat.le_trans (by decide) hfr) (Nat.le_trans (Nat.le_of_ble_eq_true rfl) hlo) dX10_init_16 hF ?_
    refine mo_cI (n := 1) (As := [.int (if (2 : Int32) < (if x1 < (6 : Int32) then x1 else (6 : Int32)) then (if x1 < (6 : Int32) then x1 else (6 : Int32)) else (2 : Int32))]) (rest := [.ref v1, .ref x0]) C A hml hl.1 (c_X7_init l D dA b0 v1 (if (2 : Int32) < (if x1 < (6 : Int32) then x1 else (6 : Int32)) then (if x1 < (6 : Int32) then x1 else (6 : Int32)) else (2 : Int32))) (tb_o tb_37) rfl tb_18 tb_35 tb_36 rfl (by decide +kernel) ⟨Nat.le_trans (by decide) hfr, Nat.le_trans (Nat.le_of_ble_eq_true rfl) hlo⟩ rfl (Nat.le_of_ble_eq_true rfl) rfl dX10_init_19 hF (fun v2 h H locs hF A => ?_)
    show W _ _ _ _ _ _ _ _ _ _ _ _ _ _ _ (F0 m 22 ls [.ref v1, .ref x0])
    refine mo_wpF C A (T := TX10) iX10 tyX10 tyX10_ok nmX10 rfl 0 (by decide) tb_26 rfl rfl hnm rfl rfl rfl dX10_init_22 hF (fun h H locs hF A => ?_)
    refine lv_aload_n hx hb dX10_init_25 rfl (lv_at hl 0 rfl) ?_
    refine mo_wnc C A (T := TX5) iX5 tyX5 tyX5_ok rfl tb_27 tb_28 tb_29 dfX5_ok rfl dX10_init_26 hF (fun v3 h H hF A => ?_)
    refine lv_dup hx hb dX10_init_29 rfl ?_
    refine lv_aload_n hx hb dX10_init_30 rfl (lv_at hl 0 rfl) ?_
    refine mo_wR C A (T := TX10) iX10 rfl 0 (by decide) tb_26 rfl dX10_init_31 hF (fun v4 hF => ?_)
    refine mo_cI (n := 1) (As := [.ref v4]) (rest := [.ref v3, .ref x0]) C A hml hl.1 (c_X5_init l D dA b0 v3 v4) (tb_o tb_59) rfl tb_29 tb_57 tb_58 rfl (by decide +kernel) ⟨Nat.le_trans (by decide) hfr, Nat.le_trans (Nat.le_of_ble_eq_true rfl) hlo⟩ rfl (Nat.le_of_ble_eq_true rfl) rfl dX10_init_34 hF (fun v5 h H locs hF A => ?_)
    show W _ _ _ _ _ _ _ _ _ _ _ _ _ _ _ (F0 m 37 ls [.ref v3, .ref x0])
    refine mo_wpF C A (T := TX10) iX10 tyX10 tyX10_ok nmX10 rfl 1 (by decide) tb_30 rfl rfl hnm rfl rfl rfl dX10_init_37 hF (fun h H locs hF A => ?_)
    refine lv_aload_n hx hb dX10_init_40 rfl (lv_at hl 0 rfl) ?_
    refine mo_wnc C A (T := TX0) iX0 tyX0 tyX0_ok rfl tb_31 tb_32 tb_33 dfX0_ok rfl dX10_init_41 hF (fun v6 h H hF A => ?_)
    refine lv_dup hx hb dX10_init_44 rfl ?_
    refine mo_cI (n := 0) (As := []) (rest := [.ref v6, .ref x0]) C A hml hl.1 (c_X0_init l D dA b0 v6) (tb_o tb_108) rfl tb_33 tb_106 tb_107 rfl (by decide +kernel) ⟨Nat.le_trans (by decide) hfr, Nat.le_trans (Nat.le_of_ble_eq_true rfl) hlo⟩ rfl (Nat.le_of_ble_eq_true rfl) rfl dX10_init_45 hF (fun v7 h H locs hF A => ?_)
    show W _ _ _ _ _ _ _ _ _ _ _ _ _ _ _ (F0 m 48 ls [.ref v6, .ref x0])
    refine mo_wpF C A (T := TX10) iX10 tyX10 tyX10_ok nmX10 rfl 2 (by decide) tb_34 rfl rfl hnm rfl rfl rfl dX10_init_48 hF (fun h H locs hF A => ?_)
    rw [hQ]
    exact mo_vret C A hr hlocks dX10_init_51 hF
  exact E h0 s.heap [] hF A
set_option maxHeartbeats 4000000 in
set_option maxRecDepth 100000 in
theorem c_X10_flow (l : Launch) (D : va_G) (dA : Nat → ClassId) (b0 : Nat) (x0 : Nat) (x1 : Int32) (x2 : Int32) (x3 : Int32) : mo_Met l yX10_flow [Cond.code yX10_flow cX10_flow 4 (some .boolean)] 1 23 D dA b0 [.ref x0, .int x1, .int x2, .int x3] (fun r : Int32 => some (.int r)) (F_X10_flow x0 x1 x2 x3) := by
  refine mo_MetOf (own := RX10) (by decide) (Nat.le_of_ble_eq_true rfl) [(0, .ref x0), (1, .int x1), (2, .int x2), (3, .int x3)] rfl rfl ?_
  intro p e R s m args below meth c Q h0 h2 z ls hQ C hml hr hlocks hnm hfr hlo hF A hl
  have hx := C.1
  have hb := C.2.1
  have hown := C.2.2.1
  have hts := C.2.2.2.1
  have hK := C.2.2.2.2.1
  have iX7 := inlX7
  have iX10 := inlX10
  have J57 : ∀   (x0 : Nat) (x1 : Int32) (x2 : Int32) (x3 : Int32) (h : mo_H) (H : Heap) (locs : List Loc) (ls : Array Slot), mo_A D dA b0 s.heap h0 h H locs → lv_has ls 4 [(0, .ref x0), (1, .int x1), (2, .int x2), (3, .int x3)] → (F_X10_flow_57 x0 x1 x2 x3).1 h = some (z, h2) → W p l e R s m args below meth c H locs (h.2.1 - h0.2.1) (h.2.2 - h0.2.2) Q (F0 m 57 ls []) := by
    intro  x0 x1 x2 x3 h H locs ls A hl hF
    unfold F_X10_flow_57 at hF
    refine lv_aload_n hx hb dX10_flow_57 rfl (lv_at hl 0 rfl) ?_
    refine mo_wR C A (T := TX10) iX10 rfl 0 (by decide) tb_26 rfl dX10_flow_58 hF (fun v1 hF => ?_)
    refine lv_iload_n hx hb dX10_flow_61 rfl (lv_at hl 1 rfl) ?_
    refine lv_iload_n hx hb dX10_flow_62 rfl (lv_at hl 2 rfl) ?_
    refine lv_iload_n hx hb dX10_flow_63 rfl (lv_at hl 3 rfl) ?_
    refine mo_cV (n := 3) (As := [.int x1, .int x2, .int x3]) (rest := []) C A hml hl.1 (c_X7_setFlow l D dA b0 v1 x1 x2 x3) (ci := 7) (q := (RX7, TX7, 9)) rfl (fun _ e => (mo_ckE e).1) (tb_v tb_188 tb_189 tb_190 tb_18 tb_191) rfl (by decide +kernel) ⟨Nat.le_trans (by decide) hfr, Nat.le_trans (Nat.le_of_ble_eq_true rfl) hlo⟩ rfl (Nat.le_of_ble_eq_true rfl) rfl dX10_flow_64 hF (fun v2 h H locs hF A => ?_)
    show W _ _ _ _ _ _ _ _ _ _ _ _ _ _ _ (F0 m 67 ls [])
    refine lv_iconst (v := (1 : Int32)) hx hb dX10_flow_67 (by decide) ?_
    rw [hQ]
    exact mo_zret C A hr hlocks dX10_flow_68 hF
  unfold F_X10_flow at hF
  obtain ⟨-, hF⟩ := mo_ckE hF
  have E : ∀ (h : mo_H) (H : Heap) (locs : List Loc), (mo_b (mo_gR x0 10 0) fun v3 => mo_b (mo_gI v3 7 8) fun v4 => (if v4 = 0 then mo_b (mo_gR x0 10 0) fun v6 => mo_b (F_X7_hasDomain v6 x1) fun v7 => (if v7 = 0 then mo_rz (0 : Int32) else mo_b (mo_gR x0 10 0) fun v9 => mo_b (F_X7_hasDomain v9 x2) fun v10 => (if v10 = 0 then mo_rz (0 : Int32) else (if x1 = x2 then mo_rz (0 : Int32) else (if x3 = 0 then mo_b (mo_gR x0 10 0) fun v14 => mo_b (F_X7_hasLink v14 x1 x2) fun v15 => (if v15 = 0 then F_X10_flow_57 x0 x1 x2 x3 else mo_rz (0 : Int32)) else F_X10_flow_57 x0 x1 x2 x3)))) else mo_rz (0 : Int32))).1 h = some (z, h2) → mo_A D dA b0 s.heap h0 h H locs → W p l e R s m args below meth c H locs (h.2.1 - h0.2.1) (h.2.2 - h0.2.2) Q (F0 m 0 ls []) := by
    intro h H locs hF A
    refine lv_aload_n hx hb dX10_flow_0 rfl (lv_at hl 0 rfl) ?_
    refine mo_wR C A (T := TX10) iX10 rfl 0 (by decide) tb_26 rfl dX10_flow_1 hF (fun v3 hF => ?_)
    refine mo_wIN C A (T := TX7) iX7 rfl 8 (by decide) (List.mem_of_getElem? (i := 20) rfl) rfl dX10_flow_4 hF (fun v4 hF => ?_)
    refine lv_if_ne (tgt := 37) hx hb dX10_flow_7 (by decide) (fun c5 => ?_) (fun c5 => ?_)
    · have hF := mo_ifF c5 hF
      refine lv_iconst (v := (0 : Int32)) hx hb dX10_flow_37 (by decide) ?_
      rw [hQ]
      exact mo_zret C A hr hlocks dX10_flow_38 hF
    · have hF := mo_ifT c5 hF
      refine lv_aload_n hx hb dX10_flow_10 rfl (lv_at hl 0 rfl) ?_
      refine mo_wR C A (T := TX10) iX10 rfl 0 (by decide) tb_26 rfl dX10_flow_11 hF (fun v6 hF => ?_)
      refine lv_iload_n hx hb dX10_flow_14 rfl (lv_at hl 1 rfl) ?_
      refine mo_cV (n := 1) (As := [.int x1]) (rest := []) C A hml hl.1 (c_X7_hasDomain l D dA b0 v6 x1) (ci := 7) (q := (RX7, TX7, 9)) rfl (fun _ e => (mo_ckE e).1) (tb_v tb_179 tb_180 tb_181 tb_18 tb_182) rfl (by decide +kernel) ⟨Nat.le_trans (by decide) hfr, Nat.le_trans (Nat.le_of_ble_eq_true rfl) hlo⟩ rfl (Nat.le_of_ble_eq_true rfl) rfl dX10_flow_15 hF (fun v7 h H locs hF A => ?_)
      show W _ _ _ _ _ _ _ _ _ _ _ _ _ _ _ (F0 m 18 ls [.int v7])
      refine lv_if_eq (tgt := 37) hx hb dX10_flow_18 (by decide) (fun c8 => ?_) (fun c8 => ?_)
      · have hF := mo_ifT c8 hF
        refine lv_iconst (v := (0 : Int32)) hx hb dX10_flow_37 (by decide) ?_
        rw [hQ]
        exact mo_zret C A hr hlocks dX10_flow_38 hF
      · have hF := mo_ifF c8 hF
        refine lv_aload_n hx hb dX10_flow_21 rfl (lv_at hl 0 rfl) ?_
        refine mo_wR C A (T := TX10) iX10 rfl 0 (by decide) tb_26 rfl dX10_flow_22 hF (fun v9 hF => ?_)
        refine lv_iload_n hx hb dX10_flow_25 rfl (lv_at hl 2 rfl) ?_
        refine mo_cV (n := 1) (As := [.int x2]) (rest := []) C A hml hl.1 (c_X7_hasDomain l D dA b0 v9 x2) (ci := 7) (q := (RX7, TX7, 9)) rfl (fun _ e => (mo_ckE e).1) (tb_v tb_179 tb_180 tb_181 tb_18 tb_182) rfl (by decide +kernel) ⟨Nat.le_trans (by decide) hfr, Nat.le_trans (Nat.le_of_ble_eq_true rfl) hlo⟩ rfl (Nat.le_of_ble_eq_true rfl) rfl dX10_flow_26 hF (fun v10 h H locs hF A => ?_)
        show W _ _ _ _ _ _ _ _ _ _ _ _ _ _ _ (F0 m 29 ls [.int v10])
        refine lv_if_eq (tgt := 37) hx hb dX10_flow_29 (by decide) (fun c11 => ?_) (fun c11 => ?_)
        · have hF := mo_ifT c11 hF
          refine lv_iconst (v := (0 : Int32)) hx hb dX10_flow_37 (by decide) ?_
          rw [hQ]
          exact mo_zret C A hr hlocks dX10_flow_38 hF
        · have hF := mo_ifF c11 hF
          refine lv_iload_n hx hb dX10_flow_32 rfl (lv_at hl 1 rfl) ?_
          refine lv_iload_n hx hb dX10_flow_33 rfl (lv_at hl 2 rfl) ?_
          refine lv_icmp_ne (tgt := 39) hx hb dX10_flow_34 (by decide) (fun c12 => ?_) (fun c12 => ?_)
          · have hF := mo_ifF c12 hF
            refine lv_iload_n hx hb dX10_flow_39 rfl (lv_at hl 3 rfl) ?_
            refine lv_if_ne (tgt := 57) hx hb dX10_flow_40 (by decide) (fun c13 => ?_) (fun c13 => ?_)
            · have hF := mo_ifF c13 hF
              exact J57 x0 x1 x2 x3 h H locs ls A (lv_sub hl [0, 1, 2, 3] rfl) hF
            · have hF := mo_ifT c13 hF
              refine lv_aload_n hx hb dX10_flow_43 rfl (lv_at hl 0 rfl) ?_
              refine mo_wR C A (T := TX10) iX10 rfl 0 (by decide) tb_26 rfl dX10_flow_44 hF (fun v14 hF => ?_)
              refine lv_iload_n hx hb dX10_flow_47 rfl (lv_at hl 1 rfl) ?_
              refine lv_iload_n hx hb dX10_flow_48 rfl (lv_at hl 2 rfl) ?_
              refine mo_cV (n := 2) (As := [.int x1, .int x2]) (rest := []) C A hml hl.1 (c_X7_hasLink l D dA b0 v14 x1 x2) (ci := 7) (q := (RX7, TX7, 9)) rfl (fun _ e => (mo_ckE e).1) (tb_v tb_183 tb_184 tb_185 tb_18 tb_186) rfl (by decide +kernel) ⟨Nat.le_trans (by decide) hfr, Nat.le_trans (Nat.le_of_ble_eq_true rfl) hlo⟩ rfl (Nat.le_of_ble_eq_true rfl) rfl dX10_flow_49 hF (fun v15 h H locs hF A => ?_)
              show W _ _ _ _ _ _ _ _ _ _ _ _ _ _ _ (F0 m 52 ls [.int v15])
              refine lv_if_eq (tgt := 57) hx hb dX10_flow_52 (by decide) (fun c16 => ?_) (fun c16 => ?_)
              · have hF := mo_ifT c16 hF
                exact J57 x0 x1 x2 x3 h H locs ls A (lv_sub hl [0, 1, 2, 3] rfl) hF
              · have hF := mo_ifF c16 hF
                refine lv_iconst (v := (0 : Int32)) hx hb dX10_flow_55 (by decide) ?_
                rw [hQ]
                exact mo_zret C A hr hlocks dX10_flow_56 hF
          · have hF := mo_ifT c12 hF
            refine lv_iconst (v := (0 : Int32)) hx hb dX10_flow_37 (by decide) ?_
            rw [hQ]
            exact mo_zret C A hr hlocks dX10_flow_38 hF
  exact E h0 s.heap [] hF A
set_option maxHeartbeats 4000000 in
set_option maxRecDepth 100000 in
theorem c_X10_channel (l : Launch) (D : va_G) (dA : Nat → ClassId) (b0 : Nat) (x0 : Nat) (x1 : Int32) (x2 : Int32) (x3 : Int32) (x4 : Int32) : mo_Met l yX10_channel [Cond.code yX10_channel cX10_channel 6 (some .int)] 3 58 D dA b0 [.ref x0, .int x1, .int x2, .int x3, .int x4] (fun r : Int32 => some (.int r)) (F_X10_channel x0 x1 x2 x3 x4) := by
  refine mo_MetOf (own := RX10) (by decide) (Nat.le_of_ble_eq_true rfl) [(0, .ref x0), (1, .int x1), (2, .int x2), (3, .int x3), (4, .int x4)] rfl rfl ?_
  intro p e R s m args below meth c Q h0 h2 z ls hQ C hml hr hlocks hnm hfr hlo hF A hl
  have hx := C.1
  have hb := C.2.1
  have hown := C.2.2.1
  have hts := C.2.2.2.1
  have hK := C.2.2.2.2.1
  have iX1 := inlX1
  have iX4 := inlX4
  have iX5 := inlX5
  have iX7 := inlX7
  have iX10 := inlX10
  unfold F_X10_channel at hF
  obtain ⟨-, hF⟩ := mo_ckE hF
  have E : ∀ (h : mo_H) (H : Heap) (locs : List Loc), (mo_b (mo_gR x0 10 0) fun v1 => mo_b (mo_gI v1 7 8) fun v2 => (if v2 = 0 then mo_b (mo_gR x0 10 0) fun v4 => mo_b (F_X7_hasDomain v4 x1) fun v5 => (if v5 = 0 then mo_ret (-1 : Int32) else mo_b (mo_gR x0 10 0) fun v7 => mo_b (F_X7_hasDomain v7 x2) fun v8 => (if v8 = 0 then mo_ret (-1 : Int32) else (if x1 = x2 then mo_ret (-1 : Int32) else mo_b (mo_gR x0 10 0) fun v11 => mo_b (F_X7_mayFlow v11 x1 x2) fun v12 => (if v12 = 0 then mo_ret (-1 : Int32) else (if x4 < (1 : Int32) then mo_ret (-1 : Int32) else (if (4 : Int32) < x4 then mo_ret (-1 : Int32) else mo_b (mo_gR x0 10 0) fun v16 => mo_b (mo_gI v16 7 3) fun v17 => (if v17 = (12 : Int32) then mo_ret (-1 : Int32) else mo_b (mo_nc 4 dfX4) fun v19 => mo_b (F_X4_init v19 x1 x2 x3 x4) fun v20 => mo_b (mo_gR x0 10 0) fun v21 => mo_b (mo_gR v21 7 2) fun v22 => mo_b (mo_gR x0 10 0) fun v23 => mo_b (mo_gI v23 7 3) fun v24 => mo_b (mo_sq 3 4 v22 v24 v19) fun _ => mo_b (mo_gR x0 10 1) fun v25 => mo_b (mo_gR v25 5 2) fun v26 => mo_b (mo_gR x0 10 0) fun v27 => mo_b (mo_gI v27 7 3) fun v28 => mo_b (mo_nc 1 dfX1) fun v29 => mo_b (F_X1_init v29 v19) fun v30 => mo_b (mo_sq 5 1 v26 v28 v29) fun _ => mo_b (mo_gR x0 10 0) fun v31 => mo_b (mo_gI v31 7 3) fun v32 => mo_b (mo_pV v31 7 3 (.int (v32 + (1 : Int32)))) fun _ => mo_b (mo_gR x0 10 0) fun v33 => mo_b (mo_gI v33 7 3) fun v34 => mo_ret (v34 - (1 : Int32))))))))) else mo_ret (-1 : Int32))).1 h = some (z, h2) → mo_A D dA b0 s.heap h0 h H locs → W p l e R s m args below meth c H locs (h.2.1 - h0.2.1) (h.2.2 - h0.2.2) Q (F0 m 0 ls []) := by
    intro h H locs hF A
    refine lv_aload_n hx hb dX10_channel_0 rfl (lv_at hl 0 rfl) ?_
    refine mo_wR C A (T := TX10) iX10 rfl 0 (by decide) tb_26 rfl dX10_channel_1 hF (fun v1 hF => ?_)
    refine mo_wIN C A (T := TX7) iX7 rfl 8 (by decide) (List.mem_of_getElem? (i := 20) rfl) rfl dX10_channel_4 hF (fun v2 hF => ?_)
    refine lv_if_ne (tgt := 37) hx hb dX10_channel_7 (by decide) (fun c3 => ?_) (fun c3 => ?_)
    · have hF := mo_ifF c3 hF
      refine lv_iconst (v := (-1 : Int32)) hx hb dX10_channel_37 (by decide) ?_
      rw [hQ]
      exact mo_iret C A hr hlocks dX10_channel_38 hF
    · have hF := mo_ifT c3 hF
      refine lv_aload_n hx hb dX10_channel_10 rfl (lv_at hl 0 rfl) ?_
      refine mo_wR C A (T := TX10) iX10 rfl 0 (by decide) tb_26 rfl dX10_channel_11 hF (fun v4 hF => ?_)
      refine lv_iload_n hx hb dX10_channel_14 rfl (lv_at hl 1 rfl) ?_
      refine mo_cV (n := 1) (As := [.int x1]) (rest := []) C A hml hl.1 (c_X7_hasDomain l D dA b0 v4 x1) (ci := 7) (q := (RX7, TX7, 9)) rfl (fun _ e => (mo_ckE e).1) (tb_v tb_179 tb_180 tb_181 tb_18 tb_182) rfl (by decide +kernel) ⟨Nat.le_trans (by decide) hfr, Nat.le_trans (Nat.le_of_ble_eq_true rfl) hlo⟩ rfl (Nat.le_of_ble_eq_true rfl) rfl dX10_channel_15 hF (fun v5 h H locs hF A => ?_)
      show W _ _ _ _ _ _ _ _ _ _ _ _ _ _ _ (F0 m 18 ls [.int v5])
      refine lv_if_eq (tgt := 37) hx hb dX10_channel_18 (by decide) (fun c6 => ?_) (fun c6 => ?_)
      · have hF := mo_ifT c6 hF
        refine lv_iconst (v := (-1 : Int32)) hx hb dX10_channel_37 (by decide) ?_
        rw [hQ]
        exact mo_iret C A hr hlocks dX10_channel_38 hF
      · have hF := mo_ifF c6 hF
        refine lv_aload_n hx hb dX10_channel_21 rfl (lv_at hl 0 rfl) ?_
        refine mo_wR C A (T := TX10) iX10 rfl 0 (by decide) tb_26 rfl dX10_channel_22 hF (fun v7 hF => ?_)
        refine lv_iload_n hx hb dX10_channel_25 rfl (lv_at hl 2 rfl) ?_
        refine mo_cV (n := 1) (As := [.int x2]) (rest := []) C A hml hl.1 (c_X7_hasDomain l D dA b0 v7 x2) (ci := 7) (q := (RX7, TX7, 9)) rfl (fun _ e => (mo_ckE e).1) (tb_v tb_179 tb_180 tb_181 tb_18 tb_182) rfl (by decide +kernel) ⟨Nat.le_trans (by decide) hfr, Nat.le_trans (Nat.le_of_ble_eq_true rfl) hlo⟩ rfl (Nat.le_of_ble_eq_true rfl) rfl dX10_channel_26 hF (fun v8 h H locs hF A => ?_)
        show W _ _ _ _ _ _ _ _ _ _ _ _ _ _ _ (F0 m 29 ls [.int v8])
        refine lv_if_eq (tgt := 37) hx hb dX10_channel_29 (by decide) (fun c9 => ?_) (fun c9 => ?_)
        · have hF := mo_ifT c9 hF
          refine lv_iconst (v := (-1 : Int32)) hx hb dX10_channel_37 (by decide) ?_
          rw [hQ]
          exact mo_iret C A hr hlocks dX10_channel_38 hF
        · have hF := mo_ifF c9 hF
          refine lv_iload_n hx hb dX10_channel_32 rfl (lv_at hl 1 rfl) ?_
          refine lv_iload_n hx hb dX10_channel_33 rfl (lv_at hl 2 rfl) ?_
          refine lv_icmp_ne (tgt := 39) hx hb dX10_channel_34 (by decide) (fun c10 => ?_) (fun c10 => ?_)
          · have hF := mo_ifF c10 hF
            refine lv_aload_n hx hb dX10_channel_39 rfl (lv_at hl 0 rfl) ?_
            refine mo_wR C A (T := TX10) iX10 rfl 0 (by decide) tb_26 rfl dX10_channel_40 hF (fun v11 hF => ?_)
            refine lv_iload_n hx hb dX10_channel_43 rfl (lv_at hl 1 rfl) ?_
            refine lv_iload_n hx hb dX10_channel_44 rfl (lv_at hl 2 rfl) ?_
            refine mo_cV (n := 2) (As := [.int x1, .int x2]) (rest := []) C A hml hl.1 (c_X7_mayFlow l D dA b0 v11 x1 x2) (ci := 7) (q := (RX7, TX7, 9)) rfl (fun _ e => (mo_ckE e).1) (tb_v tb_210 tb_211 tb_212 tb_18 tb_213) rfl (by decide +kernel) ⟨Nat.le_trans (by decide) hfr, Nat.le_trans (Nat.le_of_ble_eq_true rfl) hlo⟩ rfl (Nat.le_of_ble_eq_true rfl) rfl dX10_channel_45 hF (fun v12 h H locs hF A => ?_)
            show W _ _ _ _ _ _ _ _ _ _ _ _ _ _ _ (F0 m 48 ls [.int v12])
            refine lv_if_eq (tgt := 75) hx hb dX10_channel_48 (by decide) (fun c13 => ?_) (fun c13 => ?_)
            · have hF := mo_ifT c13 hF
              refine lv_iconst (v := (-1 : Int32)) hx hb dX10_channel_75 (by decide) ?_
              rw [hQ]
              exact mo_iret C A hr hlocks dX10_channel_76 hF
            · have hF := mo_ifF c13 hF
              refine lv_iload hx hb dX10_channel_51 (lv_at hl 4 rfl) ?_
              refine lv_iconst (v := (1 : Int32)) hx hb dX10_channel_53 (by decide) ?_
              refine lv_icmp_lt (tgt := 75) hx hb dX10_channel_54 (by decide) (fun c14 => ?_) (fun c14 => ?_)
              · have hF := mo_ifT c14 hF
                refine lv_iconst (v := (-1 : Int32)) hx hb dX10_channel_75 (by decide) ?_
                rw [hQ]
                exact mo_iret C A hr hlocks dX10_channel_76 hF
              · have hF := mo_ifF c14 hF
                refine lv_iload hx hb dX10_channel_57 (lv_at hl 4 rfl) ?_
                refine lv_iconst (v := (4 : Int32)) hx hb dX10_channel_59 (by decide) ?_
                refine lv_icmp_gt (tgt := 75) hx hb dX10_channel_60 (by decide) (fun c15 => ?_) (fun c15 => ?_)
                · have hF := mo_ifT c15 hF
                  refine lv_iconst (v := (-1 : Int32)) hx hb dX10_channel_75 (by decide) ?_
                  rw [hQ]
                  exact mo_iret C A hr hlocks dX10_channel_76 hF
                · have hF := mo_ifF c15 hF
                  refine lv_aload_n hx hb dX10_channel_63 rfl (lv_at hl 0 rfl) ?_
                  refine mo_wR C A (T := TX10) iX10 rfl 0 (by decide) tb_26 rfl dX10_channel_64 hF (fun v16 hF => ?_)
                  refine mo_wIN C A (T := TX7) iX7 rfl 3 (by decide) (List.mem_of_getElem? (i := 11) rfl) rfl dX10_channel_67 hF (fun v17 hF => ?_)
                  refine lv_bipush (v := (12 : Int32)) hx hb dX10_channel_70 (by decide) ?_
                  refine lv_icmp_ne (tgt := 77) hx hb dX10_channel_72 (by decide) (fun c18 => ?_) (fun c18 => ?_)
                  · have hF := mo_ifF c18 hF
                    refine mo_wnc C A (T := TX4) iX4 tyX4 tyX4_ok rfl tb_206 tb_207 tb_208 dfX4_ok rfl dX10_channel_77 hF (fun v19 h H hF A => ?_)
                    refine lv_dup hx hb dX10_channel_80 rfl ?_
                    refine lv_iload_n hx hb dX10_channel_81 rfl (lv_at hl 1 rfl) ?_
                    refine lv_iload_n hx hb dX10_channel_82 rfl (lv_at hl 2 rfl) ?_
                    refine lv_iload_n hx hb dX10_channel_83 rfl (lv_at hl 3 rfl) ?_
                    refine lv_iload hx hb dX10_channel_84 (lv_at hl 4 rfl) ?_
                    refine mo_cI (n := 4) (As := [.int x1, .int x2, .int x3, .int x4]) (rest := [.ref v19]) C A hml hl.1 (c_X4_init l D dA b0 v19 x1 x2 x3 x4) (tb_o tb_216) rfl tb_208 tb_214 tb_215 rfl (by decide +kernel) ⟨Nat.le_trans (by decide) hfr, Nat.le_trans (Nat.le_of_ble_eq_true rfl) hlo⟩ rfl (Nat.le_of_ble_eq_true rfl) rfl dX10_channel_86 hF (fun v20 h H locs hF A => ?_)
                    show W _ _ _ _ _ _ _ _ _ _ _ _ _ _ _ (F0 m 89 ls [.ref v19])
                    refine lv_astore (lv' := [(5, .ref v19), (0, .ref x0), (1, .int x1), (2, .int x2), (3, .int x3), (4, .int x4)]) hx hb dX10_channel_89 hl (by decide) rfl (fun ls hl => ?_)
                    refine lv_aload_n hx hb dX10_channel_91 rfl (lv_at hl 1 rfl) ?_
                    refine mo_wR C A (T := TX10) iX10 rfl 0 (by decide) tb_26 rfl dX10_channel_92 hF (fun v21 hF => ?_)
                    refine mo_wRN C A (T := TX7) iX7 rfl 2 (by decide) (List.mem_of_getElem? (i := 9) rfl) rfl dX10_channel_95 hF (fun v22 hF => ?_)
                    refine lv_aload_n hx hb dX10_channel_98 rfl (lv_at hl 1 rfl) ?_
                    refine mo_wR C A (T := TX10) iX10 rfl 0 (by decide) tb_26 rfl dX10_channel_99 hF (fun v23 hF => ?_)
                    refine mo_wIN C A (T := TX7) iX7 rfl 3 (by decide) (List.mem_of_getElem? (i := 11) rfl) rfl dX10_channel_102 hF (fun v24 hF => ?_)
                    refine lv_aload hx hb dX10_channel_105 (lv_at hl 0 rfl) ?_
                    refine mo_wsq C A (t := 3) (ci := 4) (r := (RX4, TX4, 4)) (fun _ => rfl) rfl dX10_channel_107 hF (fun h H locs hF A => ?_)
                    refine lv_aload_n hx hb dX10_channel_108 rfl (lv_at hl 1 rfl) ?_
                    refine mo_wR C A (T := TX10) iX10 rfl 1 (by decide) tb_30 rfl dX10_channel_109 hF (fun v25 hF => ?_)
                    refine mo_wRN C A (T := TX5) iX5 rfl 2 (by decide) (List.mem_of_getElem? (i := 56) rfl) rfl dX10_channel_112 hF (fun v26 hF => ?_)
                    refine lv_aload_n hx hb dX10_channel_115 rfl (lv_at hl 1 rfl) ?_
                    refine mo_wR C A (T := TX10) iX10 rfl 0 (by decide) tb_26 rfl dX10_channel_116 hF (fun v27 hF => ?_)
                    refine mo_wIN C A (T := TX7) iX7 rfl 3 (by decide) (List.mem_of_getElem? (i := 11) rfl) rfl dX10_channel_119 hF (fun v28 hF => ?_)
                    refine mo_wnc C A (T := TX1) iX1 tyX1 tyX1_ok rfl tb_209 tb_68 tb_69 dfX1_ok rfl dX10_channel_122 hF (fun v29 h H hF A => ?_)
                    refine lv_dup hx hb dX10_channel_125 rfl ?_
                    refine lv_aload hx hb dX10_channel_126 (lv_at hl 0 rfl) ?_
                    refine mo_cI (n := 1) (As := [.ref v19]) (rest := [.ref v29, .int v28, .ref v26]) C A hml hl.1 (c_X1_init l D dA b0 v29 v19) (tb_o tb_86) rfl tb_69 tb_222 tb_85 rfl (by decide +kernel) ⟨Nat.le_trans (by decide) hfr, Nat.le_trans (Nat.le_of_ble_eq_true rfl) hlo⟩ rfl (Nat.le_of_ble_eq_true rfl) rfl dX10_channel_128 hF (fun v30 h H locs hF A => ?_)
                    show W _ _ _ _ _ _ _ _ _ _ _ _ _ _ _ (F0 m 131 ls [.ref v29, .int v28, .ref v26])
                    refine mo_wsq C A (t := 5) (ci := 1) (r := (RX1, TX1, 8)) (fun _ => rfl) rfl dX10_channel_131 hF (fun h H locs hF A => ?_)
                    refine lv_aload_n hx hb dX10_channel_132 rfl (lv_at hl 1 rfl) ?_
                    refine mo_wR C A (T := TX10) iX10 rfl 0 (by decide) tb_26 rfl dX10_channel_133 hF (fun v31 hF => ?_)
                    refine lv_dup hx hb dX10_channel_136 rfl ?_
                    refine mo_wIN C A (T := TX7) iX7 rfl 3 (by decide) (List.mem_of_getElem? (i := 11) rfl) rfl dX10_channel_137 hF (fun v32 hF => ?_)
                    refine lv_iconst (v := (1 : Int32)) hx hb dX10_channel_140 (by decide) ?_
                    refine lv_iadd hx hb dX10_channel_141 ?_
                    refine mo_wpN C A (T := TX7) iX7 tyX7 tyX7_ok nmX7 rfl 3 (by decide) (List.mem_of_getElem? (i := 11) rfl) rfl rfl rfl rfl dX10_channel_142 hF (fun h H locs hF A => ?_)
                    refine lv_aload_n hx hb dX10_channel_145 rfl (lv_at hl 1 rfl) ?_
                    refine mo_wR C A (T := TX10) iX10 rfl 0 (by decide) tb_26 rfl dX10_channel_146 hF (fun v33 hF => ?_)
                    refine mo_wIN C A (T := TX7) iX7 rfl 3 (by decide) (List.mem_of_getElem? (i := 11) rfl) rfl dX10_channel_149 hF (fun v34 hF => ?_)
                    refine lv_iconst (v := (1 : Int32)) hx hb dX10_channel_152 (by decide) ?_
                    refine lv_isub hx hb dX10_channel_153 ?_
                    rw [hQ]
                    exact mo_iret C A hr hlocks dX10_channel_154 hF
                  · have hF := mo_ifT c18 hF
                    refine lv_iconst (v := (-1 : Int32)) hx hb dX10_channel_75 (by decide) ?_
                    rw [hQ]
                    exact mo_iret C A hr hlocks dX10_channel_76 hF
          · have hF := mo_ifT c10 hF
            refine lv_iconst (v := (-1 : Int32)) hx hb dX10_channel_37 (by decide) ?_
            rw [hQ]
            exact mo_iret C A hr hlocks dX10_channel_38 hF
  exact E h0 s.heap [] hF A
set_option maxHeartbeats 4000000 in
set_option maxRecDepth 100000 in
theorem c_X10_code (l : Launch) (D : va_G) (dA : Nat → ClassId) (b0 : Nat) (x0 : Nat) (x1 : Int32) (x2 : Int32) : mo_Met l yX10_code [Cond.code yX10_code cX10_code 3 (some .int)] 3 61 D dA b0 [.ref x0, .int x1, .int x2] (fun r : Int32 => some (.int r)) (F_X10_code x0 x1 x2) := by
  refine mo_MetOf (own := RX10) (by decide) (Nat.le_of_ble_eq_true rfl) [(0, .ref x0), (1, .int x1), (2, .int x2)] rfl rfl ?_
  intro p e R s m args below meth c Q h0 h2 z ls hQ C hml hr hlocks hnm hfr hlo hF A hl
  have hx := C.1
  have hb := C.2.1
  have hown := C.2.2.1
  have hts := C.2.2.2.1
  have hK := C.2.2.2.2.1
  have iX7 := inlX7
  have iX9 := inlX9
  have iX10 := inlX10
  unfold F_X10_code at hF
  obtain ⟨-, hF⟩ := mo_ckE hF
  have E : ∀ (h : mo_H) (H : Heap) (locs : List Loc), (mo_b (mo_gR x0 10 0) fun v1 => mo_b (mo_gI v1 7 8) fun v2 => (if v2 = 0 then mo_b (mo_gR x0 10 0) fun v4 => mo_b (F_X7_hasDomain v4 x1) fun v5 => (if v5 = 0 then mo_ret (-1 : Int32) else mo_b (mo_gR x0 10 0) fun v7 => mo_b (mo_gR v7 7 4) fun v8 => mo_b (mo_lq 2 v8 x1) fun v9 => mo_b (mo_gI v9 9 1) fun v10 => (if v10 = (64 : Int32) then mo_ret (-1 : Int32) else mo_b (mo_gR x0 10 0) fun v12 => mo_b (mo_gR v12 7 4) fun v13 => mo_b (mo_lq 2 v13 x1) fun v14 => mo_b (F_X9_add v14 x2) fun v15 => mo_b (mo_gR x0 10 0) fun v16 => mo_b (mo_gR v16 7 4) fun v17 => mo_b (mo_lq 2 v17 x1) fun v18 => mo_b (mo_gI v18 9 1) fun v19 => mo_ret v19)) else mo_ret (-1 : Int32))).1 h = some (z, h2) → mo_A D dA b0 s.heap h0 h H locs → W p l e R s m args below meth c H locs (h.2.1 - h0.2.1) (h.2.2 - h0.2.2) Q (F0 m 0 ls []) := by
    intro h H locs hF A
    refine lv_aload_n hx hb dX10_code_0 rfl (lv_at hl 0 rfl) ?_
    refine mo_wR C A (T := TX10) iX10 rfl 0 (by decide) tb_26 rfl dX10_code_1 hF (fun v1 hF => ?_)
    refine mo_wIN C A (T := TX7) iX7 rfl 8 (by decide) (List.mem_of_getElem? (i := 20) rfl) rfl dX10_code_4 hF (fun v2 hF => ?_)
    refine lv_if_ne (tgt := 38) hx hb dX10_code_7 (by decide) (fun c3 => ?_) (fun c3 => ?_)
    · have hF := mo_ifF c3 hF
      refine lv_iconst (v := (-1 : Int32)) hx hb dX10_code_38 (by decide) ?_
      rw [hQ]
      exact mo_iret C A hr hlocks dX10_code_39 hF
    · have hF := mo_ifT c3 hF
      refine lv_aload_n hx hb dX10_code_10 rfl (lv_at hl 0 rfl) ?_
      refine mo_wR C A (T := TX10) iX10 rfl 0 (by decide) tb_26 rfl dX10_code_11 hF (fun v4 hF => ?_)
      refine lv_iload_n hx hb dX10_code_14 rfl (lv_at hl 1 rfl) ?_
      refine mo_cV (n := 1) (As := [.int x1]) (rest := []) C A hml hl.1 (c_X7_hasDomain l D dA b0 v4 x1) (ci := 7) (q := (RX7, TX7, 9)) rfl (fun _ e => (mo_ckE e).1) (tb_v tb_179 tb_180 tb_181 tb_18 tb_182) rfl (by decide +kernel) ⟨Nat.le_trans (by decide) hfr, Nat.le_trans (Nat.le_of_ble_eq_true rfl) hlo⟩ rfl (Nat.le_of_ble_eq_true rfl) rfl dX10_code_15 hF (fun v5 h H locs hF A => ?_)
      show W _ _ _ _ _ _ _ _ _ _ _ _ _ _ _ (F0 m 18 ls [.int v5])
      refine lv_if_eq (tgt := 38) hx hb dX10_code_18 (by decide) (fun c6 => ?_) (fun c6 => ?_)
      · have hF := mo_ifT c6 hF
        refine lv_iconst (v := (-1 : Int32)) hx hb dX10_code_38 (by decide) ?_
        rw [hQ]
        exact mo_iret C A hr hlocks dX10_code_39 hF
      · have hF := mo_ifF c6 hF
        refine lv_aload_n hx hb dX10_code_21 rfl (lv_at hl 0 rfl) ?_
        refine mo_wR C A (T := TX10) iX10 rfl 0 (by decide) tb_26 rfl dX10_code_22 hF (fun v7 hF => ?_)
        refine mo_wRN C A (T := TX7) iX7 rfl 4 (by decide) (List.mem_of_getElem? (i := 13) rfl) rfl dX10_code_25 hF (fun v8 hF => ?_)
        refine lv_iload_n hx hb dX10_code_28 rfl (lv_at hl 1 rfl) ?_
        refine mo_wlq C A (t := 2) (fun _ => rfl) dX10_code_29 hF (fun v9 hF => ?_)
        refine mo_wIN C A (T := TX9) iX9 rfl 1 (by decide) (List.mem_of_getElem? (i := 1) rfl) rfl dX10_code_30 hF (fun v10 hF => ?_)
        refine lv_bipush (v := (64 : Int32)) hx hb dX10_code_33 (by decide) ?_
        refine lv_icmp_ne (tgt := 40) hx hb dX10_code_35 (by decide) (fun c11 => ?_) (fun c11 => ?_)
        · have hF := mo_ifF c11 hF
          refine lv_aload_n hx hb dX10_code_40 rfl (lv_at hl 0 rfl) ?_
          refine mo_wR C A (T := TX10) iX10 rfl 0 (by decide) tb_26 rfl dX10_code_41 hF (fun v12 hF => ?_)
          refine mo_wRN C A (T := TX7) iX7 rfl 4 (by decide) (List.mem_of_getElem? (i := 13) rfl) rfl dX10_code_44 hF (fun v13 hF => ?_)
          refine lv_iload_n hx hb dX10_code_47 rfl (lv_at hl 1 rfl) ?_
          refine mo_wlq C A (t := 2) (fun _ => rfl) dX10_code_48 hF (fun v14 hF => ?_)
          refine lv_iload_n hx hb dX10_code_49 rfl (lv_at hl 2 rfl) ?_
          refine mo_cV (n := 1) (As := [.int x2]) (rest := []) C A hml hl.1 (c_X9_add l D dA b0 v14 x2) (ci := 9) (q := (RX9, TX9, 2)) rfl (fun _ e => (mo_ckE e).1) (tb_v tb_231 tb_232 tb_233 tb_46 tb_234) rfl (by decide +kernel) ⟨Nat.le_trans (by decide) hfr, Nat.le_trans (Nat.le_of_ble_eq_true rfl) hlo⟩ rfl (Nat.le_of_ble_eq_true rfl) rfl dX10_code_50 hF (fun v15 h H locs hF A => ?_)
          show W _ _ _ _ _ _ _ _ _ _ _ _ _ _ _ (F0 m 53 ls [])
          refine lv_aload_n hx hb dX10_code_53 rfl (lv_at hl 0 rfl) ?_
          refine mo_wR C A (T := TX10) iX10 rfl 0 (by decide) tb_26 rfl dX10_code_54 hF (fun v16 hF => ?_)
          refine mo_wRN C A (T := TX7) iX7 rfl 4 (by decide) (List.mem_of_getElem? (i := 13) rfl) rfl dX10_code_57 hF (fun v17 hF => ?_)
          refine lv_iload_n hx hb dX10_code_60 rfl (lv_at hl 1 rfl) ?_
          refine mo_wlq C A (t := 2) (fun _ => rfl) dX10_code_61 hF (fun v18 hF => ?_)
          refine mo_wIN C A (T := TX9) iX9 rfl 1 (by decide) (List.mem_of_getElem? (i := 1) rfl) rfl dX10_code_62 hF (fun v19 hF => ?_)
          rw [hQ]
          exact mo_iret C A hr hlocks dX10_code_65 hF
        · have hF := mo_ifT c11 hF
          refine lv_iconst (v := (-1 : Int32)) hx hb dX10_code_38 (by decide) ?_
          rw [hQ]
          exact mo_iret C A hr hlocks dX10_code_39 hF
  exact E h0 s.heap [] hF A
set_option maxHeartbeats 4000000 in
set_option maxRecDepth 100000 in
theorem c_X10_onFail (l : Launch) (D : va_G) (dA : Nat → ClassId) (b0 : Nat) (x0 : Nat) (x1 : Int32) (x2 : Int32) : mo_Met l yX10_onFail [Cond.code yX10_onFail cX10_onFail 3 (some .boolean)] 1 21 D dA b0 [.ref x0, .int x1, .int x2] (fun r : Int32 => some (.int r)) (F_X10_onFail x0 x1 x2) := by
  refine mo_MetOf (own := RX10) (by decide) (Nat.le_of_ble_eq_true rfl) [(0, .ref x0), (1, .int x1), (2, .int x2)] rfl rfl ?_
  intro p e R s m args below meth c Q h0 h2 z ls hQ C hml hr hlocks hnm hfr hlo hF A hl
  have hx := C.1
  have hb := C.2.1
  have hown := C.2.2.1
  have hts := C.2.2.2.1
  have hK := C.2.2.2.2.1
  have iX7 := inlX7
  have iX10 := inlX10
  unfold F_X10_onFail at hF
  obtain ⟨-, hF⟩ := mo_ckE hF
  have E : ∀ (h : mo_H) (H : Heap) (locs : List Loc), (mo_b (mo_gR x0 10 0) fun v1 => mo_b (mo_gI v1 7 8) fun v2 => (if v2 = 0 then mo_b (mo_gR x0 10 0) fun v4 => mo_b (F_X7_hasDomain v4 x1) fun v5 => (if v5 = 0 then mo_rz (0 : Int32) else (if x2 < 0 then mo_rz (0 : Int32) else (if x2 ≤ (2 : Int32) then mo_b (mo_gR x0 10 0) fun v9 => mo_b (mo_gR v9 7 5) fun v10 => mo_b (mo_sa 0 v10 x1 x2) fun _ => mo_rz (1 : Int32) else mo_rz (0 : Int32)))) else mo_rz (0 : Int32))).1 h = some (z, h2) → mo_A D dA b0 s.heap h0 h H locs → W p l e R s m args below meth c H locs (h.2.1 - h0.2.1) (h.2.2 - h0.2.2) Q (F0 m 0 ls []) := by
    intro h H locs hF A
    refine lv_aload_n hx hb dX10_onFail_0 rfl (lv_at hl 0 rfl) ?_
    refine mo_wR C A (T := TX10) iX10 rfl 0 (by decide) tb_26 rfl dX10_onFail_1 hF (fun v1 hF => ?_)
    refine mo_wIN C A (T := TX7) iX7 rfl 8 (by decide) (List.mem_of_getElem? (i := 20) rfl) rfl dX10_onFail_4 hF (fun v2 hF => ?_)
    refine lv_if_ne (tgt := 30) hx hb dX10_onFail_7 (by decide) (fun c3 => ?_) (fun c3 => ?_)
    · have hF := mo_ifF c3 hF
      refine lv_iconst (v := (0 : Int32)) hx hb dX10_onFail_30 (by decide) ?_
      rw [hQ]
      exact mo_zret C A hr hlocks dX10_onFail_31 hF
    · have hF := mo_ifT c3 hF
      refine lv_aload_n hx hb dX10_onFail_10 rfl (lv_at hl 0 rfl) ?_
      refine mo_wR C A (T := TX10) iX10 rfl 0 (by decide) tb_26 rfl dX10_onFail_11 hF (fun v4 hF => ?_)
      refine lv_iload_n hx hb dX10_onFail_14 rfl (lv_at hl 1 rfl) ?_
      refine mo_cV (n := 1) (As := [.int x1]) (rest := []) C A hml hl.1 (c_X7_hasDomain l D dA b0 v4 x1) (ci := 7) (q := (RX7, TX7, 9)) rfl (fun _ e => (mo_ckE e).1) (tb_v tb_179 tb_180 tb_181 tb_18 tb_182) rfl (by decide +kernel) ⟨Nat.le_trans (by decide) hfr, Nat.le_trans (Nat.le_of_ble_eq_true rfl) hlo⟩ rfl (Nat.le_of_ble_eq_true rfl) rfl dX10_onFail_15 hF (fun v5 h H locs hF A => ?_)
      show W _ _ _ _ _ _ _ _ _ _ _ _ _ _ _ (F0 m 18 ls [.int v5])
      refine lv_if_eq (tgt := 30) hx hb dX10_onFail_18 (by decide) (fun c6 => ?_) (fun c6 => ?_)
      · have hF := mo_ifT c6 hF
        refine lv_iconst (v := (0 : Int32)) hx hb dX10_onFail_30 (by decide) ?_
        rw [hQ]
        exact mo_zret C A hr hlocks dX10_onFail_31 hF
      · have hF := mo_ifF c6 hF
        refine lv_iload_n hx hb dX10_onFail_21 rfl (lv_at hl 2 rfl) ?_
        refine lv_if_lt (tgt := 30) hx hb dX10_onFail_22 (by decide) (fun c7 => ?_) (fun c7 => ?_)
        · have hF := mo_ifT c7 hF
          refine lv_iconst (v := (0 : Int32)) hx hb dX10_onFail_30 (by decide) ?_
          rw [hQ]
          exact mo_zret C A hr hlocks dX10_onFail_31 hF
        · have hF := mo_ifF c7 hF
          refine lv_iload_n hx hb dX10_onFail_25 rfl (lv_at hl 2 rfl) ?_
          refine lv_iconst (v := (2 : Int32)) hx hb dX10_onFail_26 (by decide) ?_
          refine lv_icmp_le (tgt := 32) hx hb dX10_onFail_27 (by decide) (fun c8 => ?_) (fun c8 => ?_)
          · have hF := mo_ifT c8 hF
            refine lv_aload_n hx hb dX10_onFail_32 rfl (lv_at hl 0 rfl) ?_
            refine mo_wR C A (T := TX10) iX10 rfl 0 (by decide) tb_26 rfl dX10_onFail_33 hF (fun v9 hF => ?_)
            refine mo_wRN C A (T := TX7) iX7 rfl 5 (by decide) (List.mem_of_getElem? (i := 14) rfl) rfl dX10_onFail_36 hF (fun v10 hF => ?_)
            refine lv_iload_n hx hb dX10_onFail_39 rfl (lv_at hl 1 rfl) ?_
            refine lv_iload_n hx hb dX10_onFail_40 rfl (lv_at hl 2 rfl) ?_
            refine mo_wsa C A dX10_onFail_41 hF (fun h H locs hF A => ?_)
            refine lv_iconst (v := (1 : Int32)) hx hb dX10_onFail_42 (by decide) ?_
            rw [hQ]
            exact mo_zret C A hr hlocks dX10_onFail_43 hF
          · have hF := mo_ifF c8 hF
            refine lv_iconst (v := (0 : Int32)) hx hb dX10_onFail_30 (by decide) ?_
            rw [hQ]
            exact mo_zret C A hr hlocks dX10_onFail_31 hF
  exact E h0 s.heap [] hF A
set_option maxHeartbeats 4000000 in
set_option maxRecDepth 100000 in
theorem c_X10_slot (l : Launch) (D : va_G) (dA : Nat → ClassId) (b0 : Nat) (x0 : Nat) (x1 : Int32) (x2 : Int32) (x3 : Int32) : mo_Met l yX10_slot [Cond.code yX10_slot cX10_slot 4 (some .int)] 3 61 D dA b0 [.ref x0, .int x1, .int x2, .int x3] (fun r : Int32 => some (.int r)) (F_X10_slot x0 x1 x2 x3) := by
  refine mo_MetOf (own := RX10) (by decide) (Nat.le_of_ble_eq_true rfl) [(0, .ref x0), (1, .int x1), (2, .int x2), (3, .int x3)] rfl rfl ?_
  intro p e R s m args below meth c Q h0 h2 z ls hQ C hml hr hlocks hnm hfr hlo hF A hl
  have hx := C.1
  have hb := C.2.1
  have hown := C.2.2.1
  have hts := C.2.2.2.1
  have hK := C.2.2.2.2.1
  have iX7 := inlX7
  have iX9 := inlX9
  have iX10 := inlX10
  unfold F_X10_slot at hF
  obtain ⟨-, hF⟩ := mo_ckE hF
  have E : ∀ (h : mo_H) (H : Heap) (locs : List Loc), (mo_b (mo_gR x0 10 0) fun v1 => mo_b (mo_gI v1 7 8) fun v2 => (if v2 = 0 then mo_b (F_X10_isSchedule x1) fun v4 => (if v4 = 0 then mo_ret (-1 : Int32) else mo_b (mo_gR x0 10 0) fun v6 => mo_b (F_X7_hasDomain v6 x2) fun v7 => (if v7 = 0 then mo_ret (-1 : Int32) else (if x3 < (1 : Int32) then mo_ret (-1 : Int32) else (if (20 : Int32) < x3 then mo_ret (-1 : Int32) else mo_b (mo_gR x0 10 0) fun v11 => mo_b (mo_gR v11 7 7) fun v12 => mo_b (mo_lq 2 v12 x1) fun v13 => mo_b (mo_gI v13 9 1) fun v14 => (if v14 = (12 : Int32) then mo_ret (-1 : Int32) else mo_b (mo_gR x0 10 0) fun v16 => mo_b (mo_gR v16 7 6) fun v17 => mo_b (mo_lq 2 v17 x1) fun v18 => mo_b (F_X9_add v18 x2) fun v19 => mo_b (mo_gR x0 10 0) fun v20 => mo_b (mo_gR v20 7 7) fun v21 => mo_b (mo_lq 2 v21 x1) fun v22 => mo_b (F_X9_add v22 x3) fun v23 => mo_b (mo_gR x0 10 0) fun v24 => mo_b (mo_gR v24 7 7) fun v25 => mo_b (mo_lq 2 v25 x1) fun v26 => mo_b (mo_gI v26 9 1) fun v27 => mo_ret v27))))) else mo_ret (-1 : Int32))).1 h = some (z, h2) → mo_A D dA b0 s.heap h0 h H locs → W p l e R s m args below meth c H locs (h.2.1 - h0.2.1) (h.2.2 - h0.2.2) Q (F0 m 0 ls []) := by
    intro h H locs hF A
    refine lv_aload_n hx hb dX10_slot_0 rfl (lv_at hl 0 rfl) ?_
    refine mo_wR C A (T := TX10) iX10 rfl 0 (by decide) tb_26 rfl dX10_slot_1 hF (fun v1 hF => ?_)
    refine mo_wIN C A (T := TX7) iX7 rfl 8 (by decide) (List.mem_of_getElem? (i := 20) rfl) rfl dX10_slot_4 hF (fun v2 hF => ?_)
    refine lv_if_ne (tgt := 28) hx hb dX10_slot_7 (by decide) (fun c3 => ?_) (fun c3 => ?_)
    · have hF := mo_ifF c3 hF
      refine lv_iconst (v := (-1 : Int32)) hx hb dX10_slot_28 (by decide) ?_
      rw [hQ]
      exact mo_iret C A hr hlocks dX10_slot_29 hF
    · have hF := mo_ifT c3 hF
      refine lv_iload_n hx hb dX10_slot_10 rfl (lv_at hl 1 rfl) ?_
      refine mo_cS (n := 1) (As := [.int x1]) (rest := []) C A hml hl.1 (c_X10_isSchedule l D dA b0 x1) (tb_s tb_267 tb_268 tb_2 tb_269) rfl (by decide +kernel) ⟨Nat.le_trans (by decide) hfr, Nat.le_trans (Nat.le_of_ble_eq_true rfl) hlo⟩ rfl (Nat.le_of_ble_eq_true rfl) rfl dX10_slot_11 hF (fun v4 h H locs hF A => ?_)
      show W _ _ _ _ _ _ _ _ _ _ _ _ _ _ _ (F0 m 14 ls [.int v4])
      refine lv_if_eq (tgt := 28) hx hb dX10_slot_14 (by decide) (fun c5 => ?_) (fun c5 => ?_)
      · have hF := mo_ifT c5 hF
        refine lv_iconst (v := (-1 : Int32)) hx hb dX10_slot_28 (by decide) ?_
        rw [hQ]
        exact mo_iret C A hr hlocks dX10_slot_29 hF
      · have hF := mo_ifF c5 hF
        refine lv_aload_n hx hb dX10_slot_17 rfl (lv_at hl 0 rfl) ?_
        refine mo_wR C A (T := TX10) iX10 rfl 0 (by decide) tb_26 rfl dX10_slot_18 hF (fun v6 hF => ?_)
        refine lv_iload_n hx hb dX10_slot_21 rfl (lv_at hl 2 rfl) ?_
        refine mo_cV (n := 1) (As := [.int x2]) (rest := []) C A hml hl.1 (c_X7_hasDomain l D dA b0 v6 x2) (ci := 7) (q := (RX7, TX7, 9)) rfl (fun _ e => (mo_ckE e).1) (tb_v tb_179 tb_180 tb_181 tb_18 tb_182) rfl (by decide +kernel) ⟨Nat.le_trans (by decide) hfr, Nat.le_trans (Nat.le_of_ble_eq_true rfl) hlo⟩ rfl (Nat.le_of_ble_eq_true rfl) rfl dX10_slot_22 hF (fun v7 h H locs hF A => ?_)
        show W _ _ _ _ _ _ _ _ _ _ _ _ _ _ _ (F0 m 25 ls [.int v7])
        refine lv_if_ne (tgt := 30) hx hb dX10_slot_25 (by decide) (fun c8 => ?_) (fun c8 => ?_)
        · have hF := mo_ifF c8 hF
          refine lv_iload_n hx hb dX10_slot_30 rfl (lv_at hl 3 rfl) ?_
          refine lv_iconst (v := (1 : Int32)) hx hb dX10_slot_31 (by decide) ?_
          refine lv_icmp_lt (tgt := 58) hx hb dX10_slot_32 (by decide) (fun c9 => ?_) (fun c9 => ?_)
          · have hF := mo_ifT c9 hF
            refine lv_iconst (v := (-1 : Int32)) hx hb dX10_slot_58 (by decide) ?_
            rw [hQ]
            exact mo_iret C A hr hlocks dX10_slot_59 hF
          · have hF := mo_ifF c9 hF
            refine lv_iload_n hx hb dX10_slot_35 rfl (lv_at hl 3 rfl) ?_
            refine lv_bipush (v := (20 : Int32)) hx hb dX10_slot_36 (by decide) ?_
            refine lv_icmp_gt (tgt := 58) hx hb dX10_slot_38 (by decide) (fun c10 => ?_) (fun c10 => ?_)
            · have hF := mo_ifT c10 hF
              refine lv_iconst (v := (-1 : Int32)) hx hb dX10_slot_58 (by decide) ?_
              rw [hQ]
              exact mo_iret C A hr hlocks dX10_slot_59 hF
            · have hF := mo_ifF c10 hF
              refine lv_aload_n hx hb dX10_slot_41 rfl (lv_at hl 0 rfl) ?_
              refine mo_wR C A (T := TX10) iX10 rfl 0 (by decide) tb_26 rfl dX10_slot_42 hF (fun v11 hF => ?_)
              refine mo_wRN C A (T := TX7) iX7 rfl 7 (by decide) (List.mem_of_getElem? (i := 19) rfl) rfl dX10_slot_45 hF (fun v12 hF => ?_)
              refine lv_iload_n hx hb dX10_slot_48 rfl (lv_at hl 1 rfl) ?_
              refine mo_wlq C A (t := 2) (fun _ => rfl) dX10_slot_49 hF (fun v13 hF => ?_)
              refine mo_wIN C A (T := TX9) iX9 rfl 1 (by decide) (List.mem_of_getElem? (i := 1) rfl) rfl dX10_slot_50 hF (fun v14 hF => ?_)
              refine lv_bipush (v := (12 : Int32)) hx hb dX10_slot_53 (by decide) ?_
              refine lv_icmp_ne (tgt := 60) hx hb dX10_slot_55 (by decide) (fun c15 => ?_) (fun c15 => ?_)
              · have hF := mo_ifF c15 hF
                refine lv_aload_n hx hb dX10_slot_60 rfl (lv_at hl 0 rfl) ?_
                refine mo_wR C A (T := TX10) iX10 rfl 0 (by decide) tb_26 rfl dX10_slot_61 hF (fun v16 hF => ?_)
                refine mo_wRN C A (T := TX7) iX7 rfl 6 (by decide) (List.mem_of_getElem? (i := 17) rfl) rfl dX10_slot_64 hF (fun v17 hF => ?_)
                refine lv_iload_n hx hb dX10_slot_67 rfl (lv_at hl 1 rfl) ?_
                refine mo_wlq C A (t := 2) (fun _ => rfl) dX10_slot_68 hF (fun v18 hF => ?_)
                refine lv_iload_n hx hb dX10_slot_69 rfl (lv_at hl 2 rfl) ?_
                refine mo_cV (n := 1) (As := [.int x2]) (rest := []) C A hml hl.1 (c_X9_add l D dA b0 v18 x2) (ci := 9) (q := (RX9, TX9, 2)) rfl (fun _ e => (mo_ckE e).1) (tb_v tb_231 tb_232 tb_233 tb_46 tb_234) rfl (by decide +kernel) ⟨Nat.le_trans (by decide) hfr, Nat.le_trans (Nat.le_of_ble_eq_true rfl) hlo⟩ rfl (Nat.le_of_ble_eq_true rfl) rfl dX10_slot_70 hF (fun v19 h H locs hF A => ?_)
                show W _ _ _ _ _ _ _ _ _ _ _ _ _ _ _ (F0 m 73 ls [])
                refine lv_aload_n hx hb dX10_slot_73 rfl (lv_at hl 0 rfl) ?_
                refine mo_wR C A (T := TX10) iX10 rfl 0 (by decide) tb_26 rfl dX10_slot_74 hF (fun v20 hF => ?_)
                refine mo_wRN C A (T := TX7) iX7 rfl 7 (by decide) (List.mem_of_getElem? (i := 19) rfl) rfl dX10_slot_77 hF (fun v21 hF => ?_)
                refine lv_iload_n hx hb dX10_slot_80 rfl (lv_at hl 1 rfl) ?_
                refine mo_wlq C A (t := 2) (fun _ => rfl) dX10_slot_81 hF (fun v22 hF => ?_)
                refine lv_iload_n hx hb dX10_slot_82 rfl (lv_at hl 3 rfl) ?_
                refine mo_cV (n := 1) (As := [.int x3]) (rest := []) C A hml hl.1 (c_X9_add l D dA b0 v22 x3) (ci := 9) (q := (RX9, TX9, 2)) rfl (fun _ e => (mo_ckE e).1) (tb_v tb_231 tb_232 tb_233 tb_46 tb_234) rfl (by decide +kernel) ⟨Nat.le_trans (by decide) hfr, Nat.le_trans (Nat.le_of_ble_eq_true rfl) hlo⟩ rfl (Nat.le_of_ble_eq_true rfl) rfl dX10_slot_83 hF (fun v23 h H locs hF A => ?_)
                show W _ _ _ _ _ _ _ _ _ _ _ _ _ _ _ (F0 m 86 ls [])
                refine lv_aload_n hx hb dX10_slot_86 rfl (lv_at hl 0 rfl) ?_
                refine mo_wR C A (T := TX10) iX10 rfl 0 (by decide) tb_26 rfl dX10_slot_87 hF (fun v24 hF => ?_)
                refine mo_wRN C A (T := TX7) iX7 rfl 7 (by decide) (List.mem_of_getElem? (i := 19) rfl) rfl dX10_slot_90 hF (fun v25 hF => ?_)
                refine lv_iload_n hx hb dX10_slot_93 rfl (lv_at hl 1 rfl) ?_
                refine mo_wlq C A (t := 2) (fun _ => rfl) dX10_slot_94 hF (fun v26 hF => ?_)
                refine mo_wIN C A (T := TX9) iX9 rfl 1 (by decide) (List.mem_of_getElem? (i := 1) rfl) rfl dX10_slot_95 hF (fun v27 hF => ?_)
                rw [hQ]
                exact mo_iret C A hr hlocks dX10_slot_98 hF
              · have hF := mo_ifT c15 hF
                refine lv_iconst (v := (-1 : Int32)) hx hb dX10_slot_58 (by decide) ?_
                rw [hQ]
                exact mo_iret C A hr hlocks dX10_slot_59 hF
        · have hF := mo_ifT c8 hF
          refine lv_iconst (v := (-1 : Int32)) hx hb dX10_slot_28 (by decide) ?_
          rw [hQ]
          exact mo_iret C A hr hlocks dX10_slot_29 hF
  exact E h0 s.heap [] hF A
set_option maxHeartbeats 4000000 in
set_option maxRecDepth 100000 in
theorem c_X10_seal (l : Launch) (D : va_G) (dA : Nat → ClassId) (b0 : Nat) (x0 : Nat) : mo_Met l yX10_seal [Cond.code yX10_seal cX10_seal 1 (some .int)] 2 41 D dA b0 [.ref x0] (fun r : Int32 => some (.int r)) (F_X10_seal x0) := by
  refine mo_MetOf (own := RX10) (by decide) (Nat.le_of_ble_eq_true rfl) [(0, .ref x0)] rfl rfl ?_
  intro p e R s m args below meth c Q h0 h2 z ls hQ C hml hr hlocks hnm hfr hlo hF A hl
  have hx := C.1
  have hb := C.2.1
  have hown := C.2.2.1
  have hts := C.2.2.2.1
  have hK := C.2.2.2.2.1
  have iX5 := inlX5
  have iX7 := inlX7
  have iX9 := inlX9
  have iX10 := inlX10
  unfold F_X10_seal at hF
  obtain ⟨-, hF⟩ := mo_ckE hF
  have E : ∀ (h : mo_H) (H : Heap) (locs : List Loc), (mo_b (mo_gR x0 10 0) fun v1 => mo_b (mo_gI v1 7 8) fun v2 => (if v2 = 0 then mo_b (mo_gR x0 10 0) fun v4 => mo_b (mo_gR v4 7 7) fun v5 => mo_b (mo_lq 2 v5 (0 : Int32)) fun v6 => mo_b (mo_gI v6 9 1) fun v7 => (if v7 = 0 then mo_ret (-1 : Int32) else mo_b (mo_gR x0 10 0) fun v9 => mo_b (mo_pZ v9 7 8 (1 : Int32)) fun _ => mo_b (mo_gR x0 10 1) fun v11 => mo_b (mo_gR v11 5 3) fun v12 => mo_b (F_X2_start v12) fun v13 => mo_ret (1 : Int32)) else mo_ret (-1 : Int32))).1 h = some (z, h2) → mo_A D dA b0 s.heap h0 h H locs → W p l e R s m args below meth c H locs (h.2.1 - h0.2.1) (h.2.2 - h0.2.2) Q (F0 m 0 ls []) := by
    intro h H locs hF A
    refine lv_aload_n hx hb dX10_seal_0 rfl (lv_at hl 0 rfl) ?_
    refine mo_wR C A (T := TX10) iX10 rfl 0 (by decide) tb_26 rfl dX10_seal_1 hF (fun v1 hF => ?_)
    refine mo_wIN C A (T := TX7) iX7 rfl 8 (by decide) (List.mem_of_getElem? (i := 20) rfl) rfl dX10_seal_4 hF (fun v2 hF => ?_)
    refine lv_if_ne (tgt := 25) hx hb dX10_seal_7 (by decide) (fun c3 => ?_) (fun c3 => ?_)
    · have hF := mo_ifF c3 hF
      refine lv_iconst (v := (-1 : Int32)) hx hb dX10_seal_25 (by decide) ?_
      rw [hQ]
      exact mo_iret C A hr hlocks dX10_seal_26 hF
    · have hF := mo_ifT c3 hF
      refine lv_aload_n hx hb dX10_seal_10 rfl (lv_at hl 0 rfl) ?_
      refine mo_wR C A (T := TX10) iX10 rfl 0 (by decide) tb_26 rfl dX10_seal_11 hF (fun v4 hF => ?_)
      refine mo_wRN C A (T := TX7) iX7 rfl 7 (by decide) (List.mem_of_getElem? (i := 19) rfl) rfl dX10_seal_14 hF (fun v5 hF => ?_)
      refine lv_iconst (v := (0 : Int32)) hx hb dX10_seal_17 (by decide) ?_
      refine mo_wlq C A (t := 2) (fun _ => rfl) dX10_seal_18 hF (fun v6 hF => ?_)
      refine mo_wIN C A (T := TX9) iX9 rfl 1 (by decide) (List.mem_of_getElem? (i := 1) rfl) rfl dX10_seal_19 hF (fun v7 hF => ?_)
      refine lv_if_ne (tgt := 27) hx hb dX10_seal_22 (by decide) (fun c8 => ?_) (fun c8 => ?_)
      · have hF := mo_ifF c8 hF
        refine lv_aload_n hx hb dX10_seal_27 rfl (lv_at hl 0 rfl) ?_
        refine mo_wR C A (T := TX10) iX10 rfl 0 (by decide) tb_26 rfl dX10_seal_28 hF (fun v9 hF => ?_)
        refine lv_iconst (v := (1 : Int32)) hx hb dX10_seal_31 (by decide) ?_
        obtain ⟨z10, hF⟩ := mo_pZE hF
        refine mo_wpN C A (T := TX7) iX7 tyX7 tyX7_ok nmX7 rfl 8 (by decide) (List.mem_of_getElem? (i := 20) rfl) rfl rfl (by rcases z10 with h | h <;> rw [h] <;> rfl) (by rcases z10 with h | h <;> rw [h] <;> rfl) dX10_seal_32 hF (fun h H locs hF A => ?_)
        refine lv_aload_n hx hb dX10_seal_35 rfl (lv_at hl 0 rfl) ?_
        refine mo_wR C A (T := TX10) iX10 rfl 1 (by decide) tb_30 rfl dX10_seal_36 hF (fun v11 hF => ?_)
        refine mo_wRN C A (T := TX5) iX5 rfl 3 (by decide) (List.mem_of_getElem? (i := 57) rfl) rfl dX10_seal_39 hF (fun v12 hF => ?_)
        refine mo_cV (n := 0) (As := []) (rest := []) C A hml hl.1 (c_X2_start l D dA b0 v12) (ci := 2) (q := (RX2, TX2, 6)) rfl (fun _ e => (mo_ckE e).1) (tb_v tb_278 tb_279 tb_280 tb_72 tb_281) rfl (by decide +kernel) ⟨Nat.le_trans (by decide) hfr, Nat.le_trans (Nat.le_of_ble_eq_true rfl) hlo⟩ rfl (Nat.le_of_ble_eq_true rfl) rfl dX10_seal_42 hF (fun v13 h H locs hF A => ?_)
        show W _ _ _ _ _ _ _ _ _ _ _ _ _ _ _ (F0 m 45 ls [])
        refine lv_iconst (v := (1 : Int32)) hx hb dX10_seal_45 (by decide) ?_
        rw [hQ]
        exact mo_iret C A hr hlocks dX10_seal_46 hF
      · have hF := mo_ifT c8 hF
        refine lv_iconst (v := (-1 : Int32)) hx hb dX10_seal_25 (by decide) ?_
        rw [hQ]
        exact mo_iret C A hr hlocks dX10_seal_26 hF
  exact E h0 s.heap [] hF A
set_option maxHeartbeats 4000000 in
set_option maxRecDepth 100000 in
theorem c_X10_input (l : Launch) (D : va_G) (dA : Nat → ClassId) (b0 : Nat) (x0 : Nat) (x1 : Int32) (x2 : Int32) : mo_Met l yX10_input [Cond.code yX10_input cX10_input 4 (some .int)] 4 85 D dA b0 [.ref x0, .int x1, .int x2] (fun r : Int32 => some (.int r)) (F_X10_input x0 x1 x2) := by
  refine mo_MetOf (own := RX10) (by decide) (Nat.le_of_ble_eq_true rfl) [(0, .ref x0), (1, .int x1), (2, .int x2)] rfl rfl ?_
  intro p e R s m args below meth c Q h0 h2 z ls hQ C hml hr hlocks hnm hfr hlo hF A hl
  have hx := C.1
  have hb := C.2.1
  have hown := C.2.2.1
  have hts := C.2.2.2.1
  have hK := C.2.2.2.2.1
  have iX2 := inlX2
  have iX3 := inlX3
  have iX5 := inlX5
  have iX7 := inlX7
  have iX9 := inlX9
  have iX10 := inlX10
  unfold F_X10_input at hF
  obtain ⟨-, hF⟩ := mo_ckE hF
  have E : ∀ (h : mo_H) (H : Heap) (locs : List Loc), (mo_b (mo_gR x0 10 0) fun v1 => mo_b (mo_gI v1 7 8) fun v2 => (if v2 = 0 then mo_ret (-1 : Int32) else mo_b (mo_gR x0 10 0) fun v4 => mo_b (F_X7_hasDomain v4 x1) fun v5 => (if v5 = 0 then mo_ret (-1 : Int32) else mo_b (mo_gR x0 10 2) fun v7 => mo_b (F_X0_count v7) fun v8 => (if v8 = (3000 : Int32) then mo_ret (-1 : Int32) else mo_b (mo_gR x0 10 1) fun v10 => mo_b (mo_gR v10 5 1) fun v11 => mo_b (mo_lq 4 v11 x1) fun v12 => mo_b (mo_gR v12 3 2) fun v13 => mo_b (mo_gI v13 9 1) fun v14 => (if v14 = (8 : Int32) then mo_ret (-1 : Int32) else mo_b (mo_gR x0 10 2) fun v16 => mo_b (mo_gR x0 10 1) fun v17 => mo_b (mo_gR v17 5 3) fun v18 => mo_b (mo_gI v18 2 1) fun v19 => mo_b (F_X0_add v16 x1 (1 : Int32) v19 x2) fun v20 => mo_b (F_X9_add v13 x2) fun v21 => mo_b (mo_gI v13 9 1) fun v22 => mo_ret v22))))).1 h = some (z, h2) → mo_A D dA b0 s.heap h0 h H locs → W p l e R s m args below meth c H locs (h.2.1 - h0.2.1) (h.2.2 - h0.2.2) Q (F0 m 0 ls []) := by
    intro h H locs hF A
    refine lv_aload_n hx hb dX10_input_0 rfl (lv_at hl 0 rfl) ?_
    refine mo_wR C A (T := TX10) iX10 rfl 0 (by decide) tb_26 rfl dX10_input_1 hF (fun v1 hF => ?_)
    refine mo_wIN C A (T := TX7) iX7 rfl 8 (by decide) (List.mem_of_getElem? (i := 20) rfl) rfl dX10_input_4 hF (fun v2 hF => ?_)
    refine lv_if_eq (tgt := 34) hx hb dX10_input_7 (by decide) (fun c3 => ?_) (fun c3 => ?_)
    · have hF := mo_ifT c3 hF
      refine lv_iconst (v := (-1 : Int32)) hx hb dX10_input_34 (by decide) ?_
      rw [hQ]
      exact mo_iret C A hr hlocks dX10_input_35 hF
    · have hF := mo_ifF c3 hF
      refine lv_aload_n hx hb dX10_input_10 rfl (lv_at hl 0 rfl) ?_
      refine mo_wR C A (T := TX10) iX10 rfl 0 (by decide) tb_26 rfl dX10_input_11 hF (fun v4 hF => ?_)
      refine lv_iload_n hx hb dX10_input_14 rfl (lv_at hl 1 rfl) ?_
      refine mo_cV (n := 1) (As := [.int x1]) (rest := []) C A hml hl.1 (c_X7_hasDomain l D dA b0 v4 x1) (ci := 7) (q := (RX7, TX7, 9)) rfl (fun _ e => (mo_ckE e).1) (tb_v tb_179 tb_180 tb_181 tb_18 tb_182) rfl (by decide +kernel) ⟨Nat.le_trans (by decide) hfr, Nat.le_trans (Nat.le_of_ble_eq_true rfl) hlo⟩ rfl (Nat.le_of_ble_eq_true rfl) rfl dX10_input_15 hF (fun v5 h H locs hF A => ?_)
      show W _ _ _ _ _ _ _ _ _ _ _ _ _ _ _ (F0 m 18 ls [.int v5])
      refine lv_if_eq (tgt := 34) hx hb dX10_input_18 (by decide) (fun c6 => ?_) (fun c6 => ?_)
      · have hF := mo_ifT c6 hF
        refine lv_iconst (v := (-1 : Int32)) hx hb dX10_input_34 (by decide) ?_
        rw [hQ]
        exact mo_iret C A hr hlocks dX10_input_35 hF
      · have hF := mo_ifF c6 hF
        refine lv_aload_n hx hb dX10_input_21 rfl (lv_at hl 0 rfl) ?_
        refine mo_wR C A (T := TX10) iX10 rfl 2 (by decide) tb_34 rfl dX10_input_22 hF (fun v7 hF => ?_)
        refine mo_cV (n := 0) (As := []) (rest := []) C A hml hl.1 (c_X0_count l D dA b0 v7) (ci := 0) (q := (RX0, TX0, 4)) rfl (fun _ e => (mo_ckE e).1) (tb_v tb_303 tb_304 tb_305 tb_33 tb_306) rfl (by decide +kernel) ⟨Nat.le_trans (by decide) hfr, Nat.le_trans (Nat.le_of_ble_eq_true rfl) hlo⟩ rfl (Nat.le_of_ble_eq_true rfl) rfl dX10_input_25 hF (fun v8 h H locs hF A => ?_)
        show W _ _ _ _ _ _ _ _ _ _ _ _ _ _ _ (F0 m 28 ls [.int v8])
        refine lv_sipush (v := (3000 : Int32)) hx hb dX10_input_28 (by decide) ?_
        refine lv_icmp_ne (tgt := 36) hx hb dX10_input_31 (by decide) (fun c9 => ?_) (fun c9 => ?_)
        · have hF := mo_ifF c9 hF
          refine lv_aload_n hx hb dX10_input_36 rfl (lv_at hl 0 rfl) ?_
          refine mo_wR C A (T := TX10) iX10 rfl 1 (by decide) tb_30 rfl dX10_input_37 hF (fun v10 hF => ?_)
          refine mo_wRN C A (T := TX5) iX5 rfl 1 (by decide) (List.mem_of_getElem? (i := 55) rfl) rfl dX10_input_40 hF (fun v11 hF => ?_)
          refine lv_iload_n hx hb dX10_input_43 rfl (lv_at hl 1 rfl) ?_
          refine mo_wlq C A (t := 4) (fun _ => rfl) dX10_input_44 hF (fun v12 hF => ?_)
          refine mo_wRN C A (T := TX3) iX3 rfl 2 (by decide) (List.mem_of_getElem? (i := 23) rfl) rfl dX10_input_45 hF (fun v13 hF => ?_)
          refine lv_astore_n (lv' := [(3, .ref v13), (0, .ref x0), (1, .int x1), (2, .int x2)]) hx hb dX10_input_48 rfl hl (by decide) rfl (fun ls hl => ?_)
          refine lv_aload_n hx hb dX10_input_49 rfl (lv_at hl 0 rfl) ?_
          refine mo_wIN C A (T := TX9) iX9 rfl 1 (by decide) (List.mem_of_getElem? (i := 1) rfl) rfl dX10_input_50 hF (fun v14 hF => ?_)
          refine lv_bipush (v := (8 : Int32)) hx hb dX10_input_53 (by decide) ?_
          refine lv_icmp_ne (tgt := 60) hx hb dX10_input_55 (by decide) (fun c15 => ?_) (fun c15 => ?_)
          · have hF := mo_ifF c15 hF
            refine lv_aload_n hx hb dX10_input_60 rfl (lv_at hl 1 rfl) ?_
            refine mo_wR C A (T := TX10) iX10 rfl 2 (by decide) tb_34 rfl dX10_input_61 hF (fun v16 hF => ?_)
            refine lv_iload_n hx hb dX10_input_64 rfl (lv_at hl 2 rfl) ?_
            refine lv_iconst (v := (1 : Int32)) hx hb dX10_input_65 (by decide) ?_
            refine lv_aload_n hx hb dX10_input_66 rfl (lv_at hl 1 rfl) ?_
            refine mo_wR C A (T := TX10) iX10 rfl 1 (by decide) tb_30 rfl dX10_input_67 hF (fun v17 hF => ?_)
            refine mo_wRN C A (T := TX5) iX5 rfl 3 (by decide) (List.mem_of_getElem? (i := 57) rfl) rfl dX10_input_70 hF (fun v18 hF => ?_)
            refine mo_wIN C A (T := TX2) iX2 rfl 1 (by decide) (List.mem_of_getElem? (i := 47) rfl) rfl dX10_input_73 hF (fun v19 hF => ?_)
            refine lv_iload_n hx hb dX10_input_76 rfl (lv_at hl 3 rfl) ?_
            refine mo_cV (n := 4) (As := [.int x1, .int (1 : Int32), .int v19, .int x2]) (rest := []) C A hml hl.1 (c_X0_add l D dA b0 v16 x1 (1 : Int32) v19 x2) (ci := 0) (q := (RX0, TX0, 4)) rfl (fun _ e => (mo_ckE e).1) (tb_v tb_307 tb_308 tb_309 tb_33 tb_310) rfl (by decide +kernel) ⟨Nat.le_trans (by decide) hfr, Nat.le_trans (Nat.le_of_ble_eq_true rfl) hlo⟩ rfl (Nat.le_of_ble_eq_true rfl) rfl dX10_input_77 hF (fun v20 h H locs hF A => ?_)
            show W _ _ _ _ _ _ _ _ _ _ _ _ _ _ _ (F0 m 80 ls [])
            refine lv_aload_n hx hb dX10_input_80 rfl (lv_at hl 0 rfl) ?_
            refine lv_iload_n hx hb dX10_input_81 rfl (lv_at hl 3 rfl) ?_
            refine mo_cV (n := 1) (As := [.int x2]) (rest := []) C A hml hl.1 (c_X9_add l D dA b0 v13 x2) (ci := 9) (q := (RX9, TX9, 2)) rfl (fun _ e => (mo_ckE e).1) (tb_v tb_231 tb_232 tb_233 tb_46 tb_234) rfl (by decide +kernel) ⟨Nat.le_trans (by decide) hfr, Nat.le_trans (Nat.le_of_ble_eq_true rfl) hlo⟩ rfl (Nat.le_of_ble_eq_true rfl) rfl dX10_input_82 hF (fun v21 h H locs hF A => ?_)
            show W _ _ _ _ _ _ _ _ _ _ _ _ _ _ _ (F0 m 85 ls [])
            refine lv_aload_n hx hb dX10_input_85 rfl (lv_at hl 0 rfl) ?_
            refine mo_wIN C A (T := TX9) iX9 rfl 1 (by decide) (List.mem_of_getElem? (i := 1) rfl) rfl dX10_input_86 hF (fun v22 hF => ?_)
            rw [hQ]
            exact mo_iret C A hr hlocks dX10_input_89 hF
          · have hF := mo_ifT c15 hF
            refine lv_iconst (v := (-1 : Int32)) hx hb dX10_input_58 (by decide) ?_
            rw [hQ]
            exact mo_iret C A hr hlocks dX10_input_59 hF
        · have hF := mo_ifT c9 hF
          refine lv_iconst (v := (-1 : Int32)) hx hb dX10_input_34 (by decide) ?_
          rw [hQ]
          exact mo_iret C A hr hlocks dX10_input_35 hF
  exact E h0 s.heap [] hF A
set_option maxHeartbeats 4000000 in
set_option maxRecDepth 100000 in
theorem c_X10_tick (l : Launch) (D : va_G) (dA : Nat → ClassId) (b0 : Nat) (x0 : Nat) (x1 : Int32) : mo_Met l yX10_tick [Cond.code yX10_tick cX10_tick 5 (some .int)] 7 157 D dA b0 [.ref x0, .int x1] (fun r : Int32 => some (.int r)) (F_X10_tick x0 x1) := by
  refine mo_MetOf (own := RX10) (by decide) (Nat.le_of_ble_eq_true rfl) [(0, .ref x0), (1, .int x1)] rfl rfl ?_
  intro p e R s m args below meth c Q h0 h2 z ls hQ C hml hr hlocks hnm hfr hlo hF A hl
  have hx := C.1
  have hb := C.2.1
  have hown := C.2.2.1
  have hts := C.2.2.2.1
  have hK := C.2.2.2.2.1
  have iX2 := inlX2
  have iX5 := inlX5
  have iX7 := inlX7
  have iX10 := inlX10
  have J60 : ∀   (x2 : Int32) (h : mo_H) (H : Heap) (locs : List Loc) (ls : Array Slot), mo_A D dA b0 s.heap h0 h H locs → lv_has ls 5 [(2, .int x2)] → (F_X10_tick_60 x2).1 h = some (z, h2) → W p l e R s m args below meth c H locs (h.2.1 - h0.2.1) (h.2.2 - h0.2.2) Q (F0 m 60 ls []) := by
    intro  x2 h H locs ls A hl hF
    unfold F_X10_tick_60 at hF
    refine lv_goto (tgt := 129) hx hb dX10_tick_60 (by decide) ?_
    refine lv_iload_n hx hb dX10_tick_129 rfl (lv_at hl 0 rfl) ?_
    rw [hQ]
    exact mo_iret C A hr hlocks dX10_tick_130 hF
  have J123 : ∀ (k28 : Nat → Int32 → Int32 → Int32 → mo_M Int32) (hk28 : ∀ (x0 : Nat) (x1 : Int32) (x2 : Int32) (x3 : Int32) (h : mo_H) (H : Heap) (locs : List Loc) (ls : Array Slot), mo_A D dA b0 s.heap h0 h H locs → lv_has ls 5 [(0, .ref x0), (1, .int x1), (2, .int x2), (3, .int x3)] → (k28 x0 x1 x2 x3).1 h = some (z, h2) → W p l e R s m args below meth c H locs (h.2.1 - h0.2.1) (h.2.2 - h0.2.2) Q (F0 m 28 ls [])) (x0 : Nat) (x1 : Int32) (x2 : Int32) (x3 : Int32) (h : mo_H) (H : Heap) (locs : List Loc) (ls : Array Slot), mo_A D dA b0 s.heap h0 h H locs → lv_has ls 5 [(0, .ref x0), (1, .int x1), (2, .int x2), (3, .int x3)] → (F_X10_tick_123 k28 x0 x1 x2 x3).1 h = some (z, h2) → W p l e R s m args below meth c H locs (h.2.1 - h0.2.1) (h.2.2 - h0.2.2) Q (F0 m 123 ls []) := by
    intro k28 hk28 x0 x1 x2 x3 h H locs ls A hl hF
    unfold F_X10_tick_123 at hF
    refine lv_iinc (v := (x3 + (1 : Int32))) (lv' := [(3, .int (x3 + (1 : Int32))), (0, .ref x0), (1, .int x1), (2, .int x2)]) hx hb dX10_tick_123 hl (k := 3) rfl rfl (by decide) rfl (fun ls hl => ?_)
    refine lv_goto (tgt := 28) hx hb dX10_tick_126 (by decide) ?_
    exact hk28 x0 x1 x2 (x3 + (1 : Int32)) h H locs ls A (lv_sub hl [1, 2, 3, 0] rfl) hF
  have J63 : ∀ (k28 : Nat → Int32 → Int32 → Int32 → mo_M Int32) (hk28 : ∀ (x0 : Nat) (x1 : Int32) (x2 : Int32) (x3 : Int32) (h : mo_H) (H : Heap) (locs : List Loc) (ls : Array Slot), mo_A D dA b0 s.heap h0 h H locs → lv_has ls 5 [(0, .ref x0), (1, .int x1), (2, .int x2), (3, .int x3)] → (k28 x0 x1 x2 x3).1 h = some (z, h2) → W p l e R s m args below meth c H locs (h.2.1 - h0.2.1) (h.2.2 - h0.2.2) Q (F0 m 28 ls [])) (x0 : Nat) (x1 : Int32) (x2 : Int32) (x3 : Int32) (x4 : Int32) (h : mo_H) (H : Heap) (locs : List Loc) (ls : Array Slot), mo_A D dA b0 s.heap h0 h H locs → lv_has ls 5 [(0, .ref x0), (1, .int x1), (2, .int x2), (3, .int x3), (4, .int x4)] → (F_X10_tick_63 k28 x0 x1 x2 x3 x4).1 h = some (z, h2) → W p l e R s m args below meth c H locs (h.2.1 - h0.2.1) (h.2.2 - h0.2.2) Q (F0 m 63 ls []) := by
    intro k28 hk28 x0 x1 x2 x3 x4 h H locs ls A hl hF
    unfold F_X10_tick_63 at hF
    refine lv_iload hx hb dX10_tick_63 (lv_at hl 4 rfl) ?_
    refine lv_if_eq (tgt := 116) hx hb dX10_tick_65 (by decide) (fun c1 => ?_) (fun c1 => ?_)
    · have hF := mo_ifT c1 hF
      refine lv_aload_n hx hb dX10_tick_116 rfl (lv_at hl 0 rfl) ?_
      refine mo_wR C A (T := TX10) iX10 rfl 1 (by decide) tb_30 rfl dX10_tick_117 hF (fun v2 hF => ?_)
      refine mo_cV (n := 0) (As := []) (rest := []) C A hml hl.1 (c_X5_passIdle l D dA b0 v2) (ci := 5) (q := (RX5, TX5, 5)) rfl (fun _ e => (mo_ckE e).1) (tb_v tb_523 tb_524 tb_525 tb_29 tb_526) rfl (by decide +kernel) ⟨Nat.le_trans (by decide) hfr, Nat.le_trans (Nat.le_of_ble_eq_true rfl) hlo⟩ rfl (Nat.le_of_ble_eq_true rfl) rfl dX10_tick_120 hF (fun v3 h H locs hF A => ?_)
      show W _ _ _ _ _ _ _ _ _ _ _ _ _ _ _ (F0 m 123 ls [])
      exact J123 k28 hk28 x0 x1 x2 x3 h H locs ls A (lv_sub hl [0, 1, 2, 3] rfl) hF
    · have hF := mo_ifF c1 hF
      refine lv_aload_n hx hb dX10_tick_68 rfl (lv_at hl 0 rfl) ?_
      refine mo_wR C A (T := TX10) iX10 rfl 2 (by decide) tb_34 rfl dX10_tick_69 hF (fun v4 hF => ?_)
      refine lv_aload_n hx hb dX10_tick_72 rfl (lv_at hl 0 rfl) ?_
      refine mo_wR C A (T := TX10) iX10 rfl 1 (by decide) tb_30 rfl dX10_tick_73 hF (fun v5 hF => ?_)
      refine mo_wRN C A (T := TX5) iX5 rfl 3 (by decide) (List.mem_of_getElem? (i := 57) rfl) rfl dX10_tick_76 hF (fun v6 hF => ?_)
      refine mo_cV (n := 0) (As := []) (rest := [.ref v4]) C A hml hl.1 (c_X2_slotDomain l D dA b0 v6) (ci := 2) (q := (RX2, TX2, 6)) rfl (fun _ e => (mo_ckE e).1) (tb_v tb_342 tb_339 tb_340 tb_72 tb_341) rfl (by decide +kernel) ⟨Nat.le_trans (by decide) hfr, Nat.le_trans (Nat.le_of_ble_eq_true rfl) hlo⟩ rfl (Nat.le_of_ble_eq_true rfl) rfl dX10_tick_79 hF (fun v7 h H locs hF A => ?_)
      show W _ _ _ _ _ _ _ _ _ _ _ _ _ _ _ (F0 m 82 ls [.int v7, .ref v4])
      refine lv_iconst (v := (0 : Int32)) hx hb dX10_tick_82 (by decide) ?_
      refine lv_aload_n hx hb dX10_tick_83 rfl (lv_at hl 0 rfl) ?_
      refine mo_wR C A (T := TX10) iX10 rfl 1 (by decide) tb_30 rfl dX10_tick_84 hF (fun v8 hF => ?_)
      refine mo_wRN C A (T := TX5) iX5 rfl 3 (by decide) (List.mem_of_getElem? (i := 57) rfl) rfl dX10_tick_87 hF (fun v9 hF => ?_)
      refine mo_wIN C A (T := TX2) iX2 rfl 1 (by decide) (List.mem_of_getElem? (i := 47) rfl) rfl dX10_tick_90 hF (fun v10 hF => ?_)
      refine lv_aload_n hx hb dX10_tick_93 rfl (lv_at hl 0 rfl) ?_
      refine mo_wR C A (T := TX10) iX10 rfl 1 (by decide) tb_30 rfl dX10_tick_94 hF (fun v11 hF => ?_)
      refine mo_cV (n := 0) (As := []) (rest := [.int v10, .int (0 : Int32), .int v7, .ref v4]) C A hml hl.1 (c_X5_dueInstruction l D dA b0 v11) (ci := 5) (q := (RX5, TX5, 5)) rfl (fun _ e => (mo_ckE e).1) (tb_v tb_343 tb_344 tb_345 tb_29 tb_346) rfl (by decide +kernel) ⟨Nat.le_trans (by decide) hfr, Nat.le_trans (Nat.le_of_ble_eq_true rfl) hlo⟩ rfl (Nat.le_of_ble_eq_true rfl) rfl dX10_tick_97 hF (fun v12 h H locs hF A => ?_)
      show W _ _ _ _ _ _ _ _ _ _ _ _ _ _ _ (F0 m 100 ls [.int v12, .int v10, .int (0 : Int32), .int v7, .ref v4])
      refine mo_cV (n := 4) (As := [.int v7, .int (0 : Int32), .int v10, .int v12]) (rest := []) C A hml hl.1 (c_X0_add l D dA b0 v4 v7 (0 : Int32) v10 v12) (ci := 0) (q := (RX0, TX0, 4)) rfl (fun _ e => (mo_ckE e).1) (tb_v tb_307 tb_308 tb_309 tb_33 tb_310) rfl (by decide +kernel) ⟨Nat.le_trans (by decide) hfr, Nat.le_trans (Nat.le_of_ble_eq_true rfl) hlo⟩ rfl (Nat.le_of_ble_eq_true rfl) rfl dX10_tick_100 hF (fun v13 h H locs hF A => ?_)
      show W _ _ _ _ _ _ _ _ _ _ _ _ _ _ _ (F0 m 103 ls [])
      refine lv_aload_n hx hb dX10_tick_103 rfl (lv_at hl 0 rfl) ?_
      refine mo_wR C A (T := TX10) iX10 rfl 1 (by decide) tb_30 rfl dX10_tick_104 hF (fun v14 hF => ?_)
      refine mo_cV (n := 0) (As := []) (rest := []) C A hml hl.1 (c_X5_passWithStep l D dA b0 v14) (ci := 5) (q := (RX5, TX5, 5)) rfl (fun _ e => (mo_ckE e).1) (tb_v tb_348 tb_349 tb_350 tb_29 tb_351) rfl (by decide +kernel) ⟨Nat.le_trans (by decide) hfr, Nat.le_trans (Nat.le_of_ble_eq_true rfl) hlo⟩ rfl (Nat.le_of_ble_eq_true rfl) rfl dX10_tick_107 hF (fun v15 h H locs hF A => ?_)
      show W _ _ _ _ _ _ _ _ _ _ _ _ _ _ _ (F0 m 110 ls [])
      refine lv_iinc (v := (x2 + (1 : Int32))) (lv' := [(2, .int (x2 + (1 : Int32))), (0, .ref x0), (1, .int x1), (3, .int x3), (4, .int x4)]) hx hb dX10_tick_110 hl (k := 2) rfl rfl (by decide) rfl (fun ls hl => ?_)
      refine lv_goto (tgt := 123) hx hb dX10_tick_113 (by decide) ?_
      exact J123 k28 hk28 x0 x1 (x2 + (1 : Int32)) x3 h H locs ls A (lv_sub hl [1, 2, 0, 3] rfl) hF
  have J28 : ∀   (fu : Nat) (x0 : Nat) (x1 : Int32) (x2 : Int32) (x3 : Int32) (h : mo_H) (H : Heap) (locs : List Loc) (ls : Array Slot), mo_A D dA b0 s.heap h0 h H locs → lv_has ls 5 [(0, .ref x0), (1, .int x1), (2, .int x2), (3, .int x3)] → (F_X10_tick_28 fu x0 x1 x2 x3).1 h = some (z, h2) → W p l e R s m args below meth c H locs (h.2.1 - h0.2.1) (h.2.2 - h0.2.2) Q (F0 m 28 ls []) := by
    intro  fu
    induction fu with
    | zero =>
      intro x0 x1 x2 x3 h H locs ls A hl hF
      unfold F_X10_tick_28 at hF
      cases hF
    | succ fu ih =>
      intro x0 x1 x2 x3 h H locs ls A hl hF
      unfold F_X10_tick_28 at hF
      refine lv_iload_n hx hb dX10_tick_28 rfl (lv_at hl 3 rfl) ?_
      refine lv_iload_n hx hb dX10_tick_29 rfl (lv_at hl 1 rfl) ?_
      refine lv_icmp_ge (tgt := 129) hx hb dX10_tick_30 (by decide) (fun c16 => ?_) (fun c16 => ?_)
      · have hF := mo_ifT c16 hF
        refine lv_iload_n hx hb dX10_tick_129 rfl (lv_at hl 2 rfl) ?_
        rw [hQ]
        exact mo_iret C A hr hlocks dX10_tick_130 hF
      · have hF := mo_ifF c16 hF
        refine lv_aload_n hx hb dX10_tick_33 rfl (lv_at hl 0 rfl) ?_
        refine mo_wR C A (T := TX10) iX10 rfl 1 (by decide) tb_30 rfl dX10_tick_34 hF (fun v17 hF => ?_)
        refine mo_cV (n := 0) (As := []) (rest := []) C A hml hl.1 (c_X5_stepIsDue l D dA b0 v17) (ci := 5) (q := (RX5, TX5, 5)) rfl (fun _ e => (mo_ckE e).1) (tb_v tb_329 tb_330 tb_331 tb_29 tb_332) rfl (by decide +kernel) ⟨Nat.le_trans (by decide) hfr, Nat.le_trans (Nat.le_of_ble_eq_true rfl) hlo⟩ rfl (Nat.le_of_ble_eq_true rfl) rfl dX10_tick_37 hF (fun v18 h H locs hF A => ?_)
        show W _ _ _ _ _ _ _ _ _ _ _ _ _ _ _ (F0 m 40 ls [.int v18])
        refine lv_istore (lv' := [(4, .int v18), (0, .ref x0), (1, .int x1), (2, .int x2), (3, .int x3)]) hx hb dX10_tick_40 hl (by decide) rfl (fun ls hl => ?_)
        refine lv_iload hx hb dX10_tick_42 (lv_at hl 0 rfl) ?_
        refine lv_if_eq (tgt := 63) hx hb dX10_tick_44 (by decide) (fun c19 => ?_) (fun c19 => ?_)
        · have hF := mo_ifT c19 hF
          exact J63 (F_X10_tick_28  fu) ih x0 x1 x2 x3 v18 h H locs ls A (lv_sub hl [1, 2, 3, 4, 0] rfl) hF
        · have hF := mo_ifF c19 hF
          refine lv_aload_n hx hb dX10_tick_47 rfl (lv_at hl 1 rfl) ?_
          refine mo_wR C A (T := TX10) iX10 rfl 2 (by decide) tb_34 rfl dX10_tick_48 hF (fun v20 hF => ?_)
          refine mo_cV (n := 0) (As := []) (rest := []) C A hml hl.1 (c_X0_count l D dA b0 v20) (ci := 0) (q := (RX0, TX0, 4)) rfl (fun _ e => (mo_ckE e).1) (tb_v tb_303 tb_304 tb_305 tb_33 tb_306) rfl (by decide +kernel) ⟨Nat.le_trans (by decide) hfr, Nat.le_trans (Nat.le_of_ble_eq_true rfl) hlo⟩ rfl (Nat.le_of_ble_eq_true rfl) rfl dX10_tick_51 hF (fun v21 h H locs hF A => ?_)
          show W _ _ _ _ _ _ _ _ _ _ _ _ _ _ _ (F0 m 54 ls [.int v21])
          refine lv_sipush (v := (3000 : Int32)) hx hb dX10_tick_54 (by decide) ?_
          refine lv_icmp_ne (tgt := 63) hx hb dX10_tick_57 (by decide) (fun c22 => ?_) (fun c22 => ?_)
          · have hF := mo_ifF c22 hF
            exact J63 (F_X10_tick_28  fu) ih x0 x1 x2 x3 v18 h H locs ls A (lv_sub hl [1, 2, 3, 4, 0] rfl) hF
          · have hF := mo_ifT c22 hF
            exact J60 x2 h H locs ls A (lv_sub hl [3] rfl) hF
  unfold F_X10_tick at hF
  obtain ⟨-, hF⟩ := mo_ckE hF
  have E : ∀ (h : mo_H) (H : Heap) (locs : List Loc), (mo_b (mo_gR x0 10 0) fun v23 => mo_b (mo_gI v23 7 8) fun v24 => (if v24 = 0 then mo_ret (-1 : Int32) else (if x1 < (1 : Int32) then mo_ret (-1 : Int32) else (if x1 ≤ (200 : Int32) then F_X10_tick_28 mo_fu x0 x1 (0 : Int32) (0 : Int32) else mo_ret (-1 : Int32))))).1 h = some (z, h2) → mo_A D dA b0 s.heap h0 h H locs → W p l e R s m args below meth c H locs (h.2.1 - h0.2.1) (h.2.2 - h0.2.2) Q (F0 m 0 ls []) := by
    intro h H locs hF A
    refine lv_aload_n hx hb dX10_tick_0 rfl (lv_at hl 0 rfl) ?_
    refine mo_wR C A (T := TX10) iX10 rfl 0 (by decide) tb_26 rfl dX10_tick_1 hF (fun v23 hF => ?_)
    refine mo_wIN C A (T := TX7) iX7 rfl 8 (by decide) (List.mem_of_getElem? (i := 20) rfl) rfl dX10_tick_4 hF (fun v24 hF => ?_)
    refine lv_if_eq (tgt := 22) hx hb dX10_tick_7 (by decide) (fun c25 => ?_) (fun c25 => ?_)
    · have hF := mo_ifT c25 hF
      refine lv_iconst (v := (-1 : Int32)) hx hb dX10_tick_22 (by decide) ?_
      rw [hQ]
      exact mo_iret C A hr hlocks dX10_tick_23 hF
    · have hF := mo_ifF c25 hF
      refine lv_iload_n hx hb dX10_tick_10 rfl (lv_at hl 1 rfl) ?_
      refine lv_iconst (v := (1 : Int32)) hx hb dX10_tick_11 (by decide) ?_
      refine lv_icmp_lt (tgt := 22) hx hb dX10_tick_12 (by decide) (fun c26 => ?_) (fun c26 => ?_)
      · have hF := mo_ifT c26 hF
        refine lv_iconst (v := (-1 : Int32)) hx hb dX10_tick_22 (by decide) ?_
        rw [hQ]
        exact mo_iret C A hr hlocks dX10_tick_23 hF
      · have hF := mo_ifF c26 hF
        refine lv_iload_n hx hb dX10_tick_15 rfl (lv_at hl 1 rfl) ?_
        refine lv_sipush (v := (200 : Int32)) hx hb dX10_tick_16 (by decide) ?_
        refine lv_icmp_le (tgt := 24) hx hb dX10_tick_19 (by decide) (fun c27 => ?_) (fun c27 => ?_)
        · have hF := mo_ifT c27 hF
          refine lv_iconst (v := (0 : Int32)) hx hb dX10_tick_24 (by decide) ?_
          refine lv_istore_n (lv' := [(2, .int (0 : Int32)), (0, .ref x0), (1, .int x1)]) hx hb dX10_tick_25 rfl hl (by decide) rfl (fun ls hl => ?_)
          refine lv_iconst (v := (0 : Int32)) hx hb dX10_tick_26 (by decide) ?_
          refine lv_istore_n (lv' := [(3, .int (0 : Int32)), (2, .int (0 : Int32)), (0, .ref x0), (1, .int x1)]) hx hb dX10_tick_27 rfl hl (by decide) rfl (fun ls hl => ?_)
          exact J28 mo_fu x0 x1 (0 : Int32) (0 : Int32) h H locs ls A (lv_sub hl [2, 3, 1, 0] rfl) hF
        · have hF := mo_ifF c27 hF
          refine lv_iconst (v := (-1 : Int32)) hx hb dX10_tick_22 (by decide) ?_
          rw [hQ]
          exact mo_iret C A hr hlocks dX10_tick_23 hF
  exact E h0 s.heap [] hF A
