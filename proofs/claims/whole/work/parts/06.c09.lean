set_option maxHeartbeats 4000000 in
set_option maxRecDepth 100000 in
theorem c_X11_flow (l : Launch) (D : va_G) (dA : Nat → ClassId) (b0 : Nat) (x0 : Nat) (x1 : Int32) (x2 : Int32) (x3 : Int32) : mo_Met l yX11_flow [Cond.code yX11_flow cX11_flow 5 (some .boolean)] 1 21 D dA b0 [.ref x0, .int x1, .int x2, .int x3] (fun r : Int32 => some (.int r)) (F_X11_flow x0 x1 x2 x3) := by
  refine mo_MetOf (own := RX11) (by decide) (Nat.le_of_ble_eq_true rfl) [(0, .ref x0), (1, .int x1), (2, .int x2), (3, .int x3)] rfl rfl ?_
  intro p e R s m args below meth c Q h0 h2 z ls hQ C hml hr hlocks hnm hfr hlo hF A hl
  have hx := C.1
  have hb := C.2.1
  have hown := C.2.2.1
  have hts := C.2.2.2.1
  have hK := C.2.2.2.2.1
  have iX11 := inlX11
  have J70 : ∀ (k33 : Nat → Int32 → Int32 → Int32 → Int32 → mo_M Int32) (hk33 : ∀ (x0 : Nat) (x1 : Int32) (x2 : Int32) (x3 : Int32) (x4 : Int32) (h : mo_H) (H : Heap) (locs : List Loc) (ls : Array Slot), mo_A D dA b0 s.heap h0 h H locs → lv_has ls 5 [(0, .ref x0), (1, .int x1), (2, .int x2), (3, .int x3), (4, .int x4)] → (k33 x0 x1 x2 x3 x4).1 h = some (z, h2) → W p l e R s m args below meth c H locs (h.2.1 - h0.2.1) (h.2.2 - h0.2.2) Q (F0 m 33 ls [])) (x0 : Nat) (x1 : Int32) (x2 : Int32) (x3 : Int32) (x4 : Int32) (h : mo_H) (H : Heap) (locs : List Loc) (ls : Array Slot), mo_A D dA b0 s.heap h0 h H locs → lv_has ls 5 [(0, .ref x0), (1, .int x1), (2, .int x2), (3, .int x3), (4, .int x4)] → (F_X11_flow_70 k33 x0 x1 x2 x3 x4).1 h = some (z, h2) → W p l e R s m args below meth c H locs (h.2.1 - h0.2.1) (h.2.2 - h0.2.2) Q (F0 m 70 ls []) := by
    intro k33 hk33 x0 x1 x2 x3 x4 h H locs ls A hl hF
    unfold F_X11_flow_70 at hF
    refine lv_iinc (v := (x4 + (1 : Int32))) (lv' := [(4, .int (x4 + (1 : Int32))), (0, .ref x0), (1, .int x1), (2, .int x2), (3, .int x3)]) hx hb dX11_flow_70 hl (k := 4) rfl rfl (by decide) rfl (fun ls hl => ?_)
    refine lv_goto (tgt := 33) hx hb dX11_flow_73 (by decide) ?_
    exact hk33 x0 x1 x2 x3 (x4 + (1 : Int32)) h H locs ls A (lv_sub hl [1, 2, 3, 4, 0] rfl) hF
  have J76 : ∀   (x0 : Nat) (x1 : Int32) (x2 : Int32) (x3 : Int32) (h : mo_H) (H : Heap) (locs : List Loc) (ls : Array Slot), mo_A D dA b0 s.heap h0 h H locs → lv_has ls 5 [(0, .ref x0), (1, .int x1), (2, .int x2), (3, .int x3)] → (F_X11_flow_76 x0 x1 x2 x3).1 h = some (z, h2) → W p l e R s m args below meth c H locs (h.2.1 - h0.2.1) (h.2.2 - h0.2.2) Q (F0 m 76 ls []) := by
    intro  x0 x1 x2 x3 h H locs ls A hl hF
    unfold F_X11_flow_76 at hF
    refine lv_aload_n hx hb dX11_flow_76 rfl (lv_at hl 0 rfl) ?_
    refine mo_wR C A (T := TX11) iX11 rfl 1 (by decide) tb_121 rfl dX11_flow_77 hF (fun v1 hF => ?_)
    refine lv_bipush (v := (6 : Int32)) hx hb dX11_flow_80 (by decide) ?_
    refine lv_iload_n hx hb dX11_flow_82 rfl (lv_at hl 1 rfl) ?_
    refine lv_imul hx hb dX11_flow_83 ?_
    refine lv_iload_n hx hb dX11_flow_84 rfl (lv_at hl 2 rfl) ?_
    refine lv_iadd hx hb dX11_flow_85 ?_
    refine lv_iload_n hx hb dX11_flow_86 rfl (lv_at hl 3 rfl) ?_
    refine mo_wsz C A dX11_flow_87 hF (fun h H locs hF A => ?_)
    refine lv_iconst (v := (1 : Int32)) hx hb dX11_flow_88 (by decide) ?_
    rw [hQ]
    exact mo_zret C A hr hlocks dX11_flow_89 hF
  have J33 : ∀   (fu : Nat) (x0 : Nat) (x1 : Int32) (x2 : Int32) (x3 : Int32) (x4 : Int32) (h : mo_H) (H : Heap) (locs : List Loc) (ls : Array Slot), mo_A D dA b0 s.heap h0 h H locs → lv_has ls 5 [(0, .ref x0), (1, .int x1), (2, .int x2), (3, .int x3), (4, .int x4)] → (F_X11_flow_33 fu x0 x1 x2 x3 x4).1 h = some (z, h2) → W p l e R s m args below meth c H locs (h.2.1 - h0.2.1) (h.2.2 - h0.2.2) Q (F0 m 33 ls []) := by
    intro  fu
    induction fu with
    | zero =>
      intro x0 x1 x2 x3 x4 h H locs ls A hl hF
      unfold F_X11_flow_33 at hF
      cases hF
    | succ fu ih =>
      intro x0 x1 x2 x3 x4 h H locs ls A hl hF
      unfold F_X11_flow_33 at hF
      refine lv_iload hx hb dX11_flow_33 (lv_at hl 4 rfl) ?_
      refine lv_aload_n hx hb dX11_flow_35 rfl (lv_at hl 0 rfl) ?_
      refine mo_wI C A (T := TX11) iX11 rfl 2 (by decide) tb_197 rfl dX11_flow_36 hF (fun v2 hF => ?_)
      refine lv_icmp_ge (tgt := 76) hx hb dX11_flow_39 (by decide) (fun c3 => ?_) (fun c3 => ?_)
      · have hF := mo_ifT c3 hF
        exact J76 x0 x1 x2 x3 h H locs ls A (lv_sub hl [0, 1, 2, 3] rfl) hF
      · have hF := mo_ifF c3 hF
        refine lv_iload_n hx hb dX11_flow_42 rfl (lv_at hl 3 rfl) ?_
        refine lv_if_ne (tgt := 70) hx hb dX11_flow_43 (by decide) (fun c4 => ?_) (fun c4 => ?_)
        · have hF := mo_ifF c4 hF
          exact J70 (F_X11_flow_33  fu) ih x0 x1 x2 x3 x4 h H locs ls A (lv_sub hl [0, 1, 2, 3, 4] rfl) hF
        · have hF := mo_ifT c4 hF
          refine lv_aload_n hx hb dX11_flow_46 rfl (lv_at hl 0 rfl) ?_
          refine mo_wR C A (T := TX11) iX11 rfl 3 (by decide) tb_122 rfl dX11_flow_47 hF (fun v5 hF => ?_)
          refine lv_iload hx hb dX11_flow_50 (lv_at hl 4 rfl) ?_
          refine mo_wla C A dX11_flow_52 hF (fun v6 hF => ?_)
          refine lv_iload_n hx hb dX11_flow_53 rfl (lv_at hl 1 rfl) ?_
          refine lv_icmp_ne (tgt := 70) hx hb dX11_flow_54 (by decide) (fun c7 => ?_) (fun c7 => ?_)
          · have hF := mo_ifF c7 hF
            exact J70 (F_X11_flow_33  fu) ih x0 x1 x2 x3 x4 h H locs ls A (lv_sub hl [0, 1, 2, 3, 4] rfl) hF
          · have hF := mo_ifT c7 hF
            refine lv_aload_n hx hb dX11_flow_57 rfl (lv_at hl 0 rfl) ?_
            refine mo_wR C A (T := TX11) iX11 rfl 4 (by decide) tb_123 rfl dX11_flow_58 hF (fun v8 hF => ?_)
            refine lv_iload hx hb dX11_flow_61 (lv_at hl 4 rfl) ?_
            refine mo_wla C A dX11_flow_63 hF (fun v9 hF => ?_)
            refine lv_iload_n hx hb dX11_flow_64 rfl (lv_at hl 2 rfl) ?_
            refine lv_icmp_ne (tgt := 70) hx hb dX11_flow_65 (by decide) (fun c10 => ?_) (fun c10 => ?_)
            · have hF := mo_ifF c10 hF
              exact J70 (F_X11_flow_33  fu) ih x0 x1 x2 x3 x4 h H locs ls A (lv_sub hl [0, 1, 2, 3, 4] rfl) hF
            · have hF := mo_ifT c10 hF
              refine lv_iconst (v := (0 : Int32)) hx hb dX11_flow_68 (by decide) ?_
              rw [hQ]
              exact mo_zret C A hr hlocks dX11_flow_69 hF
  unfold F_X11_flow at hF
  obtain ⟨-, hF⟩ := mo_ckE hF
  have E : ∀ (h : mo_H) (H : Heap) (locs : List Loc), (mo_b (F_X11_isDomain x0 x1) fun v11 => (if v11 = 0 then mo_rz (0 : Int32) else mo_b (F_X11_isDomain x0 x2) fun v13 => (if v13 = 0 then mo_rz (0 : Int32) else (if x1 = x2 then mo_rz (0 : Int32) else mo_b (mo_gI x0 11 13) fun v16 => (if v16 = 0 then F_X11_flow_33 mo_fu x0 x1 x2 x3 (0 : Int32) else mo_rz (0 : Int32)))))).1 h = some (z, h2) → mo_A D dA b0 s.heap h0 h H locs → W p l e R s m args below meth c H locs (h.2.1 - h0.2.1) (h.2.2 - h0.2.2) Q (F0 m 0 ls []) := by
    intro h H locs hF A
    refine lv_aload_n hx hb dX11_flow_0 rfl (lv_at hl 0 rfl) ?_
    refine lv_iload_n hx hb dX11_flow_1 rfl (lv_at hl 1 rfl) ?_
    refine mo_cV (n := 1) (As := [.int x1]) (rest := []) C A hml hl.1 (c_X11_isDomain l D dA b0 x0 x1) (ci := 11) (q := (RX11, TX11, 56)) rfl (fun _ e => (mo_ckE e).1) (tb_v tb_198 tb_199 tb_200 tb_5 tb_201) rfl (by decide +kernel) ⟨Nat.le_trans (by decide) hfr, Nat.le_trans (Nat.le_of_ble_eq_true rfl) hlo⟩ rfl (Nat.le_of_ble_eq_true rfl) rfl dX11_flow_2 hF (fun v11 h H locs hF A => ?_)
    show W _ _ _ _ _ _ _ _ _ _ _ _ _ _ _ (F0 m 5 ls [.int v11])
    refine lv_if_eq (tgt := 28) hx hb dX11_flow_5 (by decide) (fun c12 => ?_) (fun c12 => ?_)
    · have hF := mo_ifT c12 hF
      refine lv_iconst (v := (0 : Int32)) hx hb dX11_flow_28 (by decide) ?_
      rw [hQ]
      exact mo_zret C A hr hlocks dX11_flow_29 hF
    · have hF := mo_ifF c12 hF
      refine lv_aload_n hx hb dX11_flow_8 rfl (lv_at hl 0 rfl) ?_
      refine lv_iload_n hx hb dX11_flow_9 rfl (lv_at hl 2 rfl) ?_
      refine mo_cV (n := 1) (As := [.int x2]) (rest := []) C A hml hl.1 (c_X11_isDomain l D dA b0 x0 x2) (ci := 11) (q := (RX11, TX11, 56)) rfl (fun _ e => (mo_ckE e).1) (tb_v tb_198 tb_199 tb_200 tb_5 tb_201) rfl (by decide +kernel) ⟨Nat.le_trans (by decide) hfr, Nat.le_trans (Nat.le_of_ble_eq_true rfl) hlo⟩ rfl (Nat.le_of_ble_eq_true rfl) rfl dX11_flow_10 hF (fun v13 h H locs hF A => ?_)
      show W _ _ _ _ _ _ _ _ _ _ _ _ _ _ _ (F0 m 13 ls [.int v13])
      refine lv_if_eq (tgt := 28) hx hb dX11_flow_13 (by decide) (fun c14 => ?_) (fun c14 => ?_)
      · have hF := mo_ifT c14 hF
        refine lv_iconst (v := (0 : Int32)) hx hb dX11_flow_28 (by decide) ?_
        rw [hQ]
        exact mo_zret C A hr hlocks dX11_flow_29 hF
      · have hF := mo_ifF c14 hF
        refine lv_iload_n hx hb dX11_flow_16 rfl (lv_at hl 1 rfl) ?_
        refine lv_iload_n hx hb dX11_flow_17 rfl (lv_at hl 2 rfl) ?_
        refine lv_icmp_eq (tgt := 28) hx hb dX11_flow_18 (by decide) (fun c15 => ?_) (fun c15 => ?_)
        · have hF := mo_ifT c15 hF
          refine lv_iconst (v := (0 : Int32)) hx hb dX11_flow_28 (by decide) ?_
          rw [hQ]
          exact mo_zret C A hr hlocks dX11_flow_29 hF
        · have hF := mo_ifF c15 hF
          refine lv_aload_n hx hb dX11_flow_21 rfl (lv_at hl 0 rfl) ?_
          refine mo_wI C A (T := TX11) iX11 rfl 13 (by decide) tb_196 rfl dX11_flow_22 hF (fun v16 hF => ?_)
          refine lv_if_eq (tgt := 30) hx hb dX11_flow_25 (by decide) (fun c17 => ?_) (fun c17 => ?_)
          · have hF := mo_ifT c17 hF
            refine lv_iconst (v := (0 : Int32)) hx hb dX11_flow_30 (by decide) ?_
            refine lv_istore (lv' := [(4, .int (0 : Int32)), (0, .ref x0), (1, .int x1), (2, .int x2), (3, .int x3)]) hx hb dX11_flow_31 hl (by decide) rfl (fun ls hl => ?_)
            exact J33 mo_fu x0 x1 x2 x3 (0 : Int32) h H locs ls A (lv_sub hl [1, 2, 3, 4, 0] rfl) hF
          · have hF := mo_ifF c17 hF
            refine lv_iconst (v := (0 : Int32)) hx hb dX11_flow_28 (by decide) ?_
            rw [hQ]
            exact mo_zret C A hr hlocks dX11_flow_29 hF
  exact E h0 s.heap [] hF A
set_option maxHeartbeats 4000000 in
set_option maxRecDepth 100000 in
theorem c_X11_channel (l : Launch) (D : va_G) (dA : Nat → ClassId) (b0 : Nat) (x0 : Nat) (x1 : Int32) (x2 : Int32) (x3 : Int32) (x4 : Int32) : mo_Met l yX11_channel [Cond.code yX11_channel cX11_channel 5 (some .int)] 1 21 D dA b0 [.ref x0, .int x1, .int x2, .int x3, .int x4] (fun r : Int32 => some (.int r)) (F_X11_channel x0 x1 x2 x3 x4) := by
  refine mo_MetOf (own := RX11) (by decide) (Nat.le_of_ble_eq_true rfl) [(0, .ref x0), (1, .int x1), (2, .int x2), (3, .int x3), (4, .int x4)] rfl rfl ?_
  intro p e R s m args below meth c Q h0 h2 z ls hQ C hml hr hlocks hnm hfr hlo hF A hl
  have hx := C.1
  have hb := C.2.1
  have hown := C.2.2.1
  have hts := C.2.2.2.1
  have hK := C.2.2.2.2.1
  have iX11 := inlX11
  unfold F_X11_channel at hF
  obtain ⟨-, hF⟩ := mo_ckE hF
  have E : ∀ (h : mo_H) (H : Heap) (locs : List Loc), (mo_b (F_X11_isDomain x0 x1) fun v1 => (if v1 = 0 then mo_ret (-1 : Int32) else mo_b (F_X11_isDomain x0 x2) fun v3 => (if v3 = 0 then mo_ret (-1 : Int32) else (if x1 = x2 then mo_ret (-1 : Int32) else mo_b (mo_gR x0 11 1) fun v6 => mo_b (mo_la 1 v6 (((6 : Int32) * x1) + x2)) fun v7 => (if v7 = 0 then mo_ret (-1 : Int32) else (if x4 < (1 : Int32) then mo_ret (-1 : Int32) else (if (4 : Int32) < x4 then mo_ret (-1 : Int32) else mo_b (mo_gI x0 11 2) fun v11 => (if v11 = (12 : Int32) then mo_ret (-1 : Int32) else mo_b (mo_gI x0 11 13) fun v13 => (if v13 = 0 then mo_b (mo_gR x0 11 3) fun v15 => mo_b (mo_gI x0 11 2) fun v16 => mo_b (mo_sa 0 v15 v16 x1) fun _ => mo_b (mo_gR x0 11 4) fun v17 => mo_b (mo_gI x0 11 2) fun v18 => mo_b (mo_sa 0 v17 v18 x2) fun _ => mo_b (mo_gR x0 11 5) fun v19 => mo_b (mo_gI x0 11 2) fun v20 => mo_b (mo_sz v19 v20 x3) fun _ => mo_b (mo_gR x0 11 6) fun v21 => mo_b (mo_gI x0 11 2) fun v22 => mo_b (mo_sa 0 v21 v22 x4) fun _ => mo_b (mo_gI x0 11 2) fun v23 => mo_b (mo_pV x0 11 2 (.int (v23 + (1 : Int32)))) fun _ => mo_b (mo_gI x0 11 2) fun v24 => mo_ret (v24 - (1 : Int32)) else mo_ret (-1 : Int32)))))))))).1 h = some (z, h2) → mo_A D dA b0 s.heap h0 h H locs → W p l e R s m args below meth c H locs (h.2.1 - h0.2.1) (h.2.2 - h0.2.2) Q (F0 m 0 ls []) := by
    intro h H locs hF A
    refine lv_aload_n hx hb dX11_channel_0 rfl (lv_at hl 0 rfl) ?_
    refine lv_iload_n hx hb dX11_channel_1 rfl (lv_at hl 1 rfl) ?_
    refine mo_cV (n := 1) (As := [.int x1]) (rest := []) C A hml hl.1 (c_X11_isDomain l D dA b0 x0 x1) (ci := 11) (q := (RX11, TX11, 56)) rfl (fun _ e => (mo_ckE e).1) (tb_v tb_198 tb_199 tb_200 tb_5 tb_201) rfl (by decide +kernel) ⟨Nat.le_trans (by decide) hfr, Nat.le_trans (Nat.le_of_ble_eq_true rfl) hlo⟩ rfl (Nat.le_of_ble_eq_true rfl) rfl dX11_channel_2 hF (fun v1 h H locs hF A => ?_)
    show W _ _ _ _ _ _ _ _ _ _ _ _ _ _ _ (F0 m 5 ls [.int v1])
    refine lv_if_eq (tgt := 63) hx hb dX11_channel_5 (by decide) (fun c2 => ?_) (fun c2 => ?_)
    · have hF := mo_ifT c2 hF
      refine lv_iconst (v := (-1 : Int32)) hx hb dX11_channel_63 (by decide) ?_
      rw [hQ]
      exact mo_iret C A hr hlocks dX11_channel_64 hF
    · have hF := mo_ifF c2 hF
      refine lv_aload_n hx hb dX11_channel_8 rfl (lv_at hl 0 rfl) ?_
      refine lv_iload_n hx hb dX11_channel_9 rfl (lv_at hl 2 rfl) ?_
      refine mo_cV (n := 1) (As := [.int x2]) (rest := []) C A hml hl.1 (c_X11_isDomain l D dA b0 x0 x2) (ci := 11) (q := (RX11, TX11, 56)) rfl (fun _ e => (mo_ckE e).1) (tb_v tb_198 tb_199 tb_200 tb_5 tb_201) rfl (by decide +kernel) ⟨Nat.le_trans (by decide) hfr, Nat.le_trans (Nat.le_of_ble_eq_true rfl) hlo⟩ rfl (Nat.le_of_ble_eq_true rfl) rfl dX11_channel_10 hF (fun v3 h H locs hF A => ?_)
      show W _ _ _ _ _ _ _ _ _ _ _ _ _ _ _ (F0 m 13 ls [.int v3])
      refine lv_if_eq (tgt := 63) hx hb dX11_channel_13 (by decide) (fun c4 => ?_) (fun c4 => ?_)
      · have hF := mo_ifT c4 hF
        refine lv_iconst (v := (-1 : Int32)) hx hb dX11_channel_63 (by decide) ?_
        rw [hQ]
        exact mo_iret C A hr hlocks dX11_channel_64 hF
      · have hF := mo_ifF c4 hF
        refine lv_iload_n hx hb dX11_channel_16 rfl (lv_at hl 1 rfl) ?_
        refine lv_iload_n hx hb dX11_channel_17 rfl (lv_at hl 2 rfl) ?_
        refine lv_icmp_eq (tgt := 63) hx hb dX11_channel_18 (by decide) (fun c5 => ?_) (fun c5 => ?_)
        · have hF := mo_ifT c5 hF
          refine lv_iconst (v := (-1 : Int32)) hx hb dX11_channel_63 (by decide) ?_
          rw [hQ]
          exact mo_iret C A hr hlocks dX11_channel_64 hF
        · have hF := mo_ifF c5 hF
          refine lv_aload_n hx hb dX11_channel_21 rfl (lv_at hl 0 rfl) ?_
          refine mo_wR C A (T := TX11) iX11 rfl 1 (by decide) tb_121 rfl dX11_channel_22 hF (fun v6 hF => ?_)
          refine lv_bipush (v := (6 : Int32)) hx hb dX11_channel_25 (by decide) ?_
          refine lv_iload_n hx hb dX11_channel_27 rfl (lv_at hl 1 rfl) ?_
          refine lv_imul hx hb dX11_channel_28 ?_
          refine lv_iload_n hx hb dX11_channel_29 rfl (lv_at hl 2 rfl) ?_
          refine lv_iadd hx hb dX11_channel_30 ?_
          refine mo_wlz C A dX11_channel_31 hF (fun v7 hF => ?_)
          refine lv_if_eq (tgt := 63) hx hb dX11_channel_32 (by decide) (fun c8 => ?_) (fun c8 => ?_)
          · have hF := mo_ifT c8 hF
            refine lv_iconst (v := (-1 : Int32)) hx hb dX11_channel_63 (by decide) ?_
            rw [hQ]
            exact mo_iret C A hr hlocks dX11_channel_64 hF
          · have hF := mo_ifF c8 hF
            refine lv_iload hx hb dX11_channel_35 (lv_at hl 4 rfl) ?_
            refine lv_iconst (v := (1 : Int32)) hx hb dX11_channel_37 (by decide) ?_
            refine lv_icmp_lt (tgt := 63) hx hb dX11_channel_38 (by decide) (fun c9 => ?_) (fun c9 => ?_)
            · have hF := mo_ifT c9 hF
              refine lv_iconst (v := (-1 : Int32)) hx hb dX11_channel_63 (by decide) ?_
              rw [hQ]
              exact mo_iret C A hr hlocks dX11_channel_64 hF
            · have hF := mo_ifF c9 hF
              refine lv_iload hx hb dX11_channel_41 (lv_at hl 4 rfl) ?_
              refine lv_iconst (v := (4 : Int32)) hx hb dX11_channel_43 (by decide) ?_
              refine lv_icmp_gt (tgt := 63) hx hb dX11_channel_44 (by decide) (fun c10 => ?_) (fun c10 => ?_)
              · have hF := mo_ifT c10 hF
                refine lv_iconst (v := (-1 : Int32)) hx hb dX11_channel_63 (by decide) ?_
                rw [hQ]
                exact mo_iret C A hr hlocks dX11_channel_64 hF
              · have hF := mo_ifF c10 hF
                refine lv_aload_n hx hb dX11_channel_47 rfl (lv_at hl 0 rfl) ?_
                refine mo_wI C A (T := TX11) iX11 rfl 2 (by decide) tb_197 rfl dX11_channel_48 hF (fun v11 hF => ?_)
                refine lv_bipush (v := (12 : Int32)) hx hb dX11_channel_51 (by decide) ?_
                refine lv_icmp_eq (tgt := 63) hx hb dX11_channel_53 (by decide) (fun c12 => ?_) (fun c12 => ?_)
                · have hF := mo_ifT c12 hF
                  refine lv_iconst (v := (-1 : Int32)) hx hb dX11_channel_63 (by decide) ?_
                  rw [hQ]
                  exact mo_iret C A hr hlocks dX11_channel_64 hF
                · have hF := mo_ifF c12 hF
                  refine lv_aload_n hx hb dX11_channel_56 rfl (lv_at hl 0 rfl) ?_
                  refine mo_wI C A (T := TX11) iX11 rfl 13 (by decide) tb_196 rfl dX11_channel_57 hF (fun v13 hF => ?_)
                  refine lv_if_eq (tgt := 65) hx hb dX11_channel_60 (by decide) (fun c14 => ?_) (fun c14 => ?_)
                  · have hF := mo_ifT c14 hF
                    refine lv_aload_n hx hb dX11_channel_65 rfl (lv_at hl 0 rfl) ?_
                    refine mo_wR C A (T := TX11) iX11 rfl 3 (by decide) tb_122 rfl dX11_channel_66 hF (fun v15 hF => ?_)
                    refine lv_aload_n hx hb dX11_channel_69 rfl (lv_at hl 0 rfl) ?_
                    refine mo_wI C A (T := TX11) iX11 rfl 2 (by decide) tb_197 rfl dX11_channel_70 hF (fun v16 hF => ?_)
                    refine lv_iload_n hx hb dX11_channel_73 rfl (lv_at hl 1 rfl) ?_
                    refine mo_wsa C A dX11_channel_74 hF (fun h H locs hF A => ?_)
                    refine lv_aload_n hx hb dX11_channel_75 rfl (lv_at hl 0 rfl) ?_
                    refine mo_wR C A (T := TX11) iX11 rfl 4 (by decide) tb_123 rfl dX11_channel_76 hF (fun v17 hF => ?_)
                    refine lv_aload_n hx hb dX11_channel_79 rfl (lv_at hl 0 rfl) ?_
                    refine mo_wI C A (T := TX11) iX11 rfl 2 (by decide) tb_197 rfl dX11_channel_80 hF (fun v18 hF => ?_)
                    refine lv_iload_n hx hb dX11_channel_83 rfl (lv_at hl 2 rfl) ?_
                    refine mo_wsa C A dX11_channel_84 hF (fun h H locs hF A => ?_)
                    refine lv_aload_n hx hb dX11_channel_85 rfl (lv_at hl 0 rfl) ?_
                    refine mo_wR C A (T := TX11) iX11 rfl 5 (by decide) tb_124 rfl dX11_channel_86 hF (fun v19 hF => ?_)
                    refine lv_aload_n hx hb dX11_channel_89 rfl (lv_at hl 0 rfl) ?_
                    refine mo_wI C A (T := TX11) iX11 rfl 2 (by decide) tb_197 rfl dX11_channel_90 hF (fun v20 hF => ?_)
                    refine lv_iload_n hx hb dX11_channel_93 rfl (lv_at hl 3 rfl) ?_
                    refine mo_wsz C A dX11_channel_94 hF (fun h H locs hF A => ?_)
                    refine lv_aload_n hx hb dX11_channel_95 rfl (lv_at hl 0 rfl) ?_
                    refine mo_wR C A (T := TX11) iX11 rfl 6 (by decide) tb_125 rfl dX11_channel_96 hF (fun v21 hF => ?_)
                    refine lv_aload_n hx hb dX11_channel_99 rfl (lv_at hl 0 rfl) ?_
                    refine mo_wI C A (T := TX11) iX11 rfl 2 (by decide) tb_197 rfl dX11_channel_100 hF (fun v22 hF => ?_)
                    refine lv_iload hx hb dX11_channel_103 (lv_at hl 4 rfl) ?_
                    refine mo_wsa C A dX11_channel_105 hF (fun h H locs hF A => ?_)
                    refine lv_aload_n hx hb dX11_channel_106 rfl (lv_at hl 0 rfl) ?_
                    refine lv_dup hx hb dX11_channel_107 rfl ?_
                    refine mo_wI C A (T := TX11) iX11 rfl 2 (by decide) tb_197 rfl dX11_channel_108 hF (fun v23 hF => ?_)
                    refine lv_iconst (v := (1 : Int32)) hx hb dX11_channel_111 (by decide) ?_
                    refine lv_iadd hx hb dX11_channel_112 ?_
                    refine mo_wpV C A (T := TX11) iX11 tyX11 tyX11_ok nmX11 rfl 2 (by decide) tb_197 rfl rfl rfl rfl dX11_channel_113 hF (fun h H locs hF A => ?_)
                    refine lv_aload_n hx hb dX11_channel_116 rfl (lv_at hl 0 rfl) ?_
                    refine mo_wI C A (T := TX11) iX11 rfl 2 (by decide) tb_197 rfl dX11_channel_117 hF (fun v24 hF => ?_)
                    refine lv_iconst (v := (1 : Int32)) hx hb dX11_channel_120 (by decide) ?_
                    refine lv_isub hx hb dX11_channel_121 ?_
                    rw [hQ]
                    exact mo_iret C A hr hlocks dX11_channel_122 hF
                  · have hF := mo_ifF c14 hF
                    refine lv_iconst (v := (-1 : Int32)) hx hb dX11_channel_63 (by decide) ?_
                    rw [hQ]
                    exact mo_iret C A hr hlocks dX11_channel_64 hF
  exact E h0 s.heap [] hF A
set_option maxHeartbeats 4000000 in
set_option maxRecDepth 100000 in
theorem c_X11_code (l : Launch) (D : va_G) (dA : Nat → ClassId) (b0 : Nat) (x0 : Nat) (x1 : Int32) (x2 : Int32) : mo_Met l yX11_code [Cond.code yX11_code cX11_code 3 (some .int)] 1 21 D dA b0 [.ref x0, .int x1, .int x2] (fun r : Int32 => some (.int r)) (F_X11_code x0 x1 x2) := by
  refine mo_MetOf (own := RX11) (by decide) (Nat.le_of_ble_eq_true rfl) [(0, .ref x0), (1, .int x1), (2, .int x2)] rfl rfl ?_
  intro p e R s m args below meth c Q h0 h2 z ls hQ C hml hr hlocks hnm hfr hlo hF A hl
  have hx := C.1
  have hb := C.2.1
  have hown := C.2.2.1
  have hts := C.2.2.2.1
  have hK := C.2.2.2.2.1
  have iX11 := inlX11
  unfold F_X11_code at hF
  obtain ⟨-, hF⟩ := mo_ckE hF
  have E : ∀ (h : mo_H) (H : Heap) (locs : List Loc), (mo_b (F_X11_isDomain x0 x1) fun v1 => (if v1 = 0 then mo_ret (-1 : Int32) else mo_b (mo_gR x0 11 8) fun v3 => mo_b (mo_la 0 v3 x1) fun v4 => (if v4 = (64 : Int32) then mo_ret (-1 : Int32) else mo_b (mo_gI x0 11 13) fun v6 => (if v6 = 0 then mo_b (mo_gR x0 11 7) fun v8 => mo_b (mo_gR x0 11 8) fun v9 => mo_b (mo_la 0 v9 x1) fun v10 => mo_b (mo_sa 0 v8 (((64 : Int32) * x1) + v10) x2) fun _ => mo_b (mo_gR x0 11 8) fun v11 => mo_b (mo_la 0 v11 x1) fun v12 => mo_b (mo_sa 0 v11 x1 (v12 + (1 : Int32))) fun _ => mo_b (mo_gR x0 11 8) fun v13 => mo_b (mo_la 0 v13 x1) fun v14 => mo_ret v14 else mo_ret (-1 : Int32))))).1 h = some (z, h2) → mo_A D dA b0 s.heap h0 h H locs → W p l e R s m args below meth c H locs (h.2.1 - h0.2.1) (h.2.2 - h0.2.2) Q (F0 m 0 ls []) := by
    intro h H locs hF A
    refine lv_aload_n hx hb dX11_code_0 rfl (lv_at hl 0 rfl) ?_
    refine lv_iload_n hx hb dX11_code_1 rfl (lv_at hl 1 rfl) ?_
    refine mo_cV (n := 1) (As := [.int x1]) (rest := []) C A hml hl.1 (c_X11_isDomain l D dA b0 x0 x1) (ci := 11) (q := (RX11, TX11, 56)) rfl (fun _ e => (mo_ckE e).1) (tb_v tb_198 tb_199 tb_200 tb_5 tb_201) rfl (by decide +kernel) ⟨Nat.le_trans (by decide) hfr, Nat.le_trans (Nat.le_of_ble_eq_true rfl) hlo⟩ rfl (Nat.le_of_ble_eq_true rfl) rfl dX11_code_2 hF (fun v1 h H locs hF A => ?_)
    show W _ _ _ _ _ _ _ _ _ _ _ _ _ _ _ (F0 m 5 ls [.int v1])
    refine lv_if_eq (tgt := 26) hx hb dX11_code_5 (by decide) (fun c2 => ?_) (fun c2 => ?_)
    · have hF := mo_ifT c2 hF
      refine lv_iconst (v := (-1 : Int32)) hx hb dX11_code_26 (by decide) ?_
      rw [hQ]
      exact mo_iret C A hr hlocks dX11_code_27 hF
    · have hF := mo_ifF c2 hF
      refine lv_aload_n hx hb dX11_code_8 rfl (lv_at hl 0 rfl) ?_
      refine mo_wR C A (T := TX11) iX11 rfl 8 (by decide) tb_127 rfl dX11_code_9 hF (fun v3 hF => ?_)
      refine lv_iload_n hx hb dX11_code_12 rfl (lv_at hl 1 rfl) ?_
      refine mo_wla C A dX11_code_13 hF (fun v4 hF => ?_)
      refine lv_bipush (v := (64 : Int32)) hx hb dX11_code_14 (by decide) ?_
      refine lv_icmp_eq (tgt := 26) hx hb dX11_code_16 (by decide) (fun c5 => ?_) (fun c5 => ?_)
      · have hF := mo_ifT c5 hF
        refine lv_iconst (v := (-1 : Int32)) hx hb dX11_code_26 (by decide) ?_
        rw [hQ]
        exact mo_iret C A hr hlocks dX11_code_27 hF
      · have hF := mo_ifF c5 hF
        refine lv_aload_n hx hb dX11_code_19 rfl (lv_at hl 0 rfl) ?_
        refine mo_wI C A (T := TX11) iX11 rfl 13 (by decide) tb_196 rfl dX11_code_20 hF (fun v6 hF => ?_)
        refine lv_if_eq (tgt := 28) hx hb dX11_code_23 (by decide) (fun c7 => ?_) (fun c7 => ?_)
        · have hF := mo_ifT c7 hF
          refine lv_aload_n hx hb dX11_code_28 rfl (lv_at hl 0 rfl) ?_
          refine mo_wR C A (T := TX11) iX11 rfl 7 (by decide) tb_126 rfl dX11_code_29 hF (fun v8 hF => ?_)
          refine lv_bipush (v := (64 : Int32)) hx hb dX11_code_32 (by decide) ?_
          refine lv_iload_n hx hb dX11_code_34 rfl (lv_at hl 1 rfl) ?_
          refine lv_imul hx hb dX11_code_35 ?_
          refine lv_aload_n hx hb dX11_code_36 rfl (lv_at hl 0 rfl) ?_
          refine mo_wR C A (T := TX11) iX11 rfl 8 (by decide) tb_127 rfl dX11_code_37 hF (fun v9 hF => ?_)
          refine lv_iload_n hx hb dX11_code_40 rfl (lv_at hl 1 rfl) ?_
          refine mo_wla C A dX11_code_41 hF (fun v10 hF => ?_)
          refine lv_iadd hx hb dX11_code_42 ?_
          refine lv_iload_n hx hb dX11_code_43 rfl (lv_at hl 2 rfl) ?_
          refine mo_wsa C A dX11_code_44 hF (fun h H locs hF A => ?_)
          refine lv_aload_n hx hb dX11_code_45 rfl (lv_at hl 0 rfl) ?_
          refine mo_wR C A (T := TX11) iX11 rfl 8 (by decide) tb_127 rfl dX11_code_46 hF (fun v11 hF => ?_)
          refine lv_iload_n hx hb dX11_code_49 rfl (lv_at hl 1 rfl) ?_
          refine lv_dup2_11 hx hb dX11_code_50 rfl rfl ?_
          refine mo_wla C A dX11_code_51 hF (fun v12 hF => ?_)
          refine lv_iconst (v := (1 : Int32)) hx hb dX11_code_52 (by decide) ?_
          refine lv_iadd hx hb dX11_code_53 ?_
          refine mo_wsa C A dX11_code_54 hF (fun h H locs hF A => ?_)
          refine lv_aload_n hx hb dX11_code_55 rfl (lv_at hl 0 rfl) ?_
          refine mo_wR C A (T := TX11) iX11 rfl 8 (by decide) tb_127 rfl dX11_code_56 hF (fun v13 hF => ?_)
          refine lv_iload_n hx hb dX11_code_59 rfl (lv_at hl 1 rfl) ?_
          refine mo_wla C A dX11_code_60 hF (fun v14 hF => ?_)
          rw [hQ]
          exact mo_iret C A hr hlocks dX11_code_61 hF
        · have hF := mo_ifF c7 hF
          refine lv_iconst (v := (-1 : Int32)) hx hb dX11_code_26 (by decide) ?_
          rw [hQ]
          exact mo_iret C A hr hlocks dX11_code_27 hF
  exact E h0 s.heap [] hF A
set_option maxHeartbeats 4000000 in
set_option maxRecDepth 100000 in
theorem c_X11_onFail (l : Launch) (D : va_G) (dA : Nat → ClassId) (b0 : Nat) (x0 : Nat) (x1 : Int32) (x2 : Int32) : mo_Met l yX11_onFail [Cond.code yX11_onFail cX11_onFail 3 (some .boolean)] 1 21 D dA b0 [.ref x0, .int x1, .int x2] (fun r : Int32 => some (.int r)) (F_X11_onFail x0 x1 x2) := by
  refine mo_MetOf (own := RX11) (by decide) (Nat.le_of_ble_eq_true rfl) [(0, .ref x0), (1, .int x1), (2, .int x2)] rfl rfl ?_
  intro p e R s m args below meth c Q h0 h2 z ls hQ C hml hr hlocks hnm hfr hlo hF A hl
  have hx := C.1
  have hb := C.2.1
  have hown := C.2.2.1
  have hts := C.2.2.2.1
  have hK := C.2.2.2.2.1
  have iX11 := inlX11
  unfold F_X11_onFail at hF
  obtain ⟨-, hF⟩ := mo_ckE hF
  have E : ∀ (h : mo_H) (H : Heap) (locs : List Loc), (mo_b (F_X11_isDomain x0 x1) fun v1 => (if v1 = 0 then mo_rz (0 : Int32) else (if x2 < 0 then mo_rz (0 : Int32) else (if (2 : Int32) < x2 then mo_rz (0 : Int32) else mo_b (mo_gI x0 11 13) fun v5 => (if v5 = 0 then mo_b (mo_gR x0 11 9) fun v7 => mo_b (mo_sa 0 v7 x1 x2) fun _ => mo_rz (1 : Int32) else mo_rz (0 : Int32)))))).1 h = some (z, h2) → mo_A D dA b0 s.heap h0 h H locs → W p l e R s m args below meth c H locs (h.2.1 - h0.2.1) (h.2.2 - h0.2.2) Q (F0 m 0 ls []) := by
    intro h H locs hF A
    refine lv_aload_n hx hb dX11_onFail_0 rfl (lv_at hl 0 rfl) ?_
    refine lv_iload_n hx hb dX11_onFail_1 rfl (lv_at hl 1 rfl) ?_
    refine mo_cV (n := 1) (As := [.int x1]) (rest := []) C A hml hl.1 (c_X11_isDomain l D dA b0 x0 x1) (ci := 11) (q := (RX11, TX11, 56)) rfl (fun _ e => (mo_ckE e).1) (tb_v tb_198 tb_199 tb_200 tb_5 tb_201) rfl (by decide +kernel) ⟨Nat.le_trans (by decide) hfr, Nat.le_trans (Nat.le_of_ble_eq_true rfl) hlo⟩ rfl (Nat.le_of_ble_eq_true rfl) rfl dX11_onFail_2 hF (fun v1 h H locs hF A => ?_)
    show W _ _ _ _ _ _ _ _ _ _ _ _ _ _ _ (F0 m 5 ls [.int v1])
    refine lv_if_eq (tgt := 24) hx hb dX11_onFail_5 (by decide) (fun c2 => ?_) (fun c2 => ?_)
    · have hF := mo_ifT c2 hF
      refine lv_iconst (v := (0 : Int32)) hx hb dX11_onFail_24 (by decide) ?_
      rw [hQ]
      exact mo_zret C A hr hlocks dX11_onFail_25 hF
    · have hF := mo_ifF c2 hF
      refine lv_iload_n hx hb dX11_onFail_8 rfl (lv_at hl 2 rfl) ?_
      refine lv_if_lt (tgt := 24) hx hb dX11_onFail_9 (by decide) (fun c3 => ?_) (fun c3 => ?_)
      · have hF := mo_ifT c3 hF
        refine lv_iconst (v := (0 : Int32)) hx hb dX11_onFail_24 (by decide) ?_
        rw [hQ]
        exact mo_zret C A hr hlocks dX11_onFail_25 hF
      · have hF := mo_ifF c3 hF
        refine lv_iload_n hx hb dX11_onFail_12 rfl (lv_at hl 2 rfl) ?_
        refine lv_iconst (v := (2 : Int32)) hx hb dX11_onFail_13 (by decide) ?_
        refine lv_icmp_gt (tgt := 24) hx hb dX11_onFail_14 (by decide) (fun c4 => ?_) (fun c4 => ?_)
        · have hF := mo_ifT c4 hF
          refine lv_iconst (v := (0 : Int32)) hx hb dX11_onFail_24 (by decide) ?_
          rw [hQ]
          exact mo_zret C A hr hlocks dX11_onFail_25 hF
        · have hF := mo_ifF c4 hF
          refine lv_aload_n hx hb dX11_onFail_17 rfl (lv_at hl 0 rfl) ?_
          refine mo_wI C A (T := TX11) iX11 rfl 13 (by decide) tb_196 rfl dX11_onFail_18 hF (fun v5 hF => ?_)
          refine lv_if_eq (tgt := 26) hx hb dX11_onFail_21 (by decide) (fun c6 => ?_) (fun c6 => ?_)
          · have hF := mo_ifT c6 hF
            refine lv_aload_n hx hb dX11_onFail_26 rfl (lv_at hl 0 rfl) ?_
            refine mo_wR C A (T := TX11) iX11 rfl 9 (by decide) tb_128 rfl dX11_onFail_27 hF (fun v7 hF => ?_)
            refine lv_iload_n hx hb dX11_onFail_30 rfl (lv_at hl 1 rfl) ?_
            refine lv_iload_n hx hb dX11_onFail_31 rfl (lv_at hl 2 rfl) ?_
            refine mo_wsa C A dX11_onFail_32 hF (fun h H locs hF A => ?_)
            refine lv_iconst (v := (1 : Int32)) hx hb dX11_onFail_33 (by decide) ?_
            rw [hQ]
            exact mo_zret C A hr hlocks dX11_onFail_34 hF
          · have hF := mo_ifF c6 hF
            refine lv_iconst (v := (0 : Int32)) hx hb dX11_onFail_24 (by decide) ?_
            rw [hQ]
            exact mo_zret C A hr hlocks dX11_onFail_25 hF
  exact E h0 s.heap [] hF A
set_option maxHeartbeats 4000000 in
set_option maxRecDepth 100000 in
theorem c_X11_slot (l : Launch) (D : va_G) (dA : Nat → ClassId) (b0 : Nat) (x0 : Nat) (x1 : Int32) (x2 : Int32) (x3 : Int32) : mo_Met l yX11_slot [Cond.code yX11_slot cX11_slot 4 (some .int)] 1 21 D dA b0 [.ref x0, .int x1, .int x2, .int x3] (fun r : Int32 => some (.int r)) (F_X11_slot x0 x1 x2 x3) := by
  refine mo_MetOf (own := RX11) (by decide) (Nat.le_of_ble_eq_true rfl) [(0, .ref x0), (1, .int x1), (2, .int x2), (3, .int x3)] rfl rfl ?_
  intro p e R s m args below meth c Q h0 h2 z ls hQ C hml hr hlocks hnm hfr hlo hF A hl
  have hx := C.1
  have hb := C.2.1
  have hown := C.2.2.1
  have hts := C.2.2.2.1
  have hK := C.2.2.2.2.1
  have iX11 := inlX11
  unfold F_X11_slot at hF
  obtain ⟨-, hF⟩ := mo_ckE hF
  have E : ∀ (h : mo_H) (H : Heap) (locs : List Loc), ((if x1 < 0 then mo_ret (-1 : Int32) else (if (2 : Int32) < x1 then mo_ret (-1 : Int32) else mo_b (F_X11_isDomain x0 x2) fun v3 => (if v3 = 0 then mo_ret (-1 : Int32) else (if x3 < (1 : Int32) then mo_ret (-1 : Int32) else (if (20 : Int32) < x3 then mo_ret (-1 : Int32) else mo_b (mo_gR x0 11 12) fun v7 => mo_b (mo_la 0 v7 x1) fun v8 => (if v8 = (12 : Int32) then mo_ret (-1 : Int32) else mo_b (mo_gI x0 11 13) fun v10 => (if v10 = 0 then mo_b (mo_gR x0 11 10) fun v12 => mo_b (mo_gR x0 11 12) fun v13 => mo_b (mo_la 0 v13 x1) fun v14 => mo_b (mo_sa 0 v12 (((12 : Int32) * x1) + v14) x2) fun _ => mo_b (mo_gR x0 11 11) fun v15 => mo_b (mo_gR x0 11 12) fun v16 => mo_b (mo_la 0 v16 x1) fun v17 => mo_b (mo_sa 0 v15 (((12 : Int32) * x1) + v17) x3) fun _ => mo_b (mo_gR x0 11 12) fun v18 => mo_b (mo_la 0 v18 x1) fun v19 => mo_b (mo_sa 0 v18 x1 (v19 + (1 : Int32))) fun _ => mo_b (mo_gR x0 11 12) fun v20 => mo_b (mo_la 0 v20 x1) fun v21 => mo_ret v21 else mo_ret (-1 : Int32))))))))).1 h = some (z, h2) → mo_A D dA b0 s.heap h0 h H locs → W p l e R s m args below meth c H locs (h.2.1 - h0.2.1) (h.2.2 - h0.2.2) Q (F0 m 0 ls []) := by
    intro h H locs hF A
    refine lv_iload_n hx hb dX11_slot_0 rfl (lv_at hl 1 rfl) ?_
    refine lv_if_lt (tgt := 46) hx hb dX11_slot_1 (by decide) (fun c1 => ?_) (fun c1 => ?_)
    · have hF := mo_ifT c1 hF
      refine lv_iconst (v := (-1 : Int32)) hx hb dX11_slot_46 (by decide) ?_
      rw [hQ]
      exact mo_iret C A hr hlocks dX11_slot_47 hF
    · have hF := mo_ifF c1 hF
      refine lv_iload_n hx hb dX11_slot_4 rfl (lv_at hl 1 rfl) ?_
      refine lv_iconst (v := (2 : Int32)) hx hb dX11_slot_5 (by decide) ?_
      refine lv_icmp_gt (tgt := 46) hx hb dX11_slot_6 (by decide) (fun c2 => ?_) (fun c2 => ?_)
      · have hF := mo_ifT c2 hF
        refine lv_iconst (v := (-1 : Int32)) hx hb dX11_slot_46 (by decide) ?_
        rw [hQ]
        exact mo_iret C A hr hlocks dX11_slot_47 hF
      · have hF := mo_ifF c2 hF
        refine lv_aload_n hx hb dX11_slot_9 rfl (lv_at hl 0 rfl) ?_
        refine lv_iload_n hx hb dX11_slot_10 rfl (lv_at hl 2 rfl) ?_
        refine mo_cV (n := 1) (As := [.int x2]) (rest := []) C A hml hl.1 (c_X11_isDomain l D dA b0 x0 x2) (ci := 11) (q := (RX11, TX11, 56)) rfl (fun _ e => (mo_ckE e).1) (tb_v tb_198 tb_199 tb_200 tb_5 tb_201) rfl (by decide +kernel) ⟨Nat.le_trans (by decide) hfr, Nat.le_trans (Nat.le_of_ble_eq_true rfl) hlo⟩ rfl (Nat.le_of_ble_eq_true rfl) rfl dX11_slot_11 hF (fun v3 h H locs hF A => ?_)
        show W _ _ _ _ _ _ _ _ _ _ _ _ _ _ _ (F0 m 14 ls [.int v3])
        refine lv_if_eq (tgt := 46) hx hb dX11_slot_14 (by decide) (fun c4 => ?_) (fun c4 => ?_)
        · have hF := mo_ifT c4 hF
          refine lv_iconst (v := (-1 : Int32)) hx hb dX11_slot_46 (by decide) ?_
          rw [hQ]
          exact mo_iret C A hr hlocks dX11_slot_47 hF
        · have hF := mo_ifF c4 hF
          refine lv_iload_n hx hb dX11_slot_17 rfl (lv_at hl 3 rfl) ?_
          refine lv_iconst (v := (1 : Int32)) hx hb dX11_slot_18 (by decide) ?_
          refine lv_icmp_lt (tgt := 46) hx hb dX11_slot_19 (by decide) (fun c5 => ?_) (fun c5 => ?_)
          · have hF := mo_ifT c5 hF
            refine lv_iconst (v := (-1 : Int32)) hx hb dX11_slot_46 (by decide) ?_
            rw [hQ]
            exact mo_iret C A hr hlocks dX11_slot_47 hF
          · have hF := mo_ifF c5 hF
            refine lv_iload_n hx hb dX11_slot_22 rfl (lv_at hl 3 rfl) ?_
            refine lv_bipush (v := (20 : Int32)) hx hb dX11_slot_23 (by decide) ?_
            refine lv_icmp_gt (tgt := 46) hx hb dX11_slot_25 (by decide) (fun c6 => ?_) (fun c6 => ?_)
            · have hF := mo_ifT c6 hF
              refine lv_iconst (v := (-1 : Int32)) hx hb dX11_slot_46 (by decide) ?_
              rw [hQ]
              exact mo_iret C A hr hlocks dX11_slot_47 hF
            · have hF := mo_ifF c6 hF
              refine lv_aload_n hx hb dX11_slot_28 rfl (lv_at hl 0 rfl) ?_
              refine mo_wR C A (T := TX11) iX11 rfl 12 (by decide) tb_131 rfl dX11_slot_29 hF (fun v7 hF => ?_)
              refine lv_iload_n hx hb dX11_slot_32 rfl (lv_at hl 1 rfl) ?_
              refine mo_wla C A dX11_slot_33 hF (fun v8 hF => ?_)
              refine lv_bipush (v := (12 : Int32)) hx hb dX11_slot_34 (by decide) ?_
              refine lv_icmp_eq (tgt := 46) hx hb dX11_slot_36 (by decide) (fun c9 => ?_) (fun c9 => ?_)
              · have hF := mo_ifT c9 hF
                refine lv_iconst (v := (-1 : Int32)) hx hb dX11_slot_46 (by decide) ?_
                rw [hQ]
                exact mo_iret C A hr hlocks dX11_slot_47 hF
              · have hF := mo_ifF c9 hF
                refine lv_aload_n hx hb dX11_slot_39 rfl (lv_at hl 0 rfl) ?_
                refine mo_wI C A (T := TX11) iX11 rfl 13 (by decide) tb_196 rfl dX11_slot_40 hF (fun v10 hF => ?_)
                refine lv_if_eq (tgt := 48) hx hb dX11_slot_43 (by decide) (fun c11 => ?_) (fun c11 => ?_)
                · have hF := mo_ifT c11 hF
                  refine lv_aload_n hx hb dX11_slot_48 rfl (lv_at hl 0 rfl) ?_
                  refine mo_wR C A (T := TX11) iX11 rfl 10 (by decide) tb_129 rfl dX11_slot_49 hF (fun v12 hF => ?_)
                  refine lv_bipush (v := (12 : Int32)) hx hb dX11_slot_52 (by decide) ?_
                  refine lv_iload_n hx hb dX11_slot_54 rfl (lv_at hl 1 rfl) ?_
                  refine lv_imul hx hb dX11_slot_55 ?_
                  refine lv_aload_n hx hb dX11_slot_56 rfl (lv_at hl 0 rfl) ?_
                  refine mo_wR C A (T := TX11) iX11 rfl 12 (by decide) tb_131 rfl dX11_slot_57 hF (fun v13 hF => ?_)
                  refine lv_iload_n hx hb dX11_slot_60 rfl (lv_at hl 1 rfl) ?_
                  refine mo_wla C A dX11_slot_61 hF (fun v14 hF => ?_)
                  refine lv_iadd hx hb dX11_slot_62 ?_
                  refine lv_iload_n hx hb dX11_slot_63 rfl (lv_at hl 2 rfl) ?_
                  refine mo_wsa C A dX11_slot_64 hF (fun h H locs hF A => ?_)
                  refine lv_aload_n hx hb dX11_slot_65 rfl (lv_at hl 0 rfl) ?_
                  refine mo_wR C A (T := TX11) iX11 rfl 11 (by decide) tb_130 rfl dX11_slot_66 hF (fun v15 hF => ?_)
                  refine lv_bipush (v := (12 : Int32)) hx hb dX11_slot_69 (by decide) ?_
                  refine lv_iload_n hx hb dX11_slot_71 rfl (lv_at hl 1 rfl) ?_
                  refine lv_imul hx hb dX11_slot_72 ?_
                  refine lv_aload_n hx hb dX11_slot_73 rfl (lv_at hl 0 rfl) ?_
                  refine mo_wR C A (T := TX11) iX11 rfl 12 (by decide) tb_131 rfl dX11_slot_74 hF (fun v16 hF => ?_)
                  refine lv_iload_n hx hb dX11_slot_77 rfl (lv_at hl 1 rfl) ?_
                  refine mo_wla C A dX11_slot_78 hF (fun v17 hF => ?_)
                  refine lv_iadd hx hb dX11_slot_79 ?_
                  refine lv_iload_n hx hb dX11_slot_80 rfl (lv_at hl 3 rfl) ?_
                  refine mo_wsa C A dX11_slot_81 hF (fun h H locs hF A => ?_)
                  refine lv_aload_n hx hb dX11_slot_82 rfl (lv_at hl 0 rfl) ?_
                  refine mo_wR C A (T := TX11) iX11 rfl 12 (by decide) tb_131 rfl dX11_slot_83 hF (fun v18 hF => ?_)
                  refine lv_iload_n hx hb dX11_slot_86 rfl (lv_at hl 1 rfl) ?_
                  refine lv_dup2_11 hx hb dX11_slot_87 rfl rfl ?_
                  refine mo_wla C A dX11_slot_88 hF (fun v19 hF => ?_)
                  refine lv_iconst (v := (1 : Int32)) hx hb dX11_slot_89 (by decide) ?_
                  refine lv_iadd hx hb dX11_slot_90 ?_
                  refine mo_wsa C A dX11_slot_91 hF (fun h H locs hF A => ?_)
                  refine lv_aload_n hx hb dX11_slot_92 rfl (lv_at hl 0 rfl) ?_
                  refine mo_wR C A (T := TX11) iX11 rfl 12 (by decide) tb_131 rfl dX11_slot_93 hF (fun v20 hF => ?_)
                  refine lv_iload_n hx hb dX11_slot_96 rfl (lv_at hl 1 rfl) ?_
                  refine mo_wla C A dX11_slot_97 hF (fun v21 hF => ?_)
                  rw [hQ]
                  exact mo_iret C A hr hlocks dX11_slot_98 hF
                · have hF := mo_ifF c11 hF
                  refine lv_iconst (v := (-1 : Int32)) hx hb dX11_slot_46 (by decide) ?_
                  rw [hQ]
                  exact mo_iret C A hr hlocks dX11_slot_47 hF
  exact E h0 s.heap [] hF A
set_option maxHeartbeats 4000000 in
set_option maxRecDepth 100000 in
theorem c_X11_reset (l : Launch) (D : va_G) (dA : Nat → ClassId) (b0 : Nat) (x0 : Nat) (x1 : Int32) : mo_Met l yX11_reset [Cond.code yX11_reset cX11_reset 3 none] 0 0 D dA b0 [.ref x0, .int x1] (fun _ : Unit => none) (F_X11_reset x0 x1) := by
  refine mo_MetOf (own := RX11) (by decide) (Nat.le_of_ble_eq_true rfl) [(0, .ref x0), (1, .int x1)] rfl rfl ?_
  intro p e R s m args below meth c Q h0 h2 z ls hQ C hml hr hlocks hnm hfr hlo hF A hl
  have hx := C.1
  have hb := C.2.1
  have hown := C.2.2.1
  have hts := C.2.2.2.1
  have hK := C.2.2.2.2.1
  have iX11 := inlX11
  have J210 : ∀   (x0 : Nat) (x1 : Int32) (h : mo_H) (H : Heap) (locs : List Loc) (ls : Array Slot), mo_A D dA b0 s.heap h0 h H locs → lv_has ls 3 [(0, .ref x0), (1, .int x1)] → (F_X11_reset_210 x0 x1).1 h = some (z, h2) → W p l e R s m args below meth c H locs (h.2.1 - h0.2.1) (h.2.2 - h0.2.2) Q (F0 m 210 ls []) := by
    intro  x0 x1 h H locs ls A hl hF
    unfold F_X11_reset_210 at hF
    refine lv_aload_n hx hb dX11_reset_210 rfl (lv_at hl 0 rfl) ?_
    refine mo_wR C A (T := TX11) iX11 rfl 44 (by decide) tb_162 rfl dX11_reset_211 hF (fun v1 hF => ?_)
    refine lv_iload_n hx hb dX11_reset_214 rfl (lv_at hl 1 rfl) ?_
    refine lv_iconst (v := (0 : Int32)) hx hb dX11_reset_215 (by decide) ?_
    refine mo_wsa C A dX11_reset_216 hF (fun h H locs hF A => ?_)
    refine lv_aload_n hx hb dX11_reset_217 rfl (lv_at hl 0 rfl) ?_
    refine mo_wR C A (T := TX11) iX11 rfl 45 (by decide) tb_163 rfl dX11_reset_218 hF (fun v2 hF => ?_)
    refine lv_iload_n hx hb dX11_reset_221 rfl (lv_at hl 1 rfl) ?_
    refine lv_iconst (v := (0 : Int32)) hx hb dX11_reset_222 (by decide) ?_
    refine mo_wsa C A dX11_reset_223 hF (fun h H locs hF A => ?_)
    refine lv_aload_n hx hb dX11_reset_224 rfl (lv_at hl 0 rfl) ?_
    refine mo_wR C A (T := TX11) iX11 rfl 46 (by decide) tb_164 rfl dX11_reset_225 hF (fun v3 hF => ?_)
    refine lv_iload_n hx hb dX11_reset_228 rfl (lv_at hl 1 rfl) ?_
    refine lv_iconst (v := (0 : Int32)) hx hb dX11_reset_229 (by decide) ?_
    refine mo_wsa C A dX11_reset_230 hF (fun h H locs hF A => ?_)
    refine lv_aload_n hx hb dX11_reset_231 rfl (lv_at hl 0 rfl) ?_
    refine mo_wR C A (T := TX11) iX11 rfl 47 (by decide) tb_165 rfl dX11_reset_232 hF (fun v4 hF => ?_)
    refine lv_iload_n hx hb dX11_reset_235 rfl (lv_at hl 1 rfl) ?_
    refine lv_iconst (v := (0 : Int32)) hx hb dX11_reset_236 (by decide) ?_
    refine mo_wsa C A dX11_reset_237 hF (fun h H locs hF A => ?_)
    refine lv_aload_n hx hb dX11_reset_238 rfl (lv_at hl 0 rfl) ?_
    refine mo_wR C A (T := TX11) iX11 rfl 48 (by decide) tb_166 rfl dX11_reset_239 hF (fun v5 hF => ?_)
    refine lv_iload_n hx hb dX11_reset_242 rfl (lv_at hl 1 rfl) ?_
    refine lv_aload_n hx hb dX11_reset_243 rfl (lv_at hl 0 rfl) ?_
    refine mo_wR C A (T := TX11) iX11 rfl 11 (by decide) tb_130 rfl dX11_reset_244 hF (fun v6 hF => ?_)
    refine lv_iconst (v := (0 : Int32)) hx hb dX11_reset_247 (by decide) ?_
    refine mo_wla C A dX11_reset_248 hF (fun v7 hF => ?_)
    refine mo_wsa C A dX11_reset_249 hF (fun h H locs hF A => ?_)
    refine lv_aload_n hx hb dX11_reset_250 rfl (lv_at hl 0 rfl) ?_
    refine mo_wR C A (T := TX11) iX11 rfl 49 (by decide) tb_167 rfl dX11_reset_251 hF (fun v8 hF => ?_)
    refine lv_iload_n hx hb dX11_reset_254 rfl (lv_at hl 1 rfl) ?_
    refine lv_iconst (v := (0 : Int32)) hx hb dX11_reset_255 (by decide) ?_
    refine mo_wsa C A dX11_reset_256 hF (fun h H locs hF A => ?_)
    refine lv_aload_n hx hb dX11_reset_257 rfl (lv_at hl 0 rfl) ?_
    refine mo_wR C A (T := TX11) iX11 rfl 50 (by decide) tb_168 rfl dX11_reset_258 hF (fun v9 hF => ?_)
    refine lv_iload_n hx hb dX11_reset_261 rfl (lv_at hl 1 rfl) ?_
    refine lv_iconst (v := (1 : Int32)) hx hb dX11_reset_262 (by decide) ?_
    refine mo_wsz C A dX11_reset_263 hF (fun h H locs hF A => ?_)
    refine lv_aload_n hx hb dX11_reset_264 rfl (lv_at hl 0 rfl) ?_
    refine mo_wR C A (T := TX11) iX11 rfl 51 (by decide) tb_169 rfl dX11_reset_265 hF (fun v10 hF => ?_)
    refine lv_iload_n hx hb dX11_reset_268 rfl (lv_at hl 1 rfl) ?_
    refine lv_iconst (v := (0 : Int32)) hx hb dX11_reset_269 (by decide) ?_
    refine mo_wsz C A dX11_reset_270 hF (fun h H locs hF A => ?_)
    rw [hQ]
    exact mo_vret C A hr hlocks dX11_reset_271 hF
  have J151 : ∀   (fu : Nat) (x0 : Nat) (x1 : Int32) (x2 : Int32) (h : mo_H) (H : Heap) (locs : List Loc) (ls : Array Slot), mo_A D dA b0 s.heap h0 h H locs → lv_has ls 3 [(0, .ref x0), (1, .int x1), (2, .int x2)] → (F_X11_reset_151 fu x0 x1 x2).1 h = some (z, h2) → W p l e R s m args below meth c H locs (h.2.1 - h0.2.1) (h.2.2 - h0.2.2) Q (F0 m 151 ls []) := by
    intro  fu
    induction fu with
    | zero =>
      intro x0 x1 x2 h H locs ls A hl hF
      unfold F_X11_reset_151 at hF
      cases hF
    | succ fu ih =>
      intro x0 x1 x2 h H locs ls A hl hF
      unfold F_X11_reset_151 at hF
      refine lv_iload_n hx hb dX11_reset_151 rfl (lv_at hl 2 rfl) ?_
      refine lv_bipush (v := (12 : Int32)) hx hb dX11_reset_152 (by decide) ?_
      refine lv_iload_n hx hb dX11_reset_154 rfl (lv_at hl 1 rfl) ?_
      refine lv_imul hx hb dX11_reset_155 ?_
      refine lv_bipush (v := (12 : Int32)) hx hb dX11_reset_156 (by decide) ?_
      refine lv_iadd hx hb dX11_reset_158 ?_
      refine lv_icmp_ge (tgt := 210) hx hb dX11_reset_159 (by decide) (fun c11 => ?_) (fun c11 => ?_)
      · have hF := mo_ifT c11 hF
        exact J210 x0 x1 h H locs ls A (lv_sub hl [0, 1] rfl) hF
      · have hF := mo_ifF c11 hF
        refine lv_aload_n hx hb dX11_reset_162 rfl (lv_at hl 0 rfl) ?_
        refine mo_wR C A (T := TX11) iX11 rfl 32 (by decide) tb_149 rfl dX11_reset_163 hF (fun v12 hF => ?_)
        refine lv_iload_n hx hb dX11_reset_166 rfl (lv_at hl 2 rfl) ?_
        refine lv_iconst (v := (0 : Int32)) hx hb dX11_reset_167 (by decide) ?_
        refine mo_wsa C A dX11_reset_168 hF (fun h H locs hF A => ?_)
        refine lv_aload_n hx hb dX11_reset_169 rfl (lv_at hl 0 rfl) ?_
        refine mo_wR C A (T := TX11) iX11 rfl 35 (by decide) tb_152 rfl dX11_reset_170 hF (fun v13 hF => ?_)
        refine lv_iload_n hx hb dX11_reset_173 rfl (lv_at hl 2 rfl) ?_
        refine lv_iconst (v := (0 : Int32)) hx hb dX11_reset_174 (by decide) ?_
        refine mo_wsa C A dX11_reset_175 hF (fun h H locs hF A => ?_)
        refine lv_aload_n hx hb dX11_reset_176 rfl (lv_at hl 0 rfl) ?_
        refine mo_wR C A (T := TX11) iX11 rfl 36 (by decide) tb_153 rfl dX11_reset_177 hF (fun v14 hF => ?_)
        refine lv_iload_n hx hb dX11_reset_180 rfl (lv_at hl 2 rfl) ?_
        refine lv_iconst (v := (0 : Int32)) hx hb dX11_reset_181 (by decide) ?_
        refine mo_wsa C A dX11_reset_182 hF (fun h H locs hF A => ?_)
        refine lv_aload_n hx hb dX11_reset_183 rfl (lv_at hl 0 rfl) ?_
        refine mo_wR C A (T := TX11) iX11 rfl 37 (by decide) tb_154 rfl dX11_reset_184 hF (fun v15 hF => ?_)
        refine lv_iload_n hx hb dX11_reset_187 rfl (lv_at hl 2 rfl) ?_
        refine lv_iconst (v := (0 : Int32)) hx hb dX11_reset_188 (by decide) ?_
        refine mo_wsa C A dX11_reset_189 hF (fun h H locs hF A => ?_)
        refine lv_aload_n hx hb dX11_reset_190 rfl (lv_at hl 0 rfl) ?_
        refine mo_wR C A (T := TX11) iX11 rfl 39 (by decide) tb_156 rfl dX11_reset_191 hF (fun v16 hF => ?_)
        refine lv_iload_n hx hb dX11_reset_194 rfl (lv_at hl 2 rfl) ?_
        refine lv_iconst (v := (0 : Int32)) hx hb dX11_reset_195 (by decide) ?_
        refine mo_wsa C A dX11_reset_196 hF (fun h H locs hF A => ?_)
        refine lv_aload_n hx hb dX11_reset_197 rfl (lv_at hl 0 rfl) ?_
        refine mo_wR C A (T := TX11) iX11 rfl 40 (by decide) tb_157 rfl dX11_reset_198 hF (fun v17 hF => ?_)
        refine lv_iload_n hx hb dX11_reset_201 rfl (lv_at hl 2 rfl) ?_
        refine lv_iconst (v := (0 : Int32)) hx hb dX11_reset_202 (by decide) ?_
        refine mo_wsa C A dX11_reset_203 hF (fun h H locs hF A => ?_)
        refine lv_iinc (v := (x2 + (1 : Int32))) (lv' := [(2, .int (x2 + (1 : Int32))), (0, .ref x0), (1, .int x1)]) hx hb dX11_reset_204 hl (k := 2) rfl rfl (by decide) rfl (fun ls hl => ?_)
        refine lv_goto (tgt := 151) hx hb dX11_reset_207 (by decide) ?_
        exact ih x0 x1 (x2 + (1 : Int32)) h H locs ls A (lv_sub hl [1, 2, 0] rfl) hF
  have J146 : ∀   (x0 : Nat) (x1 : Int32) (h : mo_H) (H : Heap) (locs : List Loc) (ls : Array Slot), mo_A D dA b0 s.heap h0 h H locs → lv_has ls 3 [(0, .ref x0), (1, .int x1)] → (F_X11_reset_146 x0 x1).1 h = some (z, h2) → W p l e R s m args below meth c H locs (h.2.1 - h0.2.1) (h.2.2 - h0.2.2) Q (F0 m 146 ls []) := by
    intro  x0 x1 h H locs ls A hl hF
    unfold F_X11_reset_146 at hF
    refine lv_bipush (v := (12 : Int32)) hx hb dX11_reset_146 (by decide) ?_
    refine lv_iload_n hx hb dX11_reset_148 rfl (lv_at hl 1 rfl) ?_
    refine lv_imul hx hb dX11_reset_149 ?_
    refine lv_istore_n (lv' := [(2, .int ((12 : Int32) * x1)), (0, .ref x0), (1, .int x1)]) hx hb dX11_reset_150 rfl hl (by decide) rfl (fun ls hl => ?_)
    exact J151 mo_fu x0 x1 ((12 : Int32) * x1) h H locs ls A (lv_sub hl [1, 2, 0] rfl) hF
  have J80 : ∀   (fu : Nat) (x0 : Nat) (x1 : Int32) (x2 : Int32) (h : mo_H) (H : Heap) (locs : List Loc) (ls : Array Slot), mo_A D dA b0 s.heap h0 h H locs → lv_has ls 3 [(0, .ref x0), (1, .int x1), (2, .int x2)] → (F_X11_reset_80 fu x0 x1 x2).1 h = some (z, h2) → W p l e R s m args below meth c H locs (h.2.1 - h0.2.1) (h.2.2 - h0.2.2) Q (F0 m 80 ls []) := by
    intro  fu
    induction fu with
    | zero =>
      intro x0 x1 x2 h H locs ls A hl hF
      unfold F_X11_reset_80 at hF
      cases hF
    | succ fu ih =>
      intro x0 x1 x2 h H locs ls A hl hF
      unfold F_X11_reset_80 at hF
      refine lv_iload_n hx hb dX11_reset_80 rfl (lv_at hl 2 rfl) ?_
      refine lv_bipush (v := (6 : Int32)) hx hb dX11_reset_81 (by decide) ?_
      refine lv_iload_n hx hb dX11_reset_83 rfl (lv_at hl 1 rfl) ?_
      refine lv_imul hx hb dX11_reset_84 ?_
      refine lv_bipush (v := (6 : Int32)) hx hb dX11_reset_85 (by decide) ?_
      refine lv_iadd hx hb dX11_reset_87 ?_
      refine lv_icmp_ge (tgt := 146) hx hb dX11_reset_88 (by decide) (fun c18 => ?_) (fun c18 => ?_)
      · have hF := mo_ifT c18 hF
        exact J146 x0 x1 h H locs ls A (lv_sub hl [0, 1] rfl) hF
      · have hF := mo_ifF c18 hF
        refine lv_aload_n hx hb dX11_reset_91 rfl (lv_at hl 0 rfl) ?_
        refine mo_wR C A (T := TX11) iX11 rfl 21 (by decide) tb_138 rfl dX11_reset_92 hF (fun v19 hF => ?_)
        refine lv_iload_n hx hb dX11_reset_95 rfl (lv_at hl 2 rfl) ?_
        refine lv_iconst (v := (0 : Int32)) hx hb dX11_reset_96 (by decide) ?_
        refine mo_wsa C A dX11_reset_97 hF (fun h H locs hF A => ?_)
        refine lv_aload_n hx hb dX11_reset_98 rfl (lv_at hl 0 rfl) ?_
        refine mo_wR C A (T := TX11) iX11 rfl 22 (by decide) tb_139 rfl dX11_reset_99 hF (fun v20 hF => ?_)
        refine lv_iload_n hx hb dX11_reset_102 rfl (lv_at hl 2 rfl) ?_
        refine lv_iconst (v := (0 : Int32)) hx hb dX11_reset_103 (by decide) ?_
        refine mo_wsa C A dX11_reset_104 hF (fun h H locs hF A => ?_)
        refine lv_aload_n hx hb dX11_reset_105 rfl (lv_at hl 0 rfl) ?_
        refine mo_wR C A (T := TX11) iX11 rfl 24 (by decide) tb_141 rfl dX11_reset_106 hF (fun v21 hF => ?_)
        refine lv_iload_n hx hb dX11_reset_109 rfl (lv_at hl 2 rfl) ?_
        refine lv_iconst (v := (0 : Int32)) hx hb dX11_reset_110 (by decide) ?_
        refine mo_wsa C A dX11_reset_111 hF (fun h H locs hF A => ?_)
        refine lv_aload_n hx hb dX11_reset_112 rfl (lv_at hl 0 rfl) ?_
        refine mo_wR C A (T := TX11) iX11 rfl 26 (by decide) tb_143 rfl dX11_reset_113 hF (fun v22 hF => ?_)
        refine lv_iload_n hx hb dX11_reset_116 rfl (lv_at hl 2 rfl) ?_
        refine lv_iconst (v := (0 : Int32)) hx hb dX11_reset_117 (by decide) ?_
        refine mo_wsa C A dX11_reset_118 hF (fun h H locs hF A => ?_)
        refine lv_aload_n hx hb dX11_reset_119 rfl (lv_at hl 0 rfl) ?_
        refine mo_wR C A (T := TX11) iX11 rfl 27 (by decide) tb_144 rfl dX11_reset_120 hF (fun v23 hF => ?_)
        refine lv_iload_n hx hb dX11_reset_123 rfl (lv_at hl 2 rfl) ?_
        refine lv_iconst (v := (0 : Int32)) hx hb dX11_reset_124 (by decide) ?_
        refine mo_wsa C A dX11_reset_125 hF (fun h H locs hF A => ?_)
        refine lv_aload_n hx hb dX11_reset_126 rfl (lv_at hl 0 rfl) ?_
        refine mo_wR C A (T := TX11) iX11 rfl 28 (by decide) tb_145 rfl dX11_reset_127 hF (fun v24 hF => ?_)
        refine lv_iload_n hx hb dX11_reset_130 rfl (lv_at hl 2 rfl) ?_
        refine lv_iconst (v := (0 : Int32)) hx hb dX11_reset_131 (by decide) ?_
        refine mo_wsa C A dX11_reset_132 hF (fun h H locs hF A => ?_)
        refine lv_aload_n hx hb dX11_reset_133 rfl (lv_at hl 0 rfl) ?_
        refine mo_wR C A (T := TX11) iX11 rfl 29 (by decide) tb_146 rfl dX11_reset_134 hF (fun v25 hF => ?_)
        refine lv_iload_n hx hb dX11_reset_137 rfl (lv_at hl 2 rfl) ?_
        refine lv_iconst (v := (0 : Int32)) hx hb dX11_reset_138 (by decide) ?_
        refine mo_wsa C A dX11_reset_139 hF (fun h H locs hF A => ?_)
        refine lv_iinc (v := (x2 + (1 : Int32))) (lv' := [(2, .int (x2 + (1 : Int32))), (0, .ref x0), (1, .int x1)]) hx hb dX11_reset_140 hl (k := 2) rfl rfl (by decide) rfl (fun ls hl => ?_)
        refine lv_goto (tgt := 80) hx hb dX11_reset_143 (by decide) ?_
        exact ih x0 x1 (x2 + (1 : Int32)) h H locs ls A (lv_sub hl [1, 2, 0] rfl) hF
  have J75 : ∀   (x0 : Nat) (x1 : Int32) (h : mo_H) (H : Heap) (locs : List Loc) (ls : Array Slot), mo_A D dA b0 s.heap h0 h H locs → lv_has ls 3 [(0, .ref x0), (1, .int x1)] → (F_X11_reset_75 x0 x1).1 h = some (z, h2) → W p l e R s m args below meth c H locs (h.2.1 - h0.2.1) (h.2.2 - h0.2.2) Q (F0 m 75 ls []) := by
    intro  x0 x1 h H locs ls A hl hF
    unfold F_X11_reset_75 at hF
    refine lv_bipush (v := (6 : Int32)) hx hb dX11_reset_75 (by decide) ?_
    refine lv_iload_n hx hb dX11_reset_77 rfl (lv_at hl 1 rfl) ?_
    refine lv_imul hx hb dX11_reset_78 ?_
    refine lv_istore_n (lv' := [(2, .int ((6 : Int32) * x1)), (0, .ref x0), (1, .int x1)]) hx hb dX11_reset_79 rfl hl (by decide) rfl (fun ls hl => ?_)
    exact J80 mo_fu x0 x1 ((6 : Int32) * x1) h H locs ls A (lv_sub hl [1, 2, 0] rfl) hF
  have J49 : ∀   (fu : Nat) (x0 : Nat) (x1 : Int32) (x2 : Int32) (h : mo_H) (H : Heap) (locs : List Loc) (ls : Array Slot), mo_A D dA b0 s.heap h0 h H locs → lv_has ls 3 [(0, .ref x0), (1, .int x1), (2, .int x2)] → (F_X11_reset_49 fu x0 x1 x2).1 h = some (z, h2) → W p l e R s m args below meth c H locs (h.2.1 - h0.2.1) (h.2.2 - h0.2.2) Q (F0 m 49 ls []) := by
    intro  fu
    induction fu with
    | zero =>
      intro x0 x1 x2 h H locs ls A hl hF
      unfold F_X11_reset_49 at hF
      cases hF
    | succ fu ih =>
      intro x0 x1 x2 h H locs ls A hl hF
      unfold F_X11_reset_49 at hF
      refine lv_iload_n hx hb dX11_reset_49 rfl (lv_at hl 2 rfl) ?_
      refine lv_sipush (v := (192 : Int32)) hx hb dX11_reset_50 (by decide) ?_
      refine lv_iload_n hx hb dX11_reset_53 rfl (lv_at hl 1 rfl) ?_
      refine lv_imul hx hb dX11_reset_54 ?_
      refine lv_sipush (v := (192 : Int32)) hx hb dX11_reset_55 (by decide) ?_
      refine lv_iadd hx hb dX11_reset_58 ?_
      refine lv_icmp_ge (tgt := 75) hx hb dX11_reset_59 (by decide) (fun c26 => ?_) (fun c26 => ?_)
      · have hF := mo_ifT c26 hF
        exact J75 x0 x1 h H locs ls A (lv_sub hl [0, 1] rfl) hF
      · have hF := mo_ifF c26 hF
        refine lv_aload_n hx hb dX11_reset_62 rfl (lv_at hl 0 rfl) ?_
        refine mo_wR C A (T := TX11) iX11 rfl 20 (by decide) tb_137 rfl dX11_reset_63 hF (fun v27 hF => ?_)
        refine lv_iload_n hx hb dX11_reset_66 rfl (lv_at hl 2 rfl) ?_
        refine lv_iconst (v := (0 : Int32)) hx hb dX11_reset_67 (by decide) ?_
        refine mo_wsa C A dX11_reset_68 hF (fun h H locs hF A => ?_)
        refine lv_iinc (v := (x2 + (1 : Int32))) (lv' := [(2, .int (x2 + (1 : Int32))), (0, .ref x0), (1, .int x1)]) hx hb dX11_reset_69 hl (k := 2) rfl rfl (by decide) rfl (fun ls hl => ?_)
        refine lv_goto (tgt := 49) hx hb dX11_reset_72 (by decide) ?_
        exact ih x0 x1 (x2 + (1 : Int32)) h H locs ls A (lv_sub hl [1, 2, 0] rfl) hF
  have J43 : ∀   (x0 : Nat) (x1 : Int32) (h : mo_H) (H : Heap) (locs : List Loc) (ls : Array Slot), mo_A D dA b0 s.heap h0 h H locs → lv_has ls 3 [(0, .ref x0), (1, .int x1)] → (F_X11_reset_43 x0 x1).1 h = some (z, h2) → W p l e R s m args below meth c H locs (h.2.1 - h0.2.1) (h.2.2 - h0.2.2) Q (F0 m 43 ls []) := by
    intro  x0 x1 h H locs ls A hl hF
    unfold F_X11_reset_43 at hF
    refine lv_sipush (v := (192 : Int32)) hx hb dX11_reset_43 (by decide) ?_
    refine lv_iload_n hx hb dX11_reset_46 rfl (lv_at hl 1 rfl) ?_
    refine lv_imul hx hb dX11_reset_47 ?_
    refine lv_istore_n (lv' := [(2, .int ((192 : Int32) * x1)), (0, .ref x0), (1, .int x1)]) hx hb dX11_reset_48 rfl hl (by decide) rfl (fun ls hl => ?_)
    exact J49 mo_fu x0 x1 ((192 : Int32) * x1) h H locs ls A (lv_sub hl [1, 2, 0] rfl) hF
  have J5 : ∀   (fu : Nat) (x0 : Nat) (x1 : Int32) (x2 : Int32) (h : mo_H) (H : Heap) (locs : List Loc) (ls : Array Slot), mo_A D dA b0 s.heap h0 h H locs → lv_has ls 3 [(0, .ref x0), (1, .int x1), (2, .int x2)] → (F_X11_reset_5 fu x0 x1 x2).1 h = some (z, h2) → W p l e R s m args below meth c H locs (h.2.1 - h0.2.1) (h.2.2 - h0.2.2) Q (F0 m 5 ls []) := by
    intro  fu
    induction fu with
    | zero =>
      intro x0 x1 x2 h H locs ls A hl hF
      unfold F_X11_reset_5 at hF
      cases hF
    | succ fu ih =>
      intro x0 x1 x2 h H locs ls A hl hF
      unfold F_X11_reset_5 at hF
      refine lv_iload_n hx hb dX11_reset_5 rfl (lv_at hl 2 rfl) ?_
      refine lv_bipush (v := (48 : Int32)) hx hb dX11_reset_6 (by decide) ?_
      refine lv_iload_n hx hb dX11_reset_8 rfl (lv_at hl 1 rfl) ?_
      refine lv_imul hx hb dX11_reset_9 ?_
      refine lv_bipush (v := (48 : Int32)) hx hb dX11_reset_10 (by decide) ?_
      refine lv_iadd hx hb dX11_reset_12 ?_
      refine lv_icmp_ge (tgt := 43) hx hb dX11_reset_13 (by decide) (fun c28 => ?_) (fun c28 => ?_)
      · have hF := mo_ifT c28 hF
        exact J43 x0 x1 h H locs ls A (lv_sub hl [0, 1] rfl) hF
      · have hF := mo_ifF c28 hF
        refine lv_aload_n hx hb dX11_reset_16 rfl (lv_at hl 0 rfl) ?_
        refine mo_wR C A (T := TX11) iX11 rfl 19 (by decide) tb_136 rfl dX11_reset_17 hF (fun v29 hF => ?_)
        refine lv_iload_n hx hb dX11_reset_20 rfl (lv_at hl 2 rfl) ?_
        refine lv_iconst (v := (0 : Int32)) hx hb dX11_reset_21 (by decide) ?_
        refine mo_wsa C A dX11_reset_22 hF (fun h H locs hF A => ?_)
        refine lv_aload_n hx hb dX11_reset_23 rfl (lv_at hl 0 rfl) ?_
        refine mo_wR C A (T := TX11) iX11 rfl 23 (by decide) tb_140 rfl dX11_reset_24 hF (fun v30 hF => ?_)
        refine lv_iload_n hx hb dX11_reset_27 rfl (lv_at hl 2 rfl) ?_
        refine lv_iconst (v := (0 : Int32)) hx hb dX11_reset_28 (by decide) ?_
        refine mo_wsa C A dX11_reset_29 hF (fun h H locs hF A => ?_)
        refine lv_aload_n hx hb dX11_reset_30 rfl (lv_at hl 0 rfl) ?_
        refine mo_wR C A (T := TX11) iX11 rfl 38 (by decide) tb_155 rfl dX11_reset_31 hF (fun v31 hF => ?_)
        refine lv_iload_n hx hb dX11_reset_34 rfl (lv_at hl 2 rfl) ?_
        refine lv_iconst (v := (0 : Int32)) hx hb dX11_reset_35 (by decide) ?_
        refine mo_wsa C A dX11_reset_36 hF (fun h H locs hF A => ?_)
        refine lv_iinc (v := (x2 + (1 : Int32))) (lv' := [(2, .int (x2 + (1 : Int32))), (0, .ref x0), (1, .int x1)]) hx hb dX11_reset_37 hl (k := 2) rfl rfl (by decide) rfl (fun ls hl => ?_)
        refine lv_goto (tgt := 5) hx hb dX11_reset_40 (by decide) ?_
        exact ih x0 x1 (x2 + (1 : Int32)) h H locs ls A (lv_sub hl [1, 2, 0] rfl) hF
  unfold F_X11_reset at hF
  obtain ⟨-, hF⟩ := mo_ckE hF
  have E : ∀ (h : mo_H) (H : Heap) (locs : List Loc), (F_X11_reset_5 mo_fu x0 x1 ((48 : Int32) * x1)).1 h = some (z, h2) → mo_A D dA b0 s.heap h0 h H locs → W p l e R s m args below meth c H locs (h.2.1 - h0.2.1) (h.2.2 - h0.2.2) Q (F0 m 0 ls []) := by
    intro h H locs hF A
    refine lv_bipush (v := (48 : Int32)) hx hb dX11_reset_0 (by decide) ?_
    refine lv_iload_n hx hb dX11_reset_2 rfl (lv_at hl 1 rfl) ?_
    refine lv_imul hx hb dX11_reset_3 ?_
    refine lv_istore_n (lv' := [(2, .int ((48 : Int32) * x1)), (0, .ref x0), (1, .int x1)]) hx hb dX11_reset_4 rfl hl (by decide) rfl (fun ls hl => ?_)
    exact J5 mo_fu x0 x1 ((48 : Int32) * x1) h H locs ls A (lv_sub hl [1, 2, 0] rfl) hF
  exact E h0 s.heap [] hF A
