set_option maxHeartbeats 4000000 in
set_option maxRecDepth 100000 in
theorem c_X11_take (l : Launch) (D : va_G) (dA : Nat → ClassId) (b0 : Nat) (x0 : Nat) (x1 : Int32) (x2 : Int32) : mo_Met l yX11_take [Cond.code yX11_take cX11_take 4 none] 0 0 D dA b0 [.ref x0, .int x1, .int x2] (fun _ : Unit => none) (F_X11_take x0 x1 x2) := by
  refine mo_MetOf (own := RX11) (by decide) (Nat.le_of_ble_eq_true rfl) [(0, .ref x0), (1, .int x1), (2, .int x2)] rfl rfl ?_
  intro p e R s m args below meth c Q h0 h2 z ls hQ C hml hr hlocks hnm hfr hlo hF A hl
  have hx := C.1
  have hb := C.2.1
  have hown := C.2.2.1
  have hts := C.2.2.2.1
  have hK := C.2.2.2.2.1
  have iX11 := inlX11
  have J63 : ∀   (fu : Nat) (x0 : Nat) (x1 : Int32) (x3 : Int32) (h : mo_H) (H : Heap) (locs : List Loc) (ls : Array Slot), mo_A D dA b0 s.heap h0 h H locs → lv_has ls 4 [(0, .ref x0), (1, .int x1), (3, .int x3)] → (F_X11_take_63 fu x0 x1 x3).1 h = some (z, h2) → W p l e R s m args below meth c H locs (h.2.1 - h0.2.1) (h.2.2 - h0.2.2) Q (F0 m 63 ls []) := by
    intro  fu
    induction fu with
    | zero =>
      intro x0 x1 x3 h H locs ls A hl hF
      unfold F_X11_take_63 at hF
      cases hF
    | succ fu ih =>
      intro x0 x1 x3 h H locs ls A hl hF
      unfold F_X11_take_63 at hF
      refine lv_iload_n hx hb dX11_take_63 rfl (lv_at hl 2 rfl) ?_
      refine lv_aload_n hx hb dX11_take_64 rfl (lv_at hl 0 rfl) ?_
      refine mo_wR C A (T := TX11) iX11 rfl 24 (by decide) tb_141 rfl dX11_take_65 hF (fun v1 hF => ?_)
      refine lv_iload_n hx hb dX11_take_68 rfl (lv_at hl 1 rfl) ?_
      refine mo_wla C A dX11_take_69 hF (fun v2 hF => ?_)
      refine lv_icmp_ge (tgt := 103) hx hb dX11_take_70 (by decide) (fun c3 => ?_) (fun c3 => ?_)
      · have hF := mo_ifT c3 hF
        rw [hQ]
        exact mo_vret C A hr hlocks dX11_take_103 hF
      · have hF := mo_ifF c3 hF
        refine lv_aload_n hx hb dX11_take_73 rfl (lv_at hl 0 rfl) ?_
        refine mo_wR C A (T := TX11) iX11 rfl 23 (by decide) tb_140 rfl dX11_take_74 hF (fun v4 hF => ?_)
        refine lv_bipush (v := (8 : Int32)) hx hb dX11_take_77 (by decide) ?_
        refine lv_iload_n hx hb dX11_take_79 rfl (lv_at hl 1 rfl) ?_
        refine lv_imul hx hb dX11_take_80 ?_
        refine lv_iload_n hx hb dX11_take_81 rfl (lv_at hl 2 rfl) ?_
        refine lv_iadd hx hb dX11_take_82 ?_
        refine lv_aload_n hx hb dX11_take_83 rfl (lv_at hl 0 rfl) ?_
        refine mo_wR C A (T := TX11) iX11 rfl 23 (by decide) tb_140 rfl dX11_take_84 hF (fun v5 hF => ?_)
        refine lv_bipush (v := (8 : Int32)) hx hb dX11_take_87 (by decide) ?_
        refine lv_iload_n hx hb dX11_take_89 rfl (lv_at hl 1 rfl) ?_
        refine lv_imul hx hb dX11_take_90 ?_
        refine lv_iload_n hx hb dX11_take_91 rfl (lv_at hl 2 rfl) ?_
        refine lv_iadd hx hb dX11_take_92 ?_
        refine lv_iconst (v := (1 : Int32)) hx hb dX11_take_93 (by decide) ?_
        refine lv_iadd hx hb dX11_take_94 ?_
        refine mo_wla C A dX11_take_95 hF (fun v6 hF => ?_)
        refine mo_wsa C A dX11_take_96 hF (fun h H locs hF A => ?_)
        refine lv_iinc (v := (x3 + (1 : Int32))) (lv' := [(3, .int (x3 + (1 : Int32))), (0, .ref x0), (1, .int x1)]) hx hb dX11_take_97 hl (k := 2) rfl rfl (by decide) rfl (fun ls hl => ?_)
        refine lv_goto (tgt := 63) hx hb dX11_take_100 (by decide) ?_
        exact ih x0 x1 (x3 + (1 : Int32)) h H locs ls A (lv_sub hl [1, 2, 0] rfl) hF
  unfold F_X11_take at hF
  obtain ⟨-, hF⟩ := mo_ckE hF
  have E : ∀ (h : mo_H) (H : Heap) (locs : List Loc), (mo_b (mo_gR x0 11 24) fun v7 => mo_b (mo_la 0 v7 x1) fun v8 => (if v8 = 0 then mo_b (mo_gR x0 11 19) fun v16 => mo_b (mo_sa 0 v16 (((8 : Int32) * x1) + (7 : Int32)) (0 : Int32)) fun _ => mo_ret () else mo_b (mo_gR x0 11 19) fun v10 => mo_b (mo_gR x0 11 23) fun v11 => mo_b (mo_la 0 v11 ((8 : Int32) * x1)) fun v12 => mo_b (mo_sa 0 v10 x2 v12) fun _ => mo_b (mo_gR x0 11 19) fun v13 => mo_b (mo_sa 0 v13 (((8 : Int32) * x1) + (7 : Int32)) (1 : Int32)) fun _ => mo_b (mo_gR x0 11 24) fun v14 => mo_b (mo_la 0 v14 x1) fun v15 => mo_b (mo_sa 0 v14 x1 (v15 - (1 : Int32))) fun _ => F_X11_take_63 mo_fu x0 x1 (0 : Int32))).1 h = some (z, h2) → mo_A D dA b0 s.heap h0 h H locs → W p l e R s m args below meth c H locs (h.2.1 - h0.2.1) (h.2.2 - h0.2.2) Q (F0 m 0 ls []) := by
    intro h H locs hF A
    refine lv_aload_n hx hb dX11_take_0 rfl (lv_at hl 0 rfl) ?_
    refine mo_wR C A (T := TX11) iX11 rfl 24 (by decide) tb_141 rfl dX11_take_1 hF (fun v7 hF => ?_)
    refine lv_iload_n hx hb dX11_take_4 rfl (lv_at hl 1 rfl) ?_
    refine mo_wla C A dX11_take_5 hF (fun v8 hF => ?_)
    refine lv_if_ne (tgt := 23) hx hb dX11_take_6 (by decide) (fun c9 => ?_) (fun c9 => ?_)
    · have hF := mo_ifF c9 hF
      refine lv_aload_n hx hb dX11_take_23 rfl (lv_at hl 0 rfl) ?_
      refine mo_wR C A (T := TX11) iX11 rfl 19 (by decide) tb_136 rfl dX11_take_24 hF (fun v10 hF => ?_)
      refine lv_iload_n hx hb dX11_take_27 rfl (lv_at hl 2 rfl) ?_
      refine lv_aload_n hx hb dX11_take_28 rfl (lv_at hl 0 rfl) ?_
      refine mo_wR C A (T := TX11) iX11 rfl 23 (by decide) tb_140 rfl dX11_take_29 hF (fun v11 hF => ?_)
      refine lv_bipush (v := (8 : Int32)) hx hb dX11_take_32 (by decide) ?_
      refine lv_iload_n hx hb dX11_take_34 rfl (lv_at hl 1 rfl) ?_
      refine lv_imul hx hb dX11_take_35 ?_
      refine mo_wla C A dX11_take_36 hF (fun v12 hF => ?_)
      refine mo_wsa C A dX11_take_37 hF (fun h H locs hF A => ?_)
      refine lv_aload_n hx hb dX11_take_38 rfl (lv_at hl 0 rfl) ?_
      refine mo_wR C A (T := TX11) iX11 rfl 19 (by decide) tb_136 rfl dX11_take_39 hF (fun v13 hF => ?_)
      refine lv_bipush (v := (8 : Int32)) hx hb dX11_take_42 (by decide) ?_
      refine lv_iload_n hx hb dX11_take_44 rfl (lv_at hl 1 rfl) ?_
      refine lv_imul hx hb dX11_take_45 ?_
      refine lv_bipush (v := (7 : Int32)) hx hb dX11_take_46 (by decide) ?_
      refine lv_iadd hx hb dX11_take_48 ?_
      refine lv_iconst (v := (1 : Int32)) hx hb dX11_take_49 (by decide) ?_
      refine mo_wsa C A dX11_take_50 hF (fun h H locs hF A => ?_)
      refine lv_aload_n hx hb dX11_take_51 rfl (lv_at hl 0 rfl) ?_
      refine mo_wR C A (T := TX11) iX11 rfl 24 (by decide) tb_141 rfl dX11_take_52 hF (fun v14 hF => ?_)
      refine lv_iload_n hx hb dX11_take_55 rfl (lv_at hl 1 rfl) ?_
      refine lv_dup2_11 hx hb dX11_take_56 rfl rfl ?_
      refine mo_wla C A dX11_take_57 hF (fun v15 hF => ?_)
      refine lv_iconst (v := (1 : Int32)) hx hb dX11_take_58 (by decide) ?_
      refine lv_isub hx hb dX11_take_59 ?_
      refine mo_wsa C A dX11_take_60 hF (fun h H locs hF A => ?_)
      refine lv_iconst (v := (0 : Int32)) hx hb dX11_take_61 (by decide) ?_
      refine lv_istore_n (lv' := [(3, .int (0 : Int32)), (0, .ref x0), (1, .int x1), (2, .int x2)]) hx hb dX11_take_62 rfl hl (by decide) rfl (fun ls hl => ?_)
      exact J63 mo_fu x0 x1 (0 : Int32) h H locs ls A (lv_sub hl [1, 2, 0] rfl) hF
    · have hF := mo_ifT c9 hF
      refine lv_aload_n hx hb dX11_take_9 rfl (lv_at hl 0 rfl) ?_
      refine mo_wR C A (T := TX11) iX11 rfl 19 (by decide) tb_136 rfl dX11_take_10 hF (fun v16 hF => ?_)
      refine lv_bipush (v := (8 : Int32)) hx hb dX11_take_13 (by decide) ?_
      refine lv_iload_n hx hb dX11_take_15 rfl (lv_at hl 1 rfl) ?_
      refine lv_imul hx hb dX11_take_16 ?_
      refine lv_bipush (v := (7 : Int32)) hx hb dX11_take_17 (by decide) ?_
      refine lv_iadd hx hb dX11_take_19 ?_
      refine lv_iconst (v := (0 : Int32)) hx hb dX11_take_20 (by decide) ?_
      refine mo_wsa C A dX11_take_21 hF (fun h H locs hF A => ?_)
      rw [hQ]
      exact mo_vret C A hr hlocks dX11_take_22 hF
  exact E h0 s.heap [] hF A
set_option maxHeartbeats 4000000 in
set_option maxRecDepth 100000 in
theorem c_X11_does (l : Launch) (D : va_G) (dA : Nat → ClassId) (b0 : Nat) (x0 : Nat) (x1 : Int32) (x2 : Int32) (x3 : Int32) : mo_Met l yX11_does [Cond.code yX11_does cX11_does 15 (some .boolean)] 2 56 D dA b0 [.ref x0, .int x1, .int x2, .int x3] (fun r : Int32 => some (.int r)) (F_X11_does x0 x1 x2 x3) := by
  refine mo_MetOf (own := RX11) (by decide) (Nat.le_of_ble_eq_true rfl) [(0, .ref x0), (1, .int x1), (2, .int x2), (3, .int x3)] rfl rfl ?_
  intro p e R s m args below meth c Q h0 h2 z ls hQ C hml hr hlocks hnm hfr hlo hF A hl
  have hx := C.1
  have hb := C.2.1
  have hown := C.2.2.1
  have hts := C.2.2.2.1
  have hK := C.2.2.2.2.1
  have iX11 := inlX11
  have J737 : ∀   (x0 : Nat) (x4 : Int32) (h : mo_H) (H : Heap) (locs : List Loc) (ls : Array Slot), mo_A D dA b0 s.heap h0 h H locs → lv_has ls 15 [(0, .ref x0), (4, .int x4)] → (F_X11_does_737 x0 x4).1 h = some (z, h2) → W p l e R s m args below meth c H locs (h.2.1 - h0.2.1) (h.2.2 - h0.2.2) Q (F0 m 737 ls []) := by
    intro  x0 x4 h H locs ls A hl hF
    unfold F_X11_does_737 at hF
    refine lv_aload_n hx hb dX11_does_737 rfl (lv_at hl 0 rfl) ?_
    refine mo_wR C A (T := TX11) iX11 rfl 21 (by decide) tb_138 rfl dX11_does_738 hF (fun v1 hF => ?_)
    refine lv_iload hx hb dX11_does_741 (lv_at hl 1 rfl) ?_
    refine lv_dup2_11 hx hb dX11_does_743 rfl rfl ?_
    refine mo_wla C A dX11_does_744 hF (fun v2 hF => ?_)
    refine lv_iconst (v := (1 : Int32)) hx hb dX11_does_745 (by decide) ?_
    refine lv_iadd hx hb dX11_does_746 ?_
    refine mo_wsa C A dX11_does_747 hF (fun h H locs hF A => ?_)
    refine lv_iconst (v := (1 : Int32)) hx hb dX11_does_748 (by decide) ?_
    rw [hQ]
    exact mo_zret C A hr hlocks dX11_does_749 hF
  have J301 : ∀   (x0 : Nat) (x4 : Int32) (s0 : Nat) (s1 : Int32) (s2 : Int32) (h : mo_H) (H : Heap) (locs : List Loc) (ls : Array Slot), mo_A D dA b0 s.heap h0 h H locs → lv_has ls 15 [(0, .ref x0), (4, .int x4)] → (F_X11_does_301 x0 x4 s0 s1 s2).1 h = some (z, h2) → W p l e R s m args below meth c H locs (h.2.1 - h0.2.1) (h.2.2 - h0.2.2) Q (F0 m 301 ls [.int s2, .int s1, .ref s0]) := by
    intro  x0 x4 s0 s1 s2 h H locs ls A hl hF
    unfold F_X11_does_301 at hF
    refine mo_wsa C A dX11_does_301 hF (fun h H locs hF A => ?_)
    refine lv_goto (tgt := 737) hx hb dX11_does_302 (by decide) ?_
    exact J737 x0 x4 h H locs ls A (lv_sub hl [0, 1] rfl) hF
  have J410 : ∀   (x0 : Nat) (x4 : Int32) (s0 : Nat) (s1 : Int32) (s2 : Int32) (h : mo_H) (H : Heap) (locs : List Loc) (ls : Array Slot), mo_A D dA b0 s.heap h0 h H locs → lv_has ls 15 [(0, .ref x0), (4, .int x4)] → (F_X11_does_410 x0 x4 s0 s1 s2).1 h = some (z, h2) → W p l e R s m args below meth c H locs (h.2.1 - h0.2.1) (h.2.2 - h0.2.2) Q (F0 m 410 ls [.int s2, .int s1, .ref s0]) := by
    intro  x0 x4 s0 s1 s2 h H locs ls A hl hF
    unfold F_X11_does_410 at hF
    refine mo_wsa C A dX11_does_410 hF (fun h H locs hF A => ?_)
    refine lv_goto (tgt := 737) hx hb dX11_does_411 (by decide) ?_
    exact J737 x0 x4 h H locs ls A (lv_sub hl [0, 1] rfl) hF
  have J475 : ∀   (s0 : Nat) (s1 : Int32) (s2 : Int32) (h : mo_H) (H : Heap) (locs : List Loc) (ls : Array Slot), mo_A D dA b0 s.heap h0 h H locs → lv_has ls 15 [] → (F_X11_does_475 s0 s1 s2).1 h = some (z, h2) → W p l e R s m args below meth c H locs (h.2.1 - h0.2.1) (h.2.2 - h0.2.2) Q (F0 m 475 ls [.int s2, .int s1, .ref s0]) := by
    intro  s0 s1 s2 h H locs ls A hl hF
    unfold F_X11_does_475 at hF
    refine mo_wsa C A dX11_does_475 hF (fun h H locs hF A => ?_)
    refine lv_iconst (v := (1 : Int32)) hx hb dX11_does_476 (by decide) ?_
    rw [hQ]
    exact mo_zret C A hr hlocks dX11_does_477 hF
  have J458 : ∀   (x0 : Nat) (x4 : Int32) (x7 : Int32) (s0 : Nat) (s1 : Int32) (s2 : Int32) (s3 : Int32) (h : mo_H) (H : Heap) (locs : List Loc) (ls : Array Slot), mo_A D dA b0 s.heap h0 h H locs → lv_has ls 15 [(0, .ref x0), (4, .int x4), (7, .int x7)] → (F_X11_does_458 x0 x4 x7 s0 s1 s2 s3).1 h = some (z, h2) → W p l e R s m args below meth c H locs (h.2.1 - h0.2.1) (h.2.2 - h0.2.2) Q (F0 m 458 ls [.int s3, .int s2, .int s1, .ref s0]) := by
    intro  x0 x4 x7 s0 s1 s2 s3 h H locs ls A hl hF
    unfold F_X11_does_458 at hF
    refine lv_icmp_ne (tgt := 466) hx hb dX11_does_458 (by decide) (fun c3 => ?_) (fun c3 => ?_)
    · have hF := mo_ifF c3 hF
      refine lv_aload_n hx hb dX11_does_466 rfl (lv_at hl 0 rfl) ?_
      refine mo_wR C A (T := TX11) iX11 rfl 21 (by decide) tb_138 rfl dX11_does_467 hF (fun v4 hF => ?_)
      refine lv_iload hx hb dX11_does_470 (lv_at hl 1 rfl) ?_
      refine mo_wla C A dX11_does_472 hF (fun v5 hF => ?_)
      refine lv_iconst (v := (1 : Int32)) hx hb dX11_does_473 (by decide) ?_
      refine lv_iadd hx hb dX11_does_474 ?_
      exact J475 s0 s1 (v5 + (1 : Int32)) h H locs ls A (lv_sub hl [] rfl) hF
    · have hF := mo_ifT c3 hF
      refine lv_iload hx hb dX11_does_461 (lv_at hl 2 rfl) ?_
      refine lv_goto (tgt := 475) hx hb dX11_does_463 (by decide) ?_
      exact J475 s0 s1 x7 h H locs ls A (lv_sub hl [] rfl) hF
  have J446 : ∀   (x0 : Nat) (x4 : Int32) (x5 : Int32) (x7 : Int32) (s0 : Nat) (s1 : Int32) (s2 : Int32) (h : mo_H) (H : Heap) (locs : List Loc) (ls : Array Slot), mo_A D dA b0 s.heap h0 h H locs → lv_has ls 15 [(0, .ref x0), (4, .int x4), (5, .int x5), (7, .int x7)] → (F_X11_does_446 x0 x4 x5 x7 s0 s1 s2).1 h = some (z, h2) → W p l e R s m args below meth c H locs (h.2.1 - h0.2.1) (h.2.2 - h0.2.2) Q (F0 m 446 ls [.int s2, .int s1, .ref s0]) := by
    intro  x0 x4 x5 x7 s0 s1 s2 h H locs ls A hl hF
    unfold F_X11_does_446 at hF
    refine lv_iload hx hb dX11_does_446 (lv_at hl 2 rfl) ?_
    refine lv_bipush (v := (10 : Int32)) hx hb dX11_does_448 (by decide) ?_
    refine lv_icmp_ne (tgt := 457) hx hb dX11_does_450 (by decide) (fun c6 => ?_) (fun c6 => ?_)
    · have hF := mo_ifF c6 hF
      refine lv_iconst (v := (0 : Int32)) hx hb dX11_does_457 (by decide) ?_
      exact J458 x0 x4 x7 s0 s1 s2 (0 : Int32) h H locs ls A (lv_sub hl [0, 1, 3] rfl) hF
    · have hF := mo_ifT c6 hF
      refine lv_iconst (v := (1 : Int32)) hx hb dX11_does_453 (by decide) ?_
      refine lv_goto (tgt := 458) hx hb dX11_does_454 (by decide) ?_
      exact J458 x0 x4 x7 s0 s1 s2 (1 : Int32) h H locs ls A (lv_sub hl [0, 1, 3] rfl) hF
  have J138 : ∀   (x0 : Nat) (x1 : Int32) (x2 : Int32) (x4 : Int32) (x5 : Int32) (x6 : Int32) (x7 : Int32) (x8 : Int32) (x9 : Int32) (x12 : Int32) (x13 : Int32) (h : mo_H) (H : Heap) (locs : List Loc) (ls : Array Slot), mo_A D dA b0 s.heap h0 h H locs → lv_has ls 15 [(0, .ref x0), (1, .int x1), (2, .int x2), (4, .int x4), (5, .int x5), (6, .int x6), (7, .int x7), (8, .int x8), (9, .int x9), (12, .int x12), (13, .int x13)] → (F_X11_does_138 x0 x1 x2 x4 x5 x6 x7 x8 x9 x12 x13).1 h = some (z, h2) → W p l e R s m args below meth c H locs (h.2.1 - h0.2.1) (h.2.2 - h0.2.2) Q (F0 m 138 ls []) := by
    intro  x0 x1 x2 x4 x5 x6 x7 x8 x9 x12 x13 h H locs ls A hl hF
    unfold F_X11_does_138 at hF
    refine lv_iload hx hb dX11_does_138 (lv_at hl 4 rfl) ?_
    by_cases c7 : x5 = (0 : Int32)
    · have hF := mo_ifT c7 hF
      refine mo_tsI hx hb (0 : Int32) (tgt := 256) (off := 116) dX11_does_140 c7 (by decide) (by decide) rfl (by decide) ?_
      refine lv_aload_n hx hb dX11_does_256 rfl (lv_at hl 0 rfl) ?_
      refine mo_wR C A (T := TX11) iX11 rfl 22 (by decide) tb_139 rfl dX11_does_257 hF (fun v8 hF => ?_)
      refine lv_iload hx hb dX11_does_260 (lv_at hl 3 rfl) ?_
      refine lv_iconst (v := (1 : Int32)) hx hb dX11_does_262 (by decide) ?_
      refine mo_wsa C A dX11_does_263 hF (fun h H locs hF A => ?_)
      refine lv_iconst (v := (1 : Int32)) hx hb dX11_does_264 (by decide) ?_
      rw [hQ]
      exact mo_zret C A hr hlocks dX11_does_265 hF
    have hF := mo_ifF c7 hF
    by_cases c9 : x5 = (1 : Int32)
    · have hF := mo_ifT c9 hF
      refine mo_tsI hx hb (1 : Int32) (tgt := 266) (off := 126) dX11_does_140 c9 (by decide) (by decide) rfl (by decide) ?_
      refine lv_iload hx hb dX11_does_266 (lv_at hl 6 rfl) ?_
      refine lv_sipush (v := (256 : Int32)) hx hb dX11_does_268 (by decide) ?_
      refine lv_iload hx hb dX11_does_271 (lv_at hl 7 rfl) ?_
      refine lv_imul hx hb dX11_does_273 ?_
      refine lv_iadd hx hb dX11_does_274 ?_
      refine lv_istore (lv' := [(14, .int (x7 + ((256 : Int32) * x8))), (0, .ref x0), (1, .int x1), (2, .int x2), (4, .int x4), (5, .int x5), (6, .int x6), (7, .int x7), (8, .int x8), (9, .int x9), (12, .int x12), (13, .int x13)]) hx hb dX11_does_275 hl (by decide) rfl (fun ls hl => ?_)
      refine lv_aload_n hx hb dX11_does_277 rfl (lv_at hl 1 rfl) ?_
      refine mo_wR C A (T := TX11) iX11 rfl 19 (by decide) tb_136 rfl dX11_does_278 hF (fun v10 hF => ?_)
      refine lv_iload hx hb dX11_does_281 (lv_at hl 9 rfl) ?_
      refine lv_iload hx hb dX11_does_283 (lv_at hl 0 rfl) ?_
      refine lv_sipush (v := (32767 : Int32)) hx hb dX11_does_285 (by decide) ?_
      refine lv_icmp_le (tgt := 299) hx hb dX11_does_288 (by decide) (fun c11 => ?_) (fun c11 => ?_)
      · have hF := mo_ifT c11 hF
        refine lv_iload hx hb dX11_does_299 (lv_at hl 0 rfl) ?_
        exact J301 x0 x4 v10 x9 (x7 + ((256 : Int32) * x8)) h H locs ls A (lv_sub hl [1, 4] rfl) hF
      · have hF := mo_ifF c11 hF
        refine lv_iload hx hb dX11_does_291 (lv_at hl 0 rfl) ?_
        refine lv_ldc (v := (65536 : Int32)) hx hb hown (hts _ tb_559) dX11_does_293 ?_
        refine lv_isub hx hb dX11_does_295 ?_
        refine lv_goto (tgt := 301) hx hb dX11_does_296 (by decide) ?_
        exact J301 x0 x4 v10 x9 ((x7 + ((256 : Int32) * x8)) - (65536 : Int32)) h H locs ls A (lv_sub hl [1, 4] rfl) hF
    have hF := mo_ifF c9 hF
    by_cases c12 : x5 = (2 : Int32)
    · have hF := mo_ifT c12 hF
      refine mo_tsI hx hb (2 : Int32) (tgt := 305) (off := 165) dX11_does_140 c12 (by decide) (by decide) rfl (by decide) ?_
      refine lv_aload_n hx hb dX11_does_305 rfl (lv_at hl 0 rfl) ?_
      refine mo_wR C A (T := TX11) iX11 rfl 19 (by decide) tb_136 rfl dX11_does_306 hF (fun v13 hF => ?_)
      refine lv_iload hx hb dX11_does_309 (lv_at hl 8 rfl) ?_
      refine lv_iload hx hb dX11_does_311 (lv_at hl 9 rfl) ?_
      refine mo_wsa C A dX11_does_313 hF (fun h H locs hF A => ?_)
      refine lv_goto (tgt := 737) hx hb dX11_does_314 (by decide) ?_
      exact J737 x0 x4 h H locs ls A (lv_sub hl [0, 3] rfl) hF
    have hF := mo_ifF c12 hF
    by_cases c14 : x5 = (3 : Int32)
    · have hF := mo_ifT c14 hF
      refine mo_tsI hx hb (3 : Int32) (tgt := 317) (off := 177) dX11_does_140 c14 (by decide) (by decide) rfl (by decide) ?_
      refine lv_aload_n hx hb dX11_does_317 rfl (lv_at hl 0 rfl) ?_
      refine mo_wR C A (T := TX11) iX11 rfl 19 (by decide) tb_136 rfl dX11_does_318 hF (fun v15 hF => ?_)
      refine lv_iload hx hb dX11_does_321 (lv_at hl 8 rfl) ?_
      refine lv_iload hx hb dX11_does_323 (lv_at hl 9 rfl) ?_
      refine lv_iload hx hb dX11_does_325 (lv_at hl 10 rfl) ?_
      refine lv_iadd hx hb dX11_does_327 ?_
      refine mo_wsa C A dX11_does_328 hF (fun h H locs hF A => ?_)
      refine lv_goto (tgt := 737) hx hb dX11_does_329 (by decide) ?_
      exact J737 x0 x4 h H locs ls A (lv_sub hl [0, 3] rfl) hF
    have hF := mo_ifF c14 hF
    by_cases c16 : x5 = (4 : Int32)
    · have hF := mo_ifT c16 hF
      refine mo_tsI hx hb (4 : Int32) (tgt := 332) (off := 192) dX11_does_140 c16 (by decide) (by decide) rfl (by decide) ?_
      refine lv_aload_n hx hb dX11_does_332 rfl (lv_at hl 0 rfl) ?_
      refine mo_wR C A (T := TX11) iX11 rfl 19 (by decide) tb_136 rfl dX11_does_333 hF (fun v17 hF => ?_)
      refine lv_iload hx hb dX11_does_336 (lv_at hl 8 rfl) ?_
      refine lv_iload hx hb dX11_does_338 (lv_at hl 9 rfl) ?_
      refine lv_iload hx hb dX11_does_340 (lv_at hl 10 rfl) ?_
      refine lv_isub hx hb dX11_does_342 ?_
      refine mo_wsa C A dX11_does_343 hF (fun h H locs hF A => ?_)
      refine lv_goto (tgt := 737) hx hb dX11_does_344 (by decide) ?_
      exact J737 x0 x4 h H locs ls A (lv_sub hl [0, 3] rfl) hF
    have hF := mo_ifF c16 hF
    by_cases c18 : x5 = (5 : Int32)
    · have hF := mo_ifT c18 hF
      refine mo_tsI hx hb (5 : Int32) (tgt := 347) (off := 207) dX11_does_140 c18 (by decide) (by decide) rfl (by decide) ?_
      refine lv_aload_n hx hb dX11_does_347 rfl (lv_at hl 0 rfl) ?_
      refine mo_wR C A (T := TX11) iX11 rfl 19 (by decide) tb_136 rfl dX11_does_348 hF (fun v19 hF => ?_)
      refine lv_iload hx hb dX11_does_351 (lv_at hl 8 rfl) ?_
      refine lv_iload hx hb dX11_does_353 (lv_at hl 9 rfl) ?_
      refine lv_iload hx hb dX11_does_355 (lv_at hl 10 rfl) ?_
      refine lv_imul hx hb dX11_does_357 ?_
      refine mo_wsa C A dX11_does_358 hF (fun h H locs hF A => ?_)
      refine lv_goto (tgt := 737) hx hb dX11_does_359 (by decide) ?_
      exact J737 x0 x4 h H locs ls A (lv_sub hl [0, 3] rfl) hF
    have hF := mo_ifF c18 hF
    by_cases c20 : x5 = (6 : Int32)
    · have hF := mo_ifT c20 hF
      refine mo_tsI hx hb (6 : Int32) (tgt := 362) (off := 222) dX11_does_140 c20 (by decide) (by decide) rfl (by decide) ?_
      refine lv_aload_n hx hb dX11_does_362 rfl (lv_at hl 0 rfl) ?_
      refine mo_wR C A (T := TX11) iX11 rfl 19 (by decide) tb_136 rfl dX11_does_363 hF (fun v21 hF => ?_)
      refine lv_iload hx hb dX11_does_366 (lv_at hl 8 rfl) ?_
      refine lv_iload hx hb dX11_does_368 (lv_at hl 9 rfl) ?_
      refine lv_iload hx hb dX11_does_370 (lv_at hl 10 rfl) ?_
      refine lv_iand hx hb dX11_does_372 ?_
      refine mo_wsa C A dX11_does_373 hF (fun h H locs hF A => ?_)
      refine lv_goto (tgt := 737) hx hb dX11_does_374 (by decide) ?_
      exact J737 x0 x4 h H locs ls A (lv_sub hl [0, 3] rfl) hF
    have hF := mo_ifF c20 hF
    by_cases c22 : x5 = (7 : Int32)
    · have hF := mo_ifT c22 hF
      refine mo_tsI hx hb (7 : Int32) (tgt := 377) (off := 237) dX11_does_140 c22 (by decide) (by decide) rfl (by decide) ?_
      refine lv_aload_n hx hb dX11_does_377 rfl (lv_at hl 0 rfl) ?_
      refine mo_wR C A (T := TX11) iX11 rfl 19 (by decide) tb_136 rfl dX11_does_378 hF (fun v23 hF => ?_)
      refine lv_iload hx hb dX11_does_381 (lv_at hl 8 rfl) ?_
      refine lv_iload hx hb dX11_does_383 (lv_at hl 9 rfl) ?_
      refine lv_iload hx hb dX11_does_385 (lv_at hl 10 rfl) ?_
      refine lv_ixor hx hb dX11_does_387 ?_
      refine mo_wsa C A dX11_does_388 hF (fun h H locs hF A => ?_)
      refine lv_goto (tgt := 737) hx hb dX11_does_389 (by decide) ?_
      exact J737 x0 x4 h H locs ls A (lv_sub hl [0, 3] rfl) hF
    have hF := mo_ifF c22 hF
    by_cases c24 : x5 = (8 : Int32)
    · have hF := mo_ifT c24 hF
      refine mo_tsI hx hb (8 : Int32) (tgt := 392) (off := 252) dX11_does_140 c24 (by decide) (by decide) rfl (by decide) ?_
      refine lv_aload_n hx hb dX11_does_392 rfl (lv_at hl 0 rfl) ?_
      refine mo_wR C A (T := TX11) iX11 rfl 19 (by decide) tb_136 rfl dX11_does_393 hF (fun v25 hF => ?_)
      refine lv_iload hx hb dX11_does_396 (lv_at hl 8 rfl) ?_
      refine lv_iload hx hb dX11_does_398 (lv_at hl 9 rfl) ?_
      refine lv_iload hx hb dX11_does_400 (lv_at hl 10 rfl) ?_
      refine lv_icmp_ge (tgt := 409) hx hb dX11_does_402 (by decide) (fun c26 => ?_) (fun c26 => ?_)
      · have hF := mo_ifT c26 hF
        refine lv_iconst (v := (0 : Int32)) hx hb dX11_does_409 (by decide) ?_
        exact J410 x0 x4 v25 x9 (0 : Int32) h H locs ls A (lv_sub hl [0, 3] rfl) hF
      · have hF := mo_ifF c26 hF
        refine lv_iconst (v := (1 : Int32)) hx hb dX11_does_405 (by decide) ?_
        refine lv_goto (tgt := 410) hx hb dX11_does_406 (by decide) ?_
        exact J410 x0 x4 v25 x9 (1 : Int32) h H locs ls A (lv_sub hl [0, 3] rfl) hF
    have hF := mo_ifF c24 hF
    by_cases c27 : x5 = (9 : Int32)
    · have hF := mo_ifT c27 hF
      refine mo_tsI hx hb (9 : Int32) (tgt := 414) (off := 274) dX11_does_140 c27 (by decide) (by decide) rfl (by decide) ?_
      refine lv_aload_n hx hb dX11_does_414 rfl (lv_at hl 0 rfl) ?_
      refine mo_wR C A (T := TX11) iX11 rfl 21 (by decide) tb_138 rfl dX11_does_415 hF (fun v28 hF => ?_)
      refine lv_iload hx hb dX11_does_418 (lv_at hl 3 rfl) ?_
      refine lv_iload hx hb dX11_does_420 (lv_at hl 6 rfl) ?_
      refine mo_wsa C A dX11_does_422 hF (fun h H locs hF A => ?_)
      refine lv_iconst (v := (1 : Int32)) hx hb dX11_does_423 (by decide) ?_
      rw [hQ]
      exact mo_zret C A hr hlocks dX11_does_424 hF
    have hF := mo_ifF c27 hF
    by_cases c29 : x5 = (10 : Int32)
    · have hF := mo_ifT c29 hF
      refine mo_tsI hx hb (10 : Int32) (tgt := 425) (off := 285) dX11_does_140 c29 (by decide) (by decide) rfl (by decide) ?_
      refine lv_aload_n hx hb dX11_does_425 rfl (lv_at hl 0 rfl) ?_
      refine mo_wR C A (T := TX11) iX11 rfl 21 (by decide) tb_138 rfl dX11_does_426 hF (fun v30 hF => ?_)
      refine lv_iload hx hb dX11_does_429 (lv_at hl 3 rfl) ?_
      refine lv_aload_n hx hb dX11_does_431 rfl (lv_at hl 0 rfl) ?_
      refine mo_wR C A (T := TX11) iX11 rfl 19 (by decide) tb_136 rfl dX11_does_432 hF (fun v31 hF => ?_)
      refine lv_iload hx hb dX11_does_435 (lv_at hl 8 rfl) ?_
      refine mo_wla C A dX11_does_437 hF (fun v32 hF => ?_)
      refine lv_if_ne (tgt := 445) hx hb dX11_does_438 (by decide) (fun c33 => ?_) (fun c33 => ?_)
      · have hF := mo_ifF c33 hF
        refine lv_iconst (v := (0 : Int32)) hx hb dX11_does_445 (by decide) ?_
        exact J446 x0 x4 x5 x7 v30 x4 (0 : Int32) h H locs ls A (lv_sub hl [0, 3, 4, 6] rfl) hF
      · have hF := mo_ifT c33 hF
        refine lv_iconst (v := (1 : Int32)) hx hb dX11_does_441 (by decide) ?_
        refine lv_goto (tgt := 446) hx hb dX11_does_442 (by decide) ?_
        exact J446 x0 x4 x5 x7 v30 x4 (1 : Int32) h H locs ls A (lv_sub hl [0, 3, 4, 6] rfl) hF
    have hF := mo_ifF c29 hF
    by_cases c34 : x5 = (11 : Int32)
    · have hF := mo_ifT c34 hF
      refine mo_tsI hx hb (11 : Int32) (tgt := 425) (off := 285) dX11_does_140 c34 (by decide) (by decide) rfl (by decide) ?_
      refine lv_aload_n hx hb dX11_does_425 rfl (lv_at hl 0 rfl) ?_
      refine mo_wR C A (T := TX11) iX11 rfl 21 (by decide) tb_138 rfl dX11_does_426 hF (fun v35 hF => ?_)
      refine lv_iload hx hb dX11_does_429 (lv_at hl 3 rfl) ?_
      refine lv_aload_n hx hb dX11_does_431 rfl (lv_at hl 0 rfl) ?_
      refine mo_wR C A (T := TX11) iX11 rfl 19 (by decide) tb_136 rfl dX11_does_432 hF (fun v36 hF => ?_)
      refine lv_iload hx hb dX11_does_435 (lv_at hl 8 rfl) ?_
      refine mo_wla C A dX11_does_437 hF (fun v37 hF => ?_)
      refine lv_if_ne (tgt := 445) hx hb dX11_does_438 (by decide) (fun c38 => ?_) (fun c38 => ?_)
      · have hF := mo_ifF c38 hF
        refine lv_iconst (v := (0 : Int32)) hx hb dX11_does_445 (by decide) ?_
        exact J446 x0 x4 x5 x7 v35 x4 (0 : Int32) h H locs ls A (lv_sub hl [0, 3, 4, 6] rfl) hF
      · have hF := mo_ifT c38 hF
        refine lv_iconst (v := (1 : Int32)) hx hb dX11_does_441 (by decide) ?_
        refine lv_goto (tgt := 446) hx hb dX11_does_442 (by decide) ?_
        exact J446 x0 x4 x5 x7 v35 x4 (1 : Int32) h H locs ls A (lv_sub hl [0, 3, 4, 6] rfl) hF
    have hF := mo_ifF c34 hF
    by_cases c39 : x5 = (12 : Int32)
    · have hF := mo_ifT c39 hF
      refine mo_tsI hx hb (12 : Int32) (tgt := 478) (off := 338) dX11_does_140 c39 (by decide) (by decide) rfl (by decide) ?_
      refine lv_iload hx hb dX11_does_478 (lv_at hl 9 rfl) ?_
      refine lv_i2l hx hb dX11_does_480 rfl ?_
      refine lv_lconst (v := (1 : Int64)) hx hb dX11_does_481 (by decide) ?_
      refine mo_cS (n := 2) (As := [.long ((x12).toInt64), .long (1 : Int64)]) (rest := []) C A hml hl.1 (c_X11_areCells l D dA b0 ((x12).toInt64) (1 : Int64)) (tb_s tb_564 tb_565 tb_5 tb_566) rfl (by decide +kernel) ⟨Nat.le_trans (by decide) hfr, Nat.le_trans (Nat.le_of_ble_eq_true rfl) hlo⟩ rfl (Nat.le_of_ble_eq_true rfl) rfl dX11_does_482 hF (fun v40 h H locs hF A => ?_)
      show W _ _ _ _ _ _ _ _ _ _ _ _ _ _ _ (F0 m 485 ls [.int v40])
      refine lv_if_ne (tgt := 490) hx hb dX11_does_485 (by decide) (fun c41 => ?_) (fun c41 => ?_)
      · have hF := mo_ifF c41 hF
        refine lv_iload hx hb dX11_does_490 (lv_at hl 4 rfl) ?_
        refine lv_bipush (v := (12 : Int32)) hx hb dX11_does_492 (by decide) ?_
        refine lv_icmp_ne (tgt := 520) hx hb dX11_does_494 (by decide) (fun c42 => ?_) (fun c42 => ?_)
        · have hF := mo_ifF c42 hF
          refine lv_aload_n hx hb dX11_does_520 rfl (lv_at hl 0 rfl) ?_
          refine mo_wR C A (T := TX11) iX11 rfl 20 (by decide) tb_137 rfl dX11_does_521 hF (fun v43 hF => ?_)
          refine lv_bipush (v := (32 : Int32)) hx hb dX11_does_524 (by decide) ?_
          refine lv_iload hx hb dX11_does_526 (lv_at hl 3 rfl) ?_
          refine lv_imul hx hb dX11_does_528 ?_
          refine lv_iload hx hb dX11_does_529 (lv_at hl 9 rfl) ?_
          refine lv_iadd hx hb dX11_does_531 ?_
          refine lv_aload_n hx hb dX11_does_532 rfl (lv_at hl 0 rfl) ?_
          refine mo_wR C A (T := TX11) iX11 rfl 19 (by decide) tb_136 rfl dX11_does_533 hF (fun v44 hF => ?_)
          refine lv_iload hx hb dX11_does_536 (lv_at hl 8 rfl) ?_
          refine mo_wla C A dX11_does_538 hF (fun v45 hF => ?_)
          refine mo_wsa C A dX11_does_539 hF (fun h H locs hF A => ?_)
          refine lv_goto (tgt := 737) hx hb dX11_does_540 (by decide) ?_
          exact J737 x0 x4 h H locs ls A (lv_sub hl [0, 3] rfl) hF
        · have hF := mo_ifT c42 hF
          refine lv_aload_n hx hb dX11_does_497 rfl (lv_at hl 0 rfl) ?_
          refine mo_wR C A (T := TX11) iX11 rfl 19 (by decide) tb_136 rfl dX11_does_498 hF (fun v46 hF => ?_)
          refine lv_iload hx hb dX11_does_501 (lv_at hl 8 rfl) ?_
          refine lv_aload_n hx hb dX11_does_503 rfl (lv_at hl 0 rfl) ?_
          refine mo_wR C A (T := TX11) iX11 rfl 20 (by decide) tb_137 rfl dX11_does_504 hF (fun v47 hF => ?_)
          refine lv_bipush (v := (32 : Int32)) hx hb dX11_does_507 (by decide) ?_
          refine lv_iload hx hb dX11_does_509 (lv_at hl 3 rfl) ?_
          refine lv_imul hx hb dX11_does_511 ?_
          refine lv_iload hx hb dX11_does_512 (lv_at hl 9 rfl) ?_
          refine lv_iadd hx hb dX11_does_514 ?_
          refine mo_wla C A dX11_does_515 hF (fun v48 hF => ?_)
          refine mo_wsa C A dX11_does_516 hF (fun h H locs hF A => ?_)
          refine lv_goto (tgt := 737) hx hb dX11_does_517 (by decide) ?_
          exact J737 x0 x4 h H locs ls A (lv_sub hl [0, 3] rfl) hF
      · have hF := mo_ifT c41 hF
        refine lv_iconst (v := (0 : Int32)) hx hb dX11_does_488 (by decide) ?_
        rw [hQ]
        exact mo_zret C A hr hlocks dX11_does_489 hF
    have hF := mo_ifF c39 hF
    by_cases c49 : x5 = (13 : Int32)
    · have hF := mo_ifT c49 hF
      refine mo_tsI hx hb (13 : Int32) (tgt := 478) (off := 338) dX11_does_140 c49 (by decide) (by decide) rfl (by decide) ?_
      refine lv_iload hx hb dX11_does_478 (lv_at hl 9 rfl) ?_
      refine lv_i2l hx hb dX11_does_480 rfl ?_
      refine lv_lconst (v := (1 : Int64)) hx hb dX11_does_481 (by decide) ?_
      refine mo_cS (n := 2) (As := [.long ((x12).toInt64), .long (1 : Int64)]) (rest := []) C A hml hl.1 (c_X11_areCells l D dA b0 ((x12).toInt64) (1 : Int64)) (tb_s tb_564 tb_565 tb_5 tb_566) rfl (by decide +kernel) ⟨Nat.le_trans (by decide) hfr, Nat.le_trans (Nat.le_of_ble_eq_true rfl) hlo⟩ rfl (Nat.le_of_ble_eq_true rfl) rfl dX11_does_482 hF (fun v50 h H locs hF A => ?_)
      show W _ _ _ _ _ _ _ _ _ _ _ _ _ _ _ (F0 m 485 ls [.int v50])
      refine lv_if_ne (tgt := 490) hx hb dX11_does_485 (by decide) (fun c51 => ?_) (fun c51 => ?_)
      · have hF := mo_ifF c51 hF
        refine lv_iload hx hb dX11_does_490 (lv_at hl 4 rfl) ?_
        refine lv_bipush (v := (12 : Int32)) hx hb dX11_does_492 (by decide) ?_
        refine lv_icmp_ne (tgt := 520) hx hb dX11_does_494 (by decide) (fun c52 => ?_) (fun c52 => ?_)
        · have hF := mo_ifF c52 hF
          refine lv_aload_n hx hb dX11_does_520 rfl (lv_at hl 0 rfl) ?_
          refine mo_wR C A (T := TX11) iX11 rfl 20 (by decide) tb_137 rfl dX11_does_521 hF (fun v53 hF => ?_)
          refine lv_bipush (v := (32 : Int32)) hx hb dX11_does_524 (by decide) ?_
          refine lv_iload hx hb dX11_does_526 (lv_at hl 3 rfl) ?_
          refine lv_imul hx hb dX11_does_528 ?_
          refine lv_iload hx hb dX11_does_529 (lv_at hl 9 rfl) ?_
          refine lv_iadd hx hb dX11_does_531 ?_
          refine lv_aload_n hx hb dX11_does_532 rfl (lv_at hl 0 rfl) ?_
          refine mo_wR C A (T := TX11) iX11 rfl 19 (by decide) tb_136 rfl dX11_does_533 hF (fun v54 hF => ?_)
          refine lv_iload hx hb dX11_does_536 (lv_at hl 8 rfl) ?_
          refine mo_wla C A dX11_does_538 hF (fun v55 hF => ?_)
          refine mo_wsa C A dX11_does_539 hF (fun h H locs hF A => ?_)
          refine lv_goto (tgt := 737) hx hb dX11_does_540 (by decide) ?_
          exact J737 x0 x4 h H locs ls A (lv_sub hl [0, 3] rfl) hF
        · have hF := mo_ifT c52 hF
          refine lv_aload_n hx hb dX11_does_497 rfl (lv_at hl 0 rfl) ?_
          refine mo_wR C A (T := TX11) iX11 rfl 19 (by decide) tb_136 rfl dX11_does_498 hF (fun v56 hF => ?_)
          refine lv_iload hx hb dX11_does_501 (lv_at hl 8 rfl) ?_
          refine lv_aload_n hx hb dX11_does_503 rfl (lv_at hl 0 rfl) ?_
          refine mo_wR C A (T := TX11) iX11 rfl 20 (by decide) tb_137 rfl dX11_does_504 hF (fun v57 hF => ?_)
          refine lv_bipush (v := (32 : Int32)) hx hb dX11_does_507 (by decide) ?_
          refine lv_iload hx hb dX11_does_509 (lv_at hl 3 rfl) ?_
          refine lv_imul hx hb dX11_does_511 ?_
          refine lv_iload hx hb dX11_does_512 (lv_at hl 9 rfl) ?_
          refine lv_iadd hx hb dX11_does_514 ?_
          refine mo_wla C A dX11_does_515 hF (fun v58 hF => ?_)
          refine mo_wsa C A dX11_does_516 hF (fun h H locs hF A => ?_)
          refine lv_goto (tgt := 737) hx hb dX11_does_517 (by decide) ?_
          exact J737 x0 x4 h H locs ls A (lv_sub hl [0, 3] rfl) hF
      · have hF := mo_ifT c51 hF
        refine lv_iconst (v := (0 : Int32)) hx hb dX11_does_488 (by decide) ?_
        rw [hQ]
        exact mo_zret C A hr hlocks dX11_does_489 hF
    have hF := mo_ifF c49 hF
    by_cases c59 : x5 = (18 : Int32)
    · have hF := mo_ifT c59 hF
      refine mo_tsI hx hb (18 : Int32) (tgt := 543) (off := 403) dX11_does_140 c59 (by decide) (by decide) rfl (by decide) ?_
      refine lv_aload_n hx hb dX11_does_543 rfl (lv_at hl 0 rfl) ?_
      refine mo_wR C A (T := TX11) iX11 rfl 26 (by decide) tb_143 rfl dX11_does_544 hF (fun v60 hF => ?_)
      refine lv_iload hx hb dX11_does_547 (lv_at hl 3 rfl) ?_
      refine mo_wla C A dX11_does_549 hF (fun v61 hF => ?_)
      refine lv_sipush (v := (200 : Int32)) hx hb dX11_does_550 (by decide) ?_
      refine lv_icmp_ne (tgt := 558) hx hb dX11_does_553 (by decide) (fun c62 => ?_) (fun c62 => ?_)
      · have hF := mo_ifF c62 hF
        refine lv_aload_n hx hb dX11_does_558 rfl (lv_at hl 0 rfl) ?_
        refine mo_wR C A (T := TX11) iX11 rfl 25 (by decide) tb_142 rfl dX11_does_559 hF (fun v63 hF => ?_)
        refine lv_sipush (v := (200 : Int32)) hx hb dX11_does_562 (by decide) ?_
        refine lv_iload hx hb dX11_does_565 (lv_at hl 3 rfl) ?_
        refine lv_imul hx hb dX11_does_567 ?_
        refine lv_aload_n hx hb dX11_does_568 rfl (lv_at hl 0 rfl) ?_
        refine mo_wR C A (T := TX11) iX11 rfl 26 (by decide) tb_143 rfl dX11_does_569 hF (fun v64 hF => ?_)
        refine lv_iload hx hb dX11_does_572 (lv_at hl 3 rfl) ?_
        refine mo_wla C A dX11_does_574 hF (fun v65 hF => ?_)
        refine lv_iadd hx hb dX11_does_575 ?_
        refine lv_aload_n hx hb dX11_does_576 rfl (lv_at hl 0 rfl) ?_
        refine mo_wR C A (T := TX11) iX11 rfl 19 (by decide) tb_136 rfl dX11_does_577 hF (fun v66 hF => ?_)
        refine lv_iload hx hb dX11_does_580 (lv_at hl 8 rfl) ?_
        refine mo_wla C A dX11_does_582 hF (fun v67 hF => ?_)
        refine mo_wsa C A dX11_does_583 hF (fun h H locs hF A => ?_)
        refine lv_aload_n hx hb dX11_does_584 rfl (lv_at hl 0 rfl) ?_
        refine mo_wR C A (T := TX11) iX11 rfl 26 (by decide) tb_143 rfl dX11_does_585 hF (fun v68 hF => ?_)
        refine lv_iload hx hb dX11_does_588 (lv_at hl 3 rfl) ?_
        refine lv_dup2_11 hx hb dX11_does_590 rfl rfl ?_
        refine mo_wla C A dX11_does_591 hF (fun v69 hF => ?_)
        refine lv_iconst (v := (1 : Int32)) hx hb dX11_does_592 (by decide) ?_
        refine lv_iadd hx hb dX11_does_593 ?_
        refine mo_wsa C A dX11_does_594 hF (fun h H locs hF A => ?_)
        refine lv_goto (tgt := 737) hx hb dX11_does_595 (by decide) ?_
        exact J737 x0 x4 h H locs ls A (lv_sub hl [0, 3] rfl) hF
      · have hF := mo_ifT c62 hF
        refine lv_iconst (v := (0 : Int32)) hx hb dX11_does_556 (by decide) ?_
        rw [hQ]
        exact mo_zret C A hr hlocks dX11_does_557 hF
    have hF := mo_ifF c59 hF
    by_cases c70 : x5 = (19 : Int32)
    · have hF := mo_ifT c70 hF
      refine mo_tsI hx hb (19 : Int32) (tgt := 598) (off := 458) dX11_does_140 c70 (by decide) (by decide) rfl (by decide) ?_
      refine lv_aload_n hx hb dX11_does_598 rfl (lv_at hl 0 rfl) ?_
      refine lv_iload hx hb dX11_does_599 (lv_at hl 3 rfl) ?_
      refine lv_iload hx hb dX11_does_601 (lv_at hl 8 rfl) ?_
      refine mo_cV (n := 2) (As := [.int x4, .int x9]) (rest := []) C A hml hl.1 (c_X11_take l D dA b0 x0 x4 x9) (ci := 11) (q := (RX11, TX11, 56)) rfl (fun _ e => (mo_ckE e).1) (tb_v tb_576 tb_577 tb_578 tb_5 tb_579) rfl (by decide +kernel) ⟨Nat.le_trans (by decide) hfr, Nat.le_trans (Nat.le_of_ble_eq_true rfl) hlo⟩ rfl (Nat.le_of_ble_eq_true rfl) rfl dX11_does_603 hF (fun v71 h H locs hF A => ?_)
      show W _ _ _ _ _ _ _ _ _ _ _ _ _ _ _ (F0 m 606 ls [])
      refine lv_goto (tgt := 737) hx hb dX11_does_606 (by decide) ?_
      exact J737 x0 x4 h H locs ls A (lv_sub hl [0, 3] rfl) hF
    have hF := mo_ifF c70 hF
    by_cases c72 : x5 = (20 : Int32)
    · have hF := mo_ifT c72 hF
      refine mo_tsI hx hb (20 : Int32) (tgt := 609) (off := 469) dX11_does_140 c72 (by decide) (by decide) rfl (by decide) ?_
      refine lv_aload_n hx hb dX11_does_609 rfl (lv_at hl 0 rfl) ?_
      refine mo_wR C A (T := TX11) iX11 rfl 19 (by decide) tb_136 rfl dX11_does_610 hF (fun v73 hF => ?_)
      refine lv_iload hx hb dX11_does_613 (lv_at hl 8 rfl) ?_
      refine lv_aload_n hx hb dX11_does_615 rfl (lv_at hl 0 rfl) ?_
      refine mo_wR C A (T := TX11) iX11 rfl 45 (by decide) tb_163 rfl dX11_does_616 hF (fun v74 hF => ?_)
      refine lv_iload_n hx hb dX11_does_619 rfl (lv_at hl 1 rfl) ?_
      refine mo_wla C A dX11_does_620 hF (fun v75 hF => ?_)
      refine mo_wsa C A dX11_does_621 hF (fun h H locs hF A => ?_)
      refine lv_goto (tgt := 737) hx hb dX11_does_622 (by decide) ?_
      exact J737 x0 x4 h H locs ls A (lv_sub hl [0, 3] rfl) hF
    have hF := mo_ifF c72 hF
    by_cases c76 : x5 = (21 : Int32)
    · have hF := mo_ifT c76 hF
      refine mo_tsI hx hb (21 : Int32) (tgt := 625) (off := 485) dX11_does_140 c76 (by decide) (by decide) rfl (by decide) ?_
      refine lv_aload_n hx hb dX11_does_625 rfl (lv_at hl 0 rfl) ?_
      refine mo_wR C A (T := TX11) iX11 rfl 51 (by decide) tb_169 rfl dX11_does_626 hF (fun v77 hF => ?_)
      refine lv_iload_n hx hb dX11_does_629 rfl (lv_at hl 1 rfl) ?_
      refine lv_iconst (v := (1 : Int32)) hx hb dX11_does_630 (by decide) ?_
      refine mo_wsz C A dX11_does_631 hF (fun h H locs hF A => ?_)
      refine lv_goto (tgt := 737) hx hb dX11_does_632 (by decide) ?_
      exact J737 x0 x4 h H locs ls A (lv_sub hl [0, 3] rfl) hF
    have hF := mo_ifF c76 hF
    by_cases c78 : x5 = (22 : Int32)
    · have hF := mo_ifT c78 hF
      refine mo_tsI hx hb (22 : Int32) (tgt := 635) (off := 495) dX11_does_140 c78 (by decide) (by decide) rfl (by decide) ?_
      refine lv_aload_n hx hb dX11_does_635 rfl (lv_at hl 0 rfl) ?_
      refine lv_iload hx hb dX11_does_636 (lv_at hl 6 rfl) ?_
      refine mo_cV (n := 1) (As := [.int x7]) (rest := []) C A hml hl.1 (c_X11_isDomain l D dA b0 x0 x7) (ci := 11) (q := (RX11, TX11, 56)) rfl (fun _ e => (mo_ckE e).1) (tb_v tb_198 tb_199 tb_200 tb_5 tb_201) rfl (by decide +kernel) ⟨Nat.le_trans (by decide) hfr, Nat.le_trans (Nat.le_of_ble_eq_true rfl) hlo⟩ rfl (Nat.le_of_ble_eq_true rfl) rfl dX11_does_638 hF (fun v79 h H locs hF A => ?_)
      show W _ _ _ _ _ _ _ _ _ _ _ _ _ _ _ (F0 m 641 ls [.int v79])
      refine lv_if_eq (tgt := 664) hx hb dX11_does_641 (by decide) (fun c80 => ?_) (fun c80 => ?_)
      · have hF := mo_ifT c80 hF
        refine lv_iconst (v := (0 : Int32)) hx hb dX11_does_664 (by decide) ?_
        rw [hQ]
        exact mo_zret C A hr hlocks dX11_does_665 hF
      · have hF := mo_ifF c80 hF
        refine lv_aload_n hx hb dX11_does_644 rfl (lv_at hl 0 rfl) ?_
        refine lv_iload hx hb dX11_does_645 (lv_at hl 6 rfl) ?_
        refine lv_iload_n hx hb dX11_does_647 rfl (lv_at hl 2 rfl) ?_
        refine mo_cV (n := 2) (As := [.int x7, .int x2]) (rest := []) C A hml hl.1 (c_X11_flowsTo l D dA b0 x0 x7 x2) (ci := 11) (q := (RX11, TX11, 56)) rfl (fun _ e => (mo_ckE e).1) (tb_v tb_580 tb_581 tb_582 tb_5 tb_583) rfl (by decide +kernel) ⟨Nat.le_trans (by decide) hfr, Nat.le_trans (Nat.le_of_ble_eq_true rfl) hlo⟩ rfl (Nat.le_of_ble_eq_true rfl) rfl dX11_does_648 hF (fun v81 h H locs hF A => ?_)
        show W _ _ _ _ _ _ _ _ _ _ _ _ _ _ _ (F0 m 651 ls [.int v81])
        refine lv_if_eq (tgt := 664) hx hb dX11_does_651 (by decide) (fun c82 => ?_) (fun c82 => ?_)
        · have hF := mo_ifT c82 hF
          refine lv_iconst (v := (0 : Int32)) hx hb dX11_does_664 (by decide) ?_
          rw [hQ]
          exact mo_zret C A hr hlocks dX11_does_665 hF
        · have hF := mo_ifF c82 hF
          refine lv_iload hx hb dX11_does_654 (lv_at hl 10 rfl) ?_
          refine lv_i2l hx hb dX11_does_656 rfl ?_
          refine lv_lconst (v := (1 : Int64)) hx hb dX11_does_657 (by decide) ?_
          refine mo_cS (n := 2) (As := [.long ((x13).toInt64), .long (1 : Int64)]) (rest := []) C A hml hl.1 (c_X11_areCells l D dA b0 ((x13).toInt64) (1 : Int64)) (tb_s tb_564 tb_565 tb_5 tb_566) rfl (by decide +kernel) ⟨Nat.le_trans (by decide) hfr, Nat.le_trans (Nat.le_of_ble_eq_true rfl) hlo⟩ rfl (Nat.le_of_ble_eq_true rfl) rfl dX11_does_658 hF (fun v83 h H locs hF A => ?_)
          show W _ _ _ _ _ _ _ _ _ _ _ _ _ _ _ (F0 m 661 ls [.int v83])
          refine lv_if_ne (tgt := 666) hx hb dX11_does_661 (by decide) (fun c84 => ?_) (fun c84 => ?_)
          · have hF := mo_ifF c84 hF
            refine lv_aload_n hx hb dX11_does_666 rfl (lv_at hl 0 rfl) ?_
            refine mo_wR C A (T := TX11) iX11 rfl 19 (by decide) tb_136 rfl dX11_does_667 hF (fun v85 hF => ?_)
            refine lv_iload hx hb dX11_does_670 (lv_at hl 8 rfl) ?_
            refine lv_aload_n hx hb dX11_does_672 rfl (lv_at hl 0 rfl) ?_
            refine mo_wR C A (T := TX11) iX11 rfl 20 (by decide) tb_137 rfl dX11_does_673 hF (fun v86 hF => ?_)
            refine lv_bipush (v := (32 : Int32)) hx hb dX11_does_676 (by decide) ?_
            refine lv_bipush (v := (6 : Int32)) hx hb dX11_does_678 (by decide) ?_
            refine lv_iload_n hx hb dX11_does_680 rfl (lv_at hl 1 rfl) ?_
            refine lv_imul hx hb dX11_does_681 ?_
            refine lv_iload hx hb dX11_does_682 (lv_at hl 6 rfl) ?_
            refine lv_iadd hx hb dX11_does_684 ?_
            refine lv_imul hx hb dX11_does_685 ?_
            refine lv_iload hx hb dX11_does_686 (lv_at hl 10 rfl) ?_
            refine lv_iadd hx hb dX11_does_688 ?_
            refine mo_wla C A dX11_does_689 hF (fun v87 hF => ?_)
            refine mo_wsa C A dX11_does_690 hF (fun h H locs hF A => ?_)
            refine lv_goto (tgt := 737) hx hb dX11_does_691 (by decide) ?_
            exact J737 x0 x4 h H locs ls A (lv_sub hl [0, 3] rfl) hF
          · have hF := mo_ifT c84 hF
            refine lv_iconst (v := (0 : Int32)) hx hb dX11_does_664 (by decide) ?_
            rw [hQ]
            exact mo_zret C A hr hlocks dX11_does_665 hF
    have hF := mo_ifF c78 hF
    by_cases c88 : x5 = (23 : Int32)
    · have hF := mo_ifT c88 hF
      refine mo_tsI hx hb (23 : Int32) (tgt := 694) (off := 554) dX11_does_140 c88 (by decide) (by decide) rfl (by decide) ?_
      refine lv_iload hx hb dX11_does_694 (lv_at hl 5 rfl) ?_
      refine lv_iconst (v := (2 : Int32)) hx hb dX11_does_696 (by decide) ?_
      refine lv_icmp_gt (tgt := 708) hx hb dX11_does_697 (by decide) (fun c89 => ?_) (fun c89 => ?_)
      · have hF := mo_ifT c89 hF
        refine lv_iconst (v := (0 : Int32)) hx hb dX11_does_708 (by decide) ?_
        rw [hQ]
        exact mo_zret C A hr hlocks dX11_does_709 hF
      · have hF := mo_ifF c89 hF
        refine lv_aload_n hx hb dX11_does_700 rfl (lv_at hl 0 rfl) ?_
        refine lv_iload_n hx hb dX11_does_701 rfl (lv_at hl 2 rfl) ?_
        refine mo_cV (n := 1) (As := [.int x2]) (rest := []) C A hml hl.1 (c_X11_reigns l D dA b0 x0 x2) (ci := 11) (q := (RX11, TX11, 56)) rfl (fun _ e => (mo_ckE e).1) (tb_v tb_584 tb_585 tb_586 tb_5 tb_587) rfl (by decide +kernel) ⟨Nat.le_trans (by decide) hfr, Nat.le_trans (Nat.le_of_ble_eq_true rfl) hlo⟩ rfl (Nat.le_of_ble_eq_true rfl) rfl dX11_does_702 hF (fun v90 h H locs hF A => ?_)
        show W _ _ _ _ _ _ _ _ _ _ _ _ _ _ _ (F0 m 705 ls [.int v90])
        refine lv_if_ne (tgt := 710) hx hb dX11_does_705 (by decide) (fun c91 => ?_) (fun c91 => ?_)
        · have hF := mo_ifF c91 hF
          refine lv_aload_n hx hb dX11_does_710 rfl (lv_at hl 0 rfl) ?_
          refine mo_wR C A (T := TX11) iX11 rfl 49 (by decide) tb_167 rfl dX11_does_711 hF (fun v92 hF => ?_)
          refine lv_iload_n hx hb dX11_does_714 rfl (lv_at hl 1 rfl) ?_
          refine lv_iload hx hb dX11_does_715 (lv_at hl 5 rfl) ?_
          refine mo_wsa C A dX11_does_717 hF (fun h H locs hF A => ?_)
          refine lv_goto (tgt := 737) hx hb dX11_does_718 (by decide) ?_
          exact J737 x0 x4 h H locs ls A (lv_sub hl [0, 3] rfl) hF
        · have hF := mo_ifT c91 hF
          refine lv_iconst (v := (0 : Int32)) hx hb dX11_does_708 (by decide) ?_
          rw [hQ]
          exact mo_zret C A hr hlocks dX11_does_709 hF
    have hF := mo_ifF c88 hF
    by_cases c93 : x5 = (24 : Int32)
    · have hF := mo_ifT c93 hF
      refine mo_tsI hx hb (24 : Int32) (tgt := 721) (off := 581) dX11_does_140 c93 (by decide) (by decide) rfl (by decide) ?_
      refine lv_aload_n hx hb dX11_does_721 rfl (lv_at hl 0 rfl) ?_
      refine mo_wR C A (T := TX11) iX11 rfl 19 (by decide) tb_136 rfl dX11_does_722 hF (fun v94 hF => ?_)
      refine lv_iload hx hb dX11_does_725 (lv_at hl 8 rfl) ?_
      refine lv_aload_n hx hb dX11_does_727 rfl (lv_at hl 0 rfl) ?_
      refine mo_wR C A (T := TX11) iX11 rfl 48 (by decide) tb_166 rfl dX11_does_728 hF (fun v95 hF => ?_)
      refine lv_iload_n hx hb dX11_does_731 rfl (lv_at hl 1 rfl) ?_
      refine mo_wla C A dX11_does_732 hF (fun v96 hF => ?_)
      refine mo_wsa C A dX11_does_733 hF (fun h H locs hF A => ?_)
      refine lv_goto (tgt := 737) hx hb dX11_does_734 (by decide) ?_
      exact J737 x0 x4 h H locs ls A (lv_sub hl [0, 3] rfl) hF
    have hF := mo_ifF c93 hF
    refine mo_tsD hx hb [(0 : Int32), (1 : Int32), (2 : Int32), (3 : Int32), (4 : Int32), (5 : Int32), (6 : Int32), (7 : Int32), (8 : Int32), (9 : Int32), (10 : Int32), (11 : Int32), (12 : Int32), (13 : Int32), (18 : Int32), (19 : Int32), (20 : Int32), (21 : Int32), (22 : Int32), (23 : Int32), (24 : Int32)] (tgt := 737) dX11_does_140 (List.forall_mem_cons.mpr ⟨c7, (List.forall_mem_cons.mpr ⟨c9, (List.forall_mem_cons.mpr ⟨c12, (List.forall_mem_cons.mpr ⟨c14, (List.forall_mem_cons.mpr ⟨c16, (List.forall_mem_cons.mpr ⟨c18, (List.forall_mem_cons.mpr ⟨c20, (List.forall_mem_cons.mpr ⟨c22, (List.forall_mem_cons.mpr ⟨c24, (List.forall_mem_cons.mpr ⟨c27, (List.forall_mem_cons.mpr ⟨c29, (List.forall_mem_cons.mpr ⟨c34, (List.forall_mem_cons.mpr ⟨c39, (List.forall_mem_cons.mpr ⟨c49, (List.forall_mem_cons.mpr ⟨c59, (List.forall_mem_cons.mpr ⟨c70, (List.forall_mem_cons.mpr ⟨c72, (List.forall_mem_cons.mpr ⟨c76, (List.forall_mem_cons.mpr ⟨c78, (List.forall_mem_cons.mpr ⟨c88, (List.forall_mem_cons.mpr ⟨c93, (fun _ h => absurd h List.not_mem_nil)⟩)⟩)⟩)⟩)⟩)⟩)⟩)⟩)⟩)⟩)⟩)⟩)⟩)⟩)⟩)⟩)⟩)⟩)⟩)⟩)⟩) (by decide) (by decide) (by decide) ?_
    exact J737 x0 x4 h H locs ls A (lv_sub hl [0, 3] rfl) hF
  unfold F_X11_does at hF
  obtain ⟨-, hF⟩ := mo_ckE hF
  have E : ∀ (h : mo_H) (H : Heap) (locs : List Loc), (mo_b (mo_gR x0 11 19) fun v97 => mo_b (mo_la 0 v97 (((8 : Int32) * (((6 : Int32) * x1) + x2)) + (((x3 >>> ((16 : Int32) &&& 31)) &&& (255 : Int32)) - ((x3 >>> ((16 : Int32) &&& 31)) &&& (255 : Int32)) / (8 : Int32) * (8 : Int32)))) fun v98 => mo_b (mo_gR x0 11 19) fun v99 => mo_b (mo_la 0 v99 (((8 : Int32) * (((6 : Int32) * x1) + x2)) + ((((x3).toUInt32 >>> (((24 : Int32)).toUInt32 &&& Int32.toUInt32 31)).toInt32) - (((x3).toUInt32 >>> (((24 : Int32)).toUInt32 &&& Int32.toUInt32 31)).toInt32) / (8 : Int32) * (8 : Int32)))) fun v100 => (if (24 : Int32) < (x3 &&& (255 : Int32)) then mo_rz (0 : Int32) else (if (x3 &&& (255 : Int32)) < (14 : Int32) then F_X11_does_138 x0 x1 x2 (((6 : Int32) * x1) + x2) (x3 &&& (255 : Int32)) ((x3 >>> ((8 : Int32) &&& 31)) &&& (255 : Int32)) ((x3 >>> ((16 : Int32) &&& 31)) &&& (255 : Int32)) (((x3).toUInt32 >>> (((24 : Int32)).toUInt32 &&& Int32.toUInt32 31)).toInt32) (((8 : Int32) * (((6 : Int32) * x1) + x2)) + (((x3 >>> ((8 : Int32) &&& 31)) &&& (255 : Int32)) - ((x3 >>> ((8 : Int32) &&& 31)) &&& (255 : Int32)) / (8 : Int32) * (8 : Int32))) v98 v100 else (if (17 : Int32) < (x3 &&& (255 : Int32)) then F_X11_does_138 x0 x1 x2 (((6 : Int32) * x1) + x2) (x3 &&& (255 : Int32)) ((x3 >>> ((8 : Int32) &&& 31)) &&& (255 : Int32)) ((x3 >>> ((16 : Int32) &&& 31)) &&& (255 : Int32)) (((x3).toUInt32 >>> (((24 : Int32)).toUInt32 &&& Int32.toUInt32 31)).toInt32) (((8 : Int32) * (((6 : Int32) * x1) + x2)) + (((x3 >>> ((8 : Int32) &&& 31)) &&& (255 : Int32)) - ((x3 >>> ((8 : Int32) &&& 31)) &&& (255 : Int32)) / (8 : Int32) * (8 : Int32))) v98 v100 else mo_b (F_X11_sends x0 x1 x2 (x3 &&& (255 : Int32)) ((x3 >>> ((8 : Int32) &&& 31)) &&& (255 : Int32)) v98 v100) fun v104 => (if v104 = 0 then mo_rz (0 : Int32) else F_X11_does_138 x0 x1 x2 (((6 : Int32) * x1) + x2) (x3 &&& (255 : Int32)) ((x3 >>> ((8 : Int32) &&& 31)) &&& (255 : Int32)) ((x3 >>> ((16 : Int32) &&& 31)) &&& (255 : Int32)) (((x3).toUInt32 >>> (((24 : Int32)).toUInt32 &&& Int32.toUInt32 31)).toInt32) (((8 : Int32) * (((6 : Int32) * x1) + x2)) + (((x3 >>> ((8 : Int32) &&& 31)) &&& (255 : Int32)) - ((x3 >>> ((8 : Int32) &&& 31)) &&& (255 : Int32)) / (8 : Int32) * (8 : Int32))) v98 v100))))).1 h = some (z, h2) → mo_A D dA b0 s.heap h0 h H locs → W p l e R s m args below meth c H locs (h.2.1 - h0.2.1) (h.2.2 - h0.2.2) Q (F0 m 0 ls []) := by
    intro h H locs hF A
    refine lv_bipush (v := (6 : Int32)) hx hb dX11_does_0 (by decide) ?_
    refine lv_iload_n hx hb dX11_does_2 rfl (lv_at hl 1 rfl) ?_
    refine lv_imul hx hb dX11_does_3 ?_
    refine lv_iload_n hx hb dX11_does_4 rfl (lv_at hl 2 rfl) ?_
    refine lv_iadd hx hb dX11_does_5 ?_
    refine lv_istore (lv' := [(4, .int (((6 : Int32) * x1) + x2)), (0, .ref x0), (1, .int x1), (2, .int x2), (3, .int x3)]) hx hb dX11_does_6 hl (by decide) rfl (fun ls hl => ?_)
    refine lv_iload_n hx hb dX11_does_8 rfl (lv_at hl 4 rfl) ?_
    refine lv_sipush (v := (255 : Int32)) hx hb dX11_does_9 (by decide) ?_
    refine lv_iand hx hb dX11_does_12 ?_
    refine lv_istore (lv' := [(5, .int (x3 &&& (255 : Int32))), (4, .int (((6 : Int32) * x1) + x2)), (0, .ref x0), (1, .int x1), (2, .int x2), (3, .int x3)]) hx hb dX11_does_13 hl (by decide) rfl (fun ls hl => ?_)
    refine lv_iload_n hx hb dX11_does_15 rfl (lv_at hl 5 rfl) ?_
    refine lv_bipush (v := (8 : Int32)) hx hb dX11_does_16 (by decide) ?_
    refine lv_ishr hx hb dX11_does_18 ?_
    refine lv_sipush (v := (255 : Int32)) hx hb dX11_does_19 (by decide) ?_
    refine lv_iand hx hb dX11_does_22 ?_
    refine lv_istore (lv' := [(6, .int ((x3 >>> ((8 : Int32) &&& 31)) &&& (255 : Int32))), (5, .int (x3 &&& (255 : Int32))), (4, .int (((6 : Int32) * x1) + x2)), (0, .ref x0), (1, .int x1), (2, .int x2), (3, .int x3)]) hx hb dX11_does_23 hl (by decide) rfl (fun ls hl => ?_)
    refine lv_iload_n hx hb dX11_does_25 rfl (lv_at hl 6 rfl) ?_
    refine lv_bipush (v := (16 : Int32)) hx hb dX11_does_26 (by decide) ?_
    refine lv_ishr hx hb dX11_does_28 ?_
    refine lv_sipush (v := (255 : Int32)) hx hb dX11_does_29 (by decide) ?_
    refine lv_iand hx hb dX11_does_32 ?_
    refine lv_istore (lv' := [(7, .int ((x3 >>> ((16 : Int32) &&& 31)) &&& (255 : Int32))), (6, .int ((x3 >>> ((8 : Int32) &&& 31)) &&& (255 : Int32))), (5, .int (x3 &&& (255 : Int32))), (4, .int (((6 : Int32) * x1) + x2)), (0, .ref x0), (1, .int x1), (2, .int x2), (3, .int x3)]) hx hb dX11_does_33 hl (by decide) rfl (fun ls hl => ?_)
    refine lv_iload_n hx hb dX11_does_35 rfl (lv_at hl 7 rfl) ?_
    refine lv_bipush (v := (24 : Int32)) hx hb dX11_does_36 (by decide) ?_
    refine lv_iushr hx hb dX11_does_38 rfl ?_
    refine lv_istore (lv' := [(8, .int (((x3).toUInt32 >>> (((24 : Int32)).toUInt32 &&& Int32.toUInt32 31)).toInt32)), (7, .int ((x3 >>> ((16 : Int32) &&& 31)) &&& (255 : Int32))), (6, .int ((x3 >>> ((8 : Int32) &&& 31)) &&& (255 : Int32))), (5, .int (x3 &&& (255 : Int32))), (4, .int (((6 : Int32) * x1) + x2)), (0, .ref x0), (1, .int x1), (2, .int x2), (3, .int x3)]) hx hb dX11_does_39 hl (by decide) rfl (fun ls hl => ?_)
    refine lv_bipush (v := (8 : Int32)) hx hb dX11_does_41 (by decide) ?_
    refine lv_iload hx hb dX11_does_43 (lv_at hl 4 rfl) ?_
    refine lv_imul hx hb dX11_does_45 ?_
    refine lv_iload hx hb dX11_does_46 (lv_at hl 2 rfl) ?_
    refine lv_bipush (v := (8 : Int32)) hx hb dX11_does_48 (by decide) ?_
    refine lv_irem hx hb dX11_does_50 (by decide) ?_
    refine lv_iadd hx hb dX11_does_51 ?_
    refine lv_istore (lv' := [(9, .int (((8 : Int32) * (((6 : Int32) * x1) + x2)) + (((x3 >>> ((8 : Int32) &&& 31)) &&& (255 : Int32)) - ((x3 >>> ((8 : Int32) &&& 31)) &&& (255 : Int32)) / (8 : Int32) * (8 : Int32)))), (8, .int (((x3).toUInt32 >>> (((24 : Int32)).toUInt32 &&& Int32.toUInt32 31)).toInt32)), (7, .int ((x3 >>> ((16 : Int32) &&& 31)) &&& (255 : Int32))), (6, .int ((x3 >>> ((8 : Int32) &&& 31)) &&& (255 : Int32))), (5, .int (x3 &&& (255 : Int32))), (4, .int (((6 : Int32) * x1) + x2)), (0, .ref x0), (1, .int x1), (2, .int x2), (3, .int x3)]) hx hb dX11_does_52 hl (by decide) rfl (fun ls hl => ?_)
    refine lv_bipush (v := (8 : Int32)) hx hb dX11_does_54 (by decide) ?_
    refine lv_iload hx hb dX11_does_56 (lv_at hl 5 rfl) ?_
    refine lv_imul hx hb dX11_does_58 ?_
    refine lv_iload hx hb dX11_does_59 (lv_at hl 2 rfl) ?_
    refine lv_bipush (v := (8 : Int32)) hx hb dX11_does_61 (by decide) ?_
    refine lv_irem hx hb dX11_does_63 (by decide) ?_
    refine lv_iadd hx hb dX11_does_64 ?_
    refine lv_istore (lv' := [(10, .int (((8 : Int32) * (((6 : Int32) * x1) + x2)) + (((x3 >>> ((16 : Int32) &&& 31)) &&& (255 : Int32)) - ((x3 >>> ((16 : Int32) &&& 31)) &&& (255 : Int32)) / (8 : Int32) * (8 : Int32)))), (9, .int (((8 : Int32) * (((6 : Int32) * x1) + x2)) + (((x3 >>> ((8 : Int32) &&& 31)) &&& (255 : Int32)) - ((x3 >>> ((8 : Int32) &&& 31)) &&& (255 : Int32)) / (8 : Int32) * (8 : Int32)))), (8, .int (((x3).toUInt32 >>> (((24 : Int32)).toUInt32 &&& Int32.toUInt32 31)).toInt32)), (7, .int ((x3 >>> ((16 : Int32) &&& 31)) &&& (255 : Int32))), (6, .int ((x3 >>> ((8 : Int32) &&& 31)) &&& (255 : Int32))), (5, .int (x3 &&& (255 : Int32))), (4, .int (((6 : Int32) * x1) + x2)), (0, .ref x0), (1, .int x1), (2, .int x2), (3, .int x3)]) hx hb dX11_does_65 hl (by decide) rfl (fun ls hl => ?_)
    refine lv_bipush (v := (8 : Int32)) hx hb dX11_does_67 (by decide) ?_
    refine lv_iload hx hb dX11_does_69 (lv_at hl 6 rfl) ?_
    refine lv_imul hx hb dX11_does_71 ?_
    refine lv_iload hx hb dX11_does_72 (lv_at hl 2 rfl) ?_
    refine lv_bipush (v := (8 : Int32)) hx hb dX11_does_74 (by decide) ?_
    refine lv_irem hx hb dX11_does_76 (by decide) ?_
    refine lv_iadd hx hb dX11_does_77 ?_
    refine lv_istore (lv' := [(11, .int (((8 : Int32) * (((6 : Int32) * x1) + x2)) + ((((x3).toUInt32 >>> (((24 : Int32)).toUInt32 &&& Int32.toUInt32 31)).toInt32) - (((x3).toUInt32 >>> (((24 : Int32)).toUInt32 &&& Int32.toUInt32 31)).toInt32) / (8 : Int32) * (8 : Int32)))), (10, .int (((8 : Int32) * (((6 : Int32) * x1) + x2)) + (((x3 >>> ((16 : Int32) &&& 31)) &&& (255 : Int32)) - ((x3 >>> ((16 : Int32) &&& 31)) &&& (255 : Int32)) / (8 : Int32) * (8 : Int32)))), (9, .int (((8 : Int32) * (((6 : Int32) * x1) + x2)) + (((x3 >>> ((8 : Int32) &&& 31)) &&& (255 : Int32)) - ((x3 >>> ((8 : Int32) &&& 31)) &&& (255 : Int32)) / (8 : Int32) * (8 : Int32)))), (8, .int (((x3).toUInt32 >>> (((24 : Int32)).toUInt32 &&& Int32.toUInt32 31)).toInt32)), (7, .int ((x3 >>> ((16 : Int32) &&& 31)) &&& (255 : Int32))), (6, .int ((x3 >>> ((8 : Int32) &&& 31)) &&& (255 : Int32))), (5, .int (x3 &&& (255 : Int32))), (4, .int (((6 : Int32) * x1) + x2)), (0, .ref x0), (1, .int x1), (2, .int x2), (3, .int x3)]) hx hb dX11_does_78 hl (by decide) rfl (fun ls hl => ?_)
    refine lv_aload_n hx hb dX11_does_80 rfl (lv_at hl 8 rfl) ?_
    refine mo_wR C A (T := TX11) iX11 rfl 19 (by decide) tb_136 rfl dX11_does_81 hF (fun v97 hF => ?_)
    refine lv_iload hx hb dX11_does_84 (lv_at hl 1 rfl) ?_
    refine mo_wla C A dX11_does_86 hF (fun v98 hF => ?_)
    refine lv_istore (lv' := [(12, .int v98), (11, .int (((8 : Int32) * (((6 : Int32) * x1) + x2)) + ((((x3).toUInt32 >>> (((24 : Int32)).toUInt32 &&& Int32.toUInt32 31)).toInt32) - (((x3).toUInt32 >>> (((24 : Int32)).toUInt32 &&& Int32.toUInt32 31)).toInt32) / (8 : Int32) * (8 : Int32)))), (10, .int (((8 : Int32) * (((6 : Int32) * x1) + x2)) + (((x3 >>> ((16 : Int32) &&& 31)) &&& (255 : Int32)) - ((x3 >>> ((16 : Int32) &&& 31)) &&& (255 : Int32)) / (8 : Int32) * (8 : Int32)))), (9, .int (((8 : Int32) * (((6 : Int32) * x1) + x2)) + (((x3 >>> ((8 : Int32) &&& 31)) &&& (255 : Int32)) - ((x3 >>> ((8 : Int32) &&& 31)) &&& (255 : Int32)) / (8 : Int32) * (8 : Int32)))), (8, .int (((x3).toUInt32 >>> (((24 : Int32)).toUInt32 &&& Int32.toUInt32 31)).toInt32)), (7, .int ((x3 >>> ((16 : Int32) &&& 31)) &&& (255 : Int32))), (6, .int ((x3 >>> ((8 : Int32) &&& 31)) &&& (255 : Int32))), (5, .int (x3 &&& (255 : Int32))), (4, .int (((6 : Int32) * x1) + x2)), (0, .ref x0), (1, .int x1), (2, .int x2), (3, .int x3)]) hx hb dX11_does_87 hl (by decide) rfl (fun ls hl => ?_)
    refine lv_aload_n hx hb dX11_does_89 rfl (lv_at hl 9 rfl) ?_
    refine mo_wR C A (T := TX11) iX11 rfl 19 (by decide) tb_136 rfl dX11_does_90 hF (fun v99 hF => ?_)
    refine lv_iload hx hb dX11_does_93 (lv_at hl 1 rfl) ?_
    refine mo_wla C A dX11_does_95 hF (fun v100 hF => ?_)
    refine lv_istore (lv' := [(13, .int v100), (12, .int v98), (11, .int (((8 : Int32) * (((6 : Int32) * x1) + x2)) + ((((x3).toUInt32 >>> (((24 : Int32)).toUInt32 &&& Int32.toUInt32 31)).toInt32) - (((x3).toUInt32 >>> (((24 : Int32)).toUInt32 &&& Int32.toUInt32 31)).toInt32) / (8 : Int32) * (8 : Int32)))), (10, .int (((8 : Int32) * (((6 : Int32) * x1) + x2)) + (((x3 >>> ((16 : Int32) &&& 31)) &&& (255 : Int32)) - ((x3 >>> ((16 : Int32) &&& 31)) &&& (255 : Int32)) / (8 : Int32) * (8 : Int32)))), (9, .int (((8 : Int32) * (((6 : Int32) * x1) + x2)) + (((x3 >>> ((8 : Int32) &&& 31)) &&& (255 : Int32)) - ((x3 >>> ((8 : Int32) &&& 31)) &&& (255 : Int32)) / (8 : Int32) * (8 : Int32)))), (8, .int (((x3).toUInt32 >>> (((24 : Int32)).toUInt32 &&& Int32.toUInt32 31)).toInt32)), (7, .int ((x3 >>> ((16 : Int32) &&& 31)) &&& (255 : Int32))), (6, .int ((x3 >>> ((8 : Int32) &&& 31)) &&& (255 : Int32))), (5, .int (x3 &&& (255 : Int32))), (4, .int (((6 : Int32) * x1) + x2)), (0, .ref x0), (1, .int x1), (2, .int x2), (3, .int x3)]) hx hb dX11_does_96 hl (by decide) rfl (fun ls hl => ?_)
    refine lv_iload hx hb dX11_does_98 (lv_at hl 8 rfl) ?_
    refine lv_bipush (v := (24 : Int32)) hx hb dX11_does_100 (by decide) ?_
    refine lv_icmp_gt (tgt := 136) hx hb dX11_does_102 (by decide) (fun c101 => ?_) (fun c101 => ?_)
    · have hF := mo_ifT c101 hF
      refine lv_iconst (v := (0 : Int32)) hx hb dX11_does_136 (by decide) ?_
      rw [hQ]
      exact mo_zret C A hr hlocks dX11_does_137 hF
    · have hF := mo_ifF c101 hF
      refine lv_iload hx hb dX11_does_105 (lv_at hl 8 rfl) ?_
      refine lv_bipush (v := (14 : Int32)) hx hb dX11_does_107 (by decide) ?_
      refine lv_icmp_lt (tgt := 138) hx hb dX11_does_109 (by decide) (fun c102 => ?_) (fun c102 => ?_)
      · have hF := mo_ifT c102 hF
        exact J138 x0 x1 x2 (((6 : Int32) * x1) + x2) (x3 &&& (255 : Int32)) ((x3 >>> ((8 : Int32) &&& 31)) &&& (255 : Int32)) ((x3 >>> ((16 : Int32) &&& 31)) &&& (255 : Int32)) (((x3).toUInt32 >>> (((24 : Int32)).toUInt32 &&& Int32.toUInt32 31)).toInt32) (((8 : Int32) * (((6 : Int32) * x1) + x2)) + (((x3 >>> ((8 : Int32) &&& 31)) &&& (255 : Int32)) - ((x3 >>> ((8 : Int32) &&& 31)) &&& (255 : Int32)) / (8 : Int32) * (8 : Int32))) v98 v100 h H locs ls A (lv_sub hl [10, 11, 12, 9, 8, 7, 6, 5, 4, 1, 0] rfl) hF
      · have hF := mo_ifF c102 hF
        refine lv_iload hx hb dX11_does_112 (lv_at hl 8 rfl) ?_
        refine lv_bipush (v := (17 : Int32)) hx hb dX11_does_114 (by decide) ?_
        refine lv_icmp_gt (tgt := 138) hx hb dX11_does_116 (by decide) (fun c103 => ?_) (fun c103 => ?_)
        · have hF := mo_ifT c103 hF
          exact J138 x0 x1 x2 (((6 : Int32) * x1) + x2) (x3 &&& (255 : Int32)) ((x3 >>> ((8 : Int32) &&& 31)) &&& (255 : Int32)) ((x3 >>> ((16 : Int32) &&& 31)) &&& (255 : Int32)) (((x3).toUInt32 >>> (((24 : Int32)).toUInt32 &&& Int32.toUInt32 31)).toInt32) (((8 : Int32) * (((6 : Int32) * x1) + x2)) + (((x3 >>> ((8 : Int32) &&& 31)) &&& (255 : Int32)) - ((x3 >>> ((8 : Int32) &&& 31)) &&& (255 : Int32)) / (8 : Int32) * (8 : Int32))) v98 v100 h H locs ls A (lv_sub hl [10, 11, 12, 9, 8, 7, 6, 5, 4, 1, 0] rfl) hF
        · have hF := mo_ifF c103 hF
          refine lv_aload_n hx hb dX11_does_119 rfl (lv_at hl 10 rfl) ?_
          refine lv_iload_n hx hb dX11_does_120 rfl (lv_at hl 11 rfl) ?_
          refine lv_iload_n hx hb dX11_does_121 rfl (lv_at hl 12 rfl) ?_
          refine lv_iload hx hb dX11_does_122 (lv_at hl 8 rfl) ?_
          refine lv_iload hx hb dX11_does_124 (lv_at hl 7 rfl) ?_
          refine lv_iload hx hb dX11_does_126 (lv_at hl 1 rfl) ?_
          refine lv_iload hx hb dX11_does_128 (lv_at hl 0 rfl) ?_
          refine mo_cV (n := 6) (As := [.int x1, .int x2, .int (x3 &&& (255 : Int32)), .int ((x3 >>> ((8 : Int32) &&& 31)) &&& (255 : Int32)), .int v98, .int v100]) (rest := []) C A hml hl.1 (c_X11_sends l D dA b0 x0 x1 x2 (x3 &&& (255 : Int32)) ((x3 >>> ((8 : Int32) &&& 31)) &&& (255 : Int32)) v98 v100) (ci := 11) (q := (RX11, TX11, 56)) rfl (fun _ e => (mo_ckE e).1) (tb_v tb_560 tb_561 tb_562 tb_5 tb_563) rfl (by decide +kernel) ⟨Nat.le_trans (by decide) hfr, Nat.le_trans (Nat.le_of_ble_eq_true rfl) hlo⟩ rfl (Nat.le_of_ble_eq_true rfl) rfl dX11_does_130 hF (fun v104 h H locs hF A => ?_)
          show W _ _ _ _ _ _ _ _ _ _ _ _ _ _ _ (F0 m 133 ls [.int v104])
          refine lv_if_ne (tgt := 138) hx hb dX11_does_133 (by decide) (fun c105 => ?_) (fun c105 => ?_)
          · have hF := mo_ifF c105 hF
            exact J138 x0 x1 x2 (((6 : Int32) * x1) + x2) (x3 &&& (255 : Int32)) ((x3 >>> ((8 : Int32) &&& 31)) &&& (255 : Int32)) ((x3 >>> ((16 : Int32) &&& 31)) &&& (255 : Int32)) (((x3).toUInt32 >>> (((24 : Int32)).toUInt32 &&& Int32.toUInt32 31)).toInt32) (((8 : Int32) * (((6 : Int32) * x1) + x2)) + (((x3 >>> ((8 : Int32) &&& 31)) &&& (255 : Int32)) - ((x3 >>> ((8 : Int32) &&& 31)) &&& (255 : Int32)) / (8 : Int32) * (8 : Int32))) v98 v100 h H locs ls A (lv_sub hl [10, 11, 12, 9, 8, 7, 6, 5, 4, 1, 0] rfl) hF
          · have hF := mo_ifT c105 hF
            refine lv_iconst (v := (0 : Int32)) hx hb dX11_does_136 (by decide) ?_
            rw [hQ]
            exact mo_zret C A hr hlocks dX11_does_137 hF
  exact E h0 s.heap [] hF A
