set_option maxHeartbeats 4000000 in
set_option maxRecDepth 100000 in
theorem c_X11_seal (l : Launch) (D : va_G) (dA : Nat → ClassId) (b0 : Nat) (x0 : Nat) : mo_Met l yX11_seal [Cond.code yX11_seal cX11_seal 1 (some .int)] 1 22 D dA b0 [.ref x0] (fun r : Int32 => some (.int r)) (F_X11_seal x0) := by
  refine mo_MetOf (own := RX11) (by decide) (Nat.le_of_ble_eq_true rfl) [(0, .ref x0)] rfl rfl ?_
  intro p e R s m args below meth c Q h0 h2 z ls hQ C hml hr hlocks hnm hfr hlo hF A hl
  have hx := C.1
  have hb := C.2.1
  have hown := C.2.2.1
  have hts := C.2.2.2.1
  have hK := C.2.2.2.2.1
  have iX11 := inlX11
  unfold F_X11_seal at hF
  obtain ⟨-, hF⟩ := mo_ckE hF
  have E : ∀ (h : mo_H) (H : Heap) (locs : List Loc), (mo_b (mo_gI x0 11 13) fun v1 => (if v1 = 0 then mo_b (mo_gR x0 11 12) fun v3 => mo_b (mo_la 0 v3 (0 : Int32)) fun v4 => (if v4 = 0 then mo_ret (-1 : Int32) else mo_b (mo_pZ x0 11 13 (1 : Int32)) fun _ => mo_b (F_X11_reset x0 (0 : Int32)) fun v7 => mo_ret (1 : Int32)) else mo_ret (-1 : Int32))).1 h = some (z, h2) → mo_A D dA b0 s.heap h0 h H locs → W p l e R s m args below meth c H locs (h.2.1 - h0.2.1) (h.2.2 - h0.2.2) Q (F0 m 0 ls []) := by
    intro h H locs hF A
    refine lv_aload_n hx hb dX11_seal_0 rfl (lv_at hl 0 rfl) ?_
    refine mo_wI C A (T := TX11) iX11 rfl 13 (by decide) tb_196 rfl dX11_seal_1 hF (fun v1 hF => ?_)
    refine lv_if_ne (tgt := 16) hx hb dX11_seal_4 (by decide) (fun c2 => ?_) (fun c2 => ?_)
    · have hF := mo_ifF c2 hF
      refine lv_iconst (v := (-1 : Int32)) hx hb dX11_seal_16 (by decide) ?_
      rw [hQ]
      exact mo_iret C A hr hlocks dX11_seal_17 hF
    · have hF := mo_ifT c2 hF
      refine lv_aload_n hx hb dX11_seal_7 rfl (lv_at hl 0 rfl) ?_
      refine mo_wR C A (T := TX11) iX11 rfl 12 (by decide) tb_131 rfl dX11_seal_8 hF (fun v3 hF => ?_)
      refine lv_iconst (v := (0 : Int32)) hx hb dX11_seal_11 (by decide) ?_
      refine mo_wla C A dX11_seal_12 hF (fun v4 hF => ?_)
      refine lv_if_ne (tgt := 18) hx hb dX11_seal_13 (by decide) (fun c5 => ?_) (fun c5 => ?_)
      · have hF := mo_ifF c5 hF
        refine lv_aload_n hx hb dX11_seal_18 rfl (lv_at hl 0 rfl) ?_
        refine lv_iconst (v := (1 : Int32)) hx hb dX11_seal_19 (by decide) ?_
        obtain ⟨z6, hF⟩ := mo_pZE hF
        refine mo_wpV C A (T := TX11) iX11 tyX11 tyX11_ok nmX11 rfl 13 (by decide) tb_196 rfl rfl (by rcases z6 with h | h <;> rw [h] <;> rfl) (by rcases z6 with h | h <;> rw [h] <;> rfl) dX11_seal_20 hF (fun h H locs hF A => ?_)
        refine lv_aload_n hx hb dX11_seal_23 rfl (lv_at hl 0 rfl) ?_
        refine lv_iconst (v := (0 : Int32)) hx hb dX11_seal_24 (by decide) ?_
        refine mo_cV (n := 1) (As := [.int (0 : Int32)]) (rest := []) C A hml hl.1 (c_X11_reset l D dA b0 x0 (0 : Int32)) (ci := 11) (q := (RX11, TX11, 56)) rfl (fun _ e => (mo_ckE e).1) (tb_v tb_295 tb_296 tb_297 tb_5 tb_298) rfl (by decide +kernel) ⟨Nat.le_trans (by decide) hfr, Nat.le_trans (Nat.le_of_ble_eq_true rfl) hlo⟩ rfl (Nat.le_of_ble_eq_true rfl) rfl dX11_seal_25 hF (fun v7 h H locs hF A => ?_)
        show W _ _ _ _ _ _ _ _ _ _ _ _ _ _ _ (F0 m 28 ls [])
        refine lv_iconst (v := (1 : Int32)) hx hb dX11_seal_28 (by decide) ?_
        rw [hQ]
        exact mo_iret C A hr hlocks dX11_seal_29 hF
      · have hF := mo_ifT c5 hF
        refine lv_iconst (v := (-1 : Int32)) hx hb dX11_seal_16 (by decide) ?_
        rw [hQ]
        exact mo_iret C A hr hlocks dX11_seal_17 hF
  exact E h0 s.heap [] hF A
set_option maxHeartbeats 4000000 in
set_option maxRecDepth 100000 in
theorem c_X11_slotDomain (l : Launch) (D : va_G) (dA : Nat → ClassId) (b0 : Nat) (x0 : Nat) (x1 : Int32) : mo_Met l yX11_slotDomain [Cond.code yX11_slotDomain cX11_slotDomain 2 (some .int)] 0 0 D dA b0 [.ref x0, .int x1] (fun r : Int32 => some (.int r)) (F_X11_slotDomain x0 x1) := by
  refine mo_MetOf (own := RX11) (by decide) (Nat.le_of_ble_eq_true rfl) [(0, .ref x0), (1, .int x1)] rfl rfl ?_
  intro p e R s m args below meth c Q h0 h2 z ls hQ C hml hr hlocks hnm hfr hlo hF A hl
  have hx := C.1
  have hb := C.2.1
  have hown := C.2.2.1
  have hts := C.2.2.2.1
  have hK := C.2.2.2.2.1
  have iX11 := inlX11
  unfold F_X11_slotDomain at hF
  obtain ⟨-, hF⟩ := mo_ckE hF
  have E : ∀ (h : mo_H) (H : Heap) (locs : List Loc), (mo_b (mo_gR x0 11 10) fun v1 => mo_b (mo_gR x0 11 46) fun v2 => mo_b (mo_la 0 v2 x1) fun v3 => mo_b (mo_gR x0 11 47) fun v4 => mo_b (mo_la 0 v4 x1) fun v5 => mo_b (mo_la 0 v1 (((12 : Int32) * v3) + v5)) fun v6 => mo_ret v6).1 h = some (z, h2) → mo_A D dA b0 s.heap h0 h H locs → W p l e R s m args below meth c H locs (h.2.1 - h0.2.1) (h.2.2 - h0.2.2) Q (F0 m 0 ls []) := by
    intro h H locs hF A
    refine lv_aload_n hx hb dX11_slotDomain_0 rfl (lv_at hl 0 rfl) ?_
    refine mo_wR C A (T := TX11) iX11 rfl 10 (by decide) tb_129 rfl dX11_slotDomain_1 hF (fun v1 hF => ?_)
    refine lv_bipush (v := (12 : Int32)) hx hb dX11_slotDomain_4 (by decide) ?_
    refine lv_aload_n hx hb dX11_slotDomain_6 rfl (lv_at hl 0 rfl) ?_
    refine mo_wR C A (T := TX11) iX11 rfl 46 (by decide) tb_164 rfl dX11_slotDomain_7 hF (fun v2 hF => ?_)
    refine lv_iload_n hx hb dX11_slotDomain_10 rfl (lv_at hl 1 rfl) ?_
    refine mo_wla C A dX11_slotDomain_11 hF (fun v3 hF => ?_)
    refine lv_imul hx hb dX11_slotDomain_12 ?_
    refine lv_aload_n hx hb dX11_slotDomain_13 rfl (lv_at hl 0 rfl) ?_
    refine mo_wR C A (T := TX11) iX11 rfl 47 (by decide) tb_165 rfl dX11_slotDomain_14 hF (fun v4 hF => ?_)
    refine lv_iload_n hx hb dX11_slotDomain_17 rfl (lv_at hl 1 rfl) ?_
    refine mo_wla C A dX11_slotDomain_18 hF (fun v5 hF => ?_)
    refine lv_iadd hx hb dX11_slotDomain_19 ?_
    refine mo_wla C A dX11_slotDomain_20 hF (fun v6 hF => ?_)
    rw [hQ]
    exact mo_iret C A hr hlocks dX11_slotDomain_21 hF
  exact E h0 s.heap [] hF A
set_option maxHeartbeats 4000000 in
set_option maxRecDepth 100000 in
theorem c_X11_isReady (l : Launch) (D : va_G) (dA : Nat → ClassId) (b0 : Nat) (x0 : Nat) (x1 : Int32) : mo_Met l yX11_isReady [Cond.code yX11_isReady cX11_isReady 2 (some .boolean)] 1 21 D dA b0 [.ref x0, .int x1] (fun r : Int32 => some (.int r)) (F_X11_isReady x0 x1) := by
  refine mo_MetOf (own := RX11) (by decide) (Nat.le_of_ble_eq_true rfl) [(0, .ref x0), (1, .int x1)] rfl rfl ?_
  intro p e R s m args below meth c Q h0 h2 z ls hQ C hml hr hlocks hnm hfr hlo hF A hl
  have hx := C.1
  have hb := C.2.1
  have hown := C.2.2.1
  have hts := C.2.2.2.1
  have hK := C.2.2.2.2.1
  have iX11 := inlX11
  have J36 : ∀    (h : mo_H) (H : Heap) (locs : List Loc) (ls : Array Slot), mo_A D dA b0 s.heap h0 h H locs → lv_has ls 2 [] → (F_X11_isReady_36).1 h = some (z, h2) → W p l e R s m args below meth c H locs (h.2.1 - h0.2.1) (h.2.2 - h0.2.2) Q (F0 m 36 ls []) := by
    intro   h H locs ls A hl hF
    unfold F_X11_isReady_36 at hF
    refine lv_iconst (v := (1 : Int32)) hx hb dX11_isReady_36 (by decide) ?_
    refine lv_goto (tgt := 41) hx hb dX11_isReady_37 (by decide) ?_
    rw [hQ]
    exact mo_zret C A hr hlocks dX11_isReady_41 hF
  unfold F_X11_isReady at hF
  obtain ⟨-, hF⟩ := mo_ckE hF
  have E : ∀ (h : mo_H) (H : Heap) (locs : List Loc), (mo_b (mo_gR x0 11 22) fun v1 => mo_b (F_X11_slotDomain x0 x1) fun v2 => mo_b (mo_la 0 v1 (((6 : Int32) * x1) + v2)) fun v3 => (if v3 = 0 then mo_b (mo_gR x0 11 50) fun v5 => mo_b (mo_la 1 v5 x1) fun v6 => (if v6 = 0 then mo_b (mo_gR x0 11 51) fun v8 => mo_b (mo_la 1 v8 x1) fun v9 => (if v9 = 0 then F_X11_isReady_36 else mo_rz (0 : Int32)) else F_X11_isReady_36) else mo_rz (0 : Int32))).1 h = some (z, h2) → mo_A D dA b0 s.heap h0 h H locs → W p l e R s m args below meth c H locs (h.2.1 - h0.2.1) (h.2.2 - h0.2.2) Q (F0 m 0 ls []) := by
    intro h H locs hF A
    refine lv_aload_n hx hb dX11_isReady_0 rfl (lv_at hl 0 rfl) ?_
    refine mo_wR C A (T := TX11) iX11 rfl 22 (by decide) tb_139 rfl dX11_isReady_1 hF (fun v1 hF => ?_)
    refine lv_bipush (v := (6 : Int32)) hx hb dX11_isReady_4 (by decide) ?_
    refine lv_iload_n hx hb dX11_isReady_6 rfl (lv_at hl 1 rfl) ?_
    refine lv_imul hx hb dX11_isReady_7 ?_
    refine lv_aload_n hx hb dX11_isReady_8 rfl (lv_at hl 0 rfl) ?_
    refine lv_iload_n hx hb dX11_isReady_9 rfl (lv_at hl 1 rfl) ?_
    refine mo_cV (n := 1) (As := [.int x1]) (rest := [.int ((6 : Int32) * x1), .ref v1]) C A hml hl.1 (c_X11_slotDomain l D dA b0 x0 x1) (ci := 11) (q := (RX11, TX11, 56)) rfl (fun _ e => (mo_ckE e).1) (tb_v tb_535 tb_536 tb_537 tb_5 tb_538) rfl (by decide +kernel) ⟨Nat.le_trans (by decide) hfr, Nat.le_trans (Nat.le_of_ble_eq_true rfl) hlo⟩ rfl (Nat.le_of_ble_eq_true rfl) rfl dX11_isReady_10 hF (fun v2 h H locs hF A => ?_)
    show W _ _ _ _ _ _ _ _ _ _ _ _ _ _ _ (F0 m 13 ls [.int v2, .int ((6 : Int32) * x1), .ref v1])
    refine lv_iadd hx hb dX11_isReady_13 ?_
    refine mo_wla C A dX11_isReady_14 hF (fun v3 hF => ?_)
    refine lv_if_ne (tgt := 40) hx hb dX11_isReady_15 (by decide) (fun c4 => ?_) (fun c4 => ?_)
    · have hF := mo_ifF c4 hF
      refine lv_iconst (v := (0 : Int32)) hx hb dX11_isReady_40 (by decide) ?_
      rw [hQ]
      exact mo_zret C A hr hlocks dX11_isReady_41 hF
    · have hF := mo_ifT c4 hF
      refine lv_aload_n hx hb dX11_isReady_18 rfl (lv_at hl 0 rfl) ?_
      refine mo_wR C A (T := TX11) iX11 rfl 50 (by decide) tb_168 rfl dX11_isReady_19 hF (fun v5 hF => ?_)
      refine lv_iload_n hx hb dX11_isReady_22 rfl (lv_at hl 1 rfl) ?_
      refine mo_wlz C A dX11_isReady_23 hF (fun v6 hF => ?_)
      refine lv_if_ne (tgt := 36) hx hb dX11_isReady_24 (by decide) (fun c7 => ?_) (fun c7 => ?_)
      · have hF := mo_ifF c7 hF
        exact J36 h H locs ls A (lv_sub hl [] rfl) hF
      · have hF := mo_ifT c7 hF
        refine lv_aload_n hx hb dX11_isReady_27 rfl (lv_at hl 0 rfl) ?_
        refine mo_wR C A (T := TX11) iX11 rfl 51 (by decide) tb_169 rfl dX11_isReady_28 hF (fun v8 hF => ?_)
        refine lv_iload_n hx hb dX11_isReady_31 rfl (lv_at hl 1 rfl) ?_
        refine mo_wlz C A dX11_isReady_32 hF (fun v9 hF => ?_)
        refine lv_if_ne (tgt := 40) hx hb dX11_isReady_33 (by decide) (fun c10 => ?_) (fun c10 => ?_)
        · have hF := mo_ifF c10 hF
          refine lv_iconst (v := (0 : Int32)) hx hb dX11_isReady_40 (by decide) ?_
          rw [hQ]
          exact mo_zret C A hr hlocks dX11_isReady_41 hF
        · have hF := mo_ifT c10 hF
          exact J36 h H locs ls A (lv_sub hl [] rfl) hF
  exact E h0 s.heap [] hF A
set_option maxHeartbeats 4000000 in
set_option maxRecDepth 100000 in
theorem c_X11_beginSlot (l : Launch) (D : va_G) (dA : Nat → ClassId) (b0 : Nat) (x0 : Nat) (x1 : Int32) (x2 : Int32) : mo_Met l yX11_beginSlot [Cond.code yX11_beginSlot cX11_beginSlot 5 none] 0 0 D dA b0 [.ref x0, .int x1, .int x2] (fun _ : Unit => none) (F_X11_beginSlot x0 x1 x2) := by
  refine mo_MetOf (own := RX11) (by decide) (Nat.le_of_ble_eq_true rfl) [(0, .ref x0), (1, .int x1), (2, .int x2)] rfl rfl ?_
  intro p e R s m args below meth c Q h0 h2 z ls hQ C hml hr hlocks hnm hfr hlo hF A hl
  have hx := C.1
  have hb := C.2.1
  have hown := C.2.2.1
  have hts := C.2.2.2.1
  have hK := C.2.2.2.2.1
  have iX11 := inlX11
  have J122 : ∀ (k2 : Nat → Int32 → Int32 → Int32 → mo_M Unit) (hk2 : ∀ (x0 : Nat) (x1 : Int32) (x2 : Int32) (x3 : Int32) (h : mo_H) (H : Heap) (locs : List Loc) (ls : Array Slot), mo_A D dA b0 s.heap h0 h H locs → lv_has ls 5 [(0, .ref x0), (1, .int x1), (2, .int x2), (3, .int x3)] → (k2 x0 x1 x2 x3).1 h = some (z, h2) → W p l e R s m args below meth c H locs (h.2.1 - h0.2.1) (h.2.2 - h0.2.2) Q (F0 m 2 ls [])) (x0 : Nat) (x1 : Int32) (x2 : Int32) (x3 : Int32) (h : mo_H) (H : Heap) (locs : List Loc) (ls : Array Slot), mo_A D dA b0 s.heap h0 h H locs → lv_has ls 5 [(0, .ref x0), (1, .int x1), (2, .int x2), (3, .int x3)] → (F_X11_beginSlot_122 k2 x0 x1 x2 x3).1 h = some (z, h2) → W p l e R s m args below meth c H locs (h.2.1 - h0.2.1) (h.2.2 - h0.2.2) Q (F0 m 122 ls []) := by
    intro k2 hk2 x0 x1 x2 x3 h H locs ls A hl hF
    unfold F_X11_beginSlot_122 at hF
    refine lv_iinc (v := (x3 + (1 : Int32))) (lv' := [(3, .int (x3 + (1 : Int32))), (0, .ref x0), (1, .int x1), (2, .int x2)]) hx hb dX11_beginSlot_122 hl (k := 3) rfl rfl (by decide) rfl (fun ls hl => ?_)
    refine lv_goto (tgt := 2) hx hb dX11_beginSlot_125 (by decide) ?_
    exact hk2 x0 x1 x2 (x3 + (1 : Int32)) h H locs ls A (lv_sub hl [1, 2, 3, 0] rfl) hF
  have J104 : ∀ (k2 : Nat → Int32 → Int32 → Int32 → mo_M Unit) (hk2 : ∀ (x0 : Nat) (x1 : Int32) (x2 : Int32) (x3 : Int32) (h : mo_H) (H : Heap) (locs : List Loc) (ls : Array Slot), mo_A D dA b0 s.heap h0 h H locs → lv_has ls 5 [(0, .ref x0), (1, .int x1), (2, .int x2), (3, .int x3)] → (k2 x0 x1 x2 x3).1 h = some (z, h2) → W p l e R s m args below meth c H locs (h.2.1 - h0.2.1) (h.2.2 - h0.2.2) Q (F0 m 2 ls [])) (x0 : Nat) (x1 : Int32) (x2 : Int32) (x3 : Int32) (x4 : Int32) (h : mo_H) (H : Heap) (locs : List Loc) (ls : Array Slot), mo_A D dA b0 s.heap h0 h H locs → lv_has ls 5 [(0, .ref x0), (1, .int x1), (2, .int x2), (3, .int x3), (4, .int x4)] → (F_X11_beginSlot_104 k2 x0 x1 x2 x3 x4).1 h = some (z, h2) → W p l e R s m args below meth c H locs (h.2.1 - h0.2.1) (h.2.2 - h0.2.2) Q (F0 m 104 ls []) := by
    intro k2 hk2 x0 x1 x2 x3 x4 h H locs ls A hl hF
    unfold F_X11_beginSlot_104 at hF
    refine lv_aload_n hx hb dX11_beginSlot_104 rfl (lv_at hl 0 rfl) ?_
    refine mo_wR C A (T := TX11) iX11 rfl 3 (by decide) tb_122 rfl dX11_beginSlot_105 hF (fun v1 hF => ?_)
    refine lv_iload_n hx hb dX11_beginSlot_108 rfl (lv_at hl 3 rfl) ?_
    refine mo_wla C A dX11_beginSlot_109 hF (fun v2 hF => ?_)
    refine lv_iload_n hx hb dX11_beginSlot_110 rfl (lv_at hl 2 rfl) ?_
    refine lv_icmp_ne (tgt := 122) hx hb dX11_beginSlot_111 (by decide) (fun c3 => ?_) (fun c3 => ?_)
    · have hF := mo_ifF c3 hF
      exact J122 k2 hk2 x0 x1 x2 x3 h H locs ls A (lv_sub hl [0, 1, 2, 3] rfl) hF
    · have hF := mo_ifT c3 hF
      refine lv_aload_n hx hb dX11_beginSlot_114 rfl (lv_at hl 0 rfl) ?_
      refine mo_wR C A (T := TX11) iX11 rfl 37 (by decide) tb_154 rfl dX11_beginSlot_115 hF (fun v4 hF => ?_)
      refine lv_iload hx hb dX11_beginSlot_118 (lv_at hl 4 rfl) ?_
      refine lv_iconst (v := (0 : Int32)) hx hb dX11_beginSlot_120 (by decide) ?_
      refine mo_wsa C A dX11_beginSlot_121 hF (fun h H locs hF A => ?_)
      exact J122 k2 hk2 x0 x1 x2 x3 h H locs ls A (lv_sub hl [0, 1, 2, 3] rfl) hF
  have J128 : ∀   (x0 : Nat) (x1 : Int32) (h : mo_H) (H : Heap) (locs : List Loc) (ls : Array Slot), mo_A D dA b0 s.heap h0 h H locs → lv_has ls 5 [(0, .ref x0), (1, .int x1)] → (F_X11_beginSlot_128 x0 x1).1 h = some (z, h2) → W p l e R s m args below meth c H locs (h.2.1 - h0.2.1) (h.2.2 - h0.2.2) Q (F0 m 128 ls []) := by
    intro  x0 x1 h H locs ls A hl hF
    unfold F_X11_beginSlot_128 at hF
    refine lv_aload_n hx hb dX11_beginSlot_128 rfl (lv_at hl 0 rfl) ?_
    refine mo_wR C A (T := TX11) iX11 rfl 51 (by decide) tb_169 rfl dX11_beginSlot_129 hF (fun v5 hF => ?_)
    refine lv_iload_n hx hb dX11_beginSlot_132 rfl (lv_at hl 1 rfl) ?_
    refine lv_iconst (v := (0 : Int32)) hx hb dX11_beginSlot_133 (by decide) ?_
    refine mo_wsz C A dX11_beginSlot_134 hF (fun h H locs hF A => ?_)
    refine lv_aload_n hx hb dX11_beginSlot_135 rfl (lv_at hl 0 rfl) ?_
    refine mo_wR C A (T := TX11) iX11 rfl 50 (by decide) tb_168 rfl dX11_beginSlot_136 hF (fun v6 hF => ?_)
    refine lv_iload_n hx hb dX11_beginSlot_139 rfl (lv_at hl 1 rfl) ?_
    refine lv_iconst (v := (0 : Int32)) hx hb dX11_beginSlot_140 (by decide) ?_
    refine mo_wsz C A dX11_beginSlot_141 hF (fun h H locs hF A => ?_)
    rw [hQ]
    exact mo_vret C A hr hlocks dX11_beginSlot_142 hF
  have J2 : ∀   (fu : Nat) (x0 : Nat) (x1 : Int32) (x2 : Int32) (x3 : Int32) (h : mo_H) (H : Heap) (locs : List Loc) (ls : Array Slot), mo_A D dA b0 s.heap h0 h H locs → lv_has ls 5 [(0, .ref x0), (1, .int x1), (2, .int x2), (3, .int x3)] → (F_X11_beginSlot_2 fu x0 x1 x2 x3).1 h = some (z, h2) → W p l e R s m args below meth c H locs (h.2.1 - h0.2.1) (h.2.2 - h0.2.2) Q (F0 m 2 ls []) := by
    intro  fu
    induction fu with
    | zero =>
      intro x0 x1 x2 x3 h H locs ls A hl hF
      unfold F_X11_beginSlot_2 at hF
      cases hF
    | succ fu ih =>
      intro x0 x1 x2 x3 h H locs ls A hl hF
      unfold F_X11_beginSlot_2 at hF
      refine lv_iload_n hx hb dX11_beginSlot_2 rfl (lv_at hl 3 rfl) ?_
      refine lv_aload_n hx hb dX11_beginSlot_3 rfl (lv_at hl 0 rfl) ?_
      refine mo_wI C A (T := TX11) iX11 rfl 2 (by decide) tb_197 rfl dX11_beginSlot_4 hF (fun v7 hF => ?_)
      refine lv_icmp_ge (tgt := 128) hx hb dX11_beginSlot_7 (by decide) (fun c8 => ?_) (fun c8 => ?_)
      · have hF := mo_ifT c8 hF
        exact J128 x0 x1 h H locs ls A (lv_sub hl [0, 1] rfl) hF
      · have hF := mo_ifF c8 hF
        refine lv_bipush (v := (12 : Int32)) hx hb dX11_beginSlot_10 (by decide) ?_
        refine lv_iload_n hx hb dX11_beginSlot_12 rfl (lv_at hl 1 rfl) ?_
        refine lv_imul hx hb dX11_beginSlot_13 ?_
        refine lv_iload_n hx hb dX11_beginSlot_14 rfl (lv_at hl 3 rfl) ?_
        refine lv_iadd hx hb dX11_beginSlot_15 ?_
        refine lv_istore (lv' := [(4, .int (((12 : Int32) * x1) + x3)), (0, .ref x0), (1, .int x1), (2, .int x2), (3, .int x3)]) hx hb dX11_beginSlot_16 hl (by decide) rfl (fun ls hl => ?_)
        refine lv_aload_n hx hb dX11_beginSlot_18 rfl (lv_at hl 1 rfl) ?_
        refine mo_wR C A (T := TX11) iX11 rfl 5 (by decide) tb_124 rfl dX11_beginSlot_19 hF (fun v9 hF => ?_)
        refine lv_iload_n hx hb dX11_beginSlot_22 rfl (lv_at hl 4 rfl) ?_
        refine mo_wlz C A dX11_beginSlot_23 hF (fun v10 hF => ?_)
        refine lv_if_ne (tgt := 104) hx hb dX11_beginSlot_24 (by decide) (fun c11 => ?_) (fun c11 => ?_)
        · have hF := mo_ifF c11 hF
          exact J104 (F_X11_beginSlot_2  fu) ih x0 x1 x2 x3 (((12 : Int32) * x1) + x3) h H locs ls A (lv_sub hl [1, 2, 3, 4, 0] rfl) hF
        · have hF := mo_ifT c11 hF
          refine lv_aload_n hx hb dX11_beginSlot_27 rfl (lv_at hl 1 rfl) ?_
          refine mo_wR C A (T := TX11) iX11 rfl 4 (by decide) tb_123 rfl dX11_beginSlot_28 hF (fun v12 hF => ?_)
          refine lv_iload_n hx hb dX11_beginSlot_31 rfl (lv_at hl 4 rfl) ?_
          refine mo_wla C A dX11_beginSlot_32 hF (fun v13 hF => ?_)
          refine lv_iload_n hx hb dX11_beginSlot_33 rfl (lv_at hl 3 rfl) ?_
          refine lv_icmp_ne (tgt := 104) hx hb dX11_beginSlot_34 (by decide) (fun c14 => ?_) (fun c14 => ?_)
          · have hF := mo_ifF c14 hF
            exact J104 (F_X11_beginSlot_2  fu) ih x0 x1 x2 x3 (((12 : Int32) * x1) + x3) h H locs ls A (lv_sub hl [1, 2, 3, 4, 0] rfl) hF
          · have hF := mo_ifT c14 hF
            refine lv_aload_n hx hb dX11_beginSlot_37 rfl (lv_at hl 1 rfl) ?_
            refine mo_wR C A (T := TX11) iX11 rfl 36 (by decide) tb_153 rfl dX11_beginSlot_38 hF (fun v15 hF => ?_)
            refine lv_iload hx hb dX11_beginSlot_41 (lv_at hl 0 rfl) ?_
            refine lv_dup2_11 hx hb dX11_beginSlot_43 rfl rfl ?_
            refine mo_wla C A dX11_beginSlot_44 hF (fun v16 hF => ?_)
            refine lv_aload_n hx hb dX11_beginSlot_45 rfl (lv_at hl 1 rfl) ?_
            refine mo_wR C A (T := TX11) iX11 rfl 32 (by decide) tb_149 rfl dX11_beginSlot_46 hF (fun v17 hF => ?_)
            refine lv_iload hx hb dX11_beginSlot_49 (lv_at hl 0 rfl) ?_
            refine mo_wla C A dX11_beginSlot_51 hF (fun v18 hF => ?_)
            refine lv_iadd hx hb dX11_beginSlot_52 ?_
            refine mo_wsa C A dX11_beginSlot_53 hF (fun h H locs hF A => ?_)
            refine lv_aload_n hx hb dX11_beginSlot_54 rfl (lv_at hl 1 rfl) ?_
            refine mo_wR C A (T := TX11) iX11 rfl 32 (by decide) tb_149 rfl dX11_beginSlot_55 hF (fun v19 hF => ?_)
            refine lv_iload hx hb dX11_beginSlot_58 (lv_at hl 0 rfl) ?_
            refine lv_aload_n hx hb dX11_beginSlot_60 rfl (lv_at hl 1 rfl) ?_
            refine mo_wR C A (T := TX11) iX11 rfl 35 (by decide) tb_152 rfl dX11_beginSlot_61 hF (fun v20 hF => ?_)
            refine lv_iload hx hb dX11_beginSlot_64 (lv_at hl 0 rfl) ?_
            refine mo_wla C A dX11_beginSlot_66 hF (fun v21 hF => ?_)
            refine mo_wsa C A dX11_beginSlot_67 hF (fun h H locs hF A => ?_)
            refine lv_aload_n hx hb dX11_beginSlot_68 rfl (lv_at hl 1 rfl) ?_
            refine mo_wR C A (T := TX11) iX11 rfl 30 (by decide) tb_147 rfl dX11_beginSlot_69 hF (fun v22 hF => ?_)
            refine lv_iload hx hb dX11_beginSlot_72 (lv_at hl 0 rfl) ?_
            refine lv_aload_n hx hb dX11_beginSlot_74 rfl (lv_at hl 1 rfl) ?_
            refine mo_wR C A (T := TX11) iX11 rfl 33 (by decide) tb_150 rfl dX11_beginSlot_75 hF (fun v23 hF => ?_)
            refine lv_iload hx hb dX11_beginSlot_78 (lv_at hl 0 rfl) ?_
            refine mo_wla C A dX11_beginSlot_80 hF (fun v24 hF => ?_)
            refine mo_wsa C A dX11_beginSlot_81 hF (fun h H locs hF A => ?_)
            refine lv_aload_n hx hb dX11_beginSlot_82 rfl (lv_at hl 1 rfl) ?_
            refine mo_wR C A (T := TX11) iX11 rfl 31 (by decide) tb_148 rfl dX11_beginSlot_83 hF (fun v25 hF => ?_)
            refine lv_iload hx hb dX11_beginSlot_86 (lv_at hl 0 rfl) ?_
            refine lv_aload_n hx hb dX11_beginSlot_88 rfl (lv_at hl 1 rfl) ?_
            refine mo_wR C A (T := TX11) iX11 rfl 34 (by decide) tb_151 rfl dX11_beginSlot_89 hF (fun v26 hF => ?_)
            refine lv_iload hx hb dX11_beginSlot_92 (lv_at hl 0 rfl) ?_
            refine mo_wla C A dX11_beginSlot_94 hF (fun v27 hF => ?_)
            refine mo_wsa C A dX11_beginSlot_95 hF (fun h H locs hF A => ?_)
            refine lv_aload_n hx hb dX11_beginSlot_96 rfl (lv_at hl 1 rfl) ?_
            refine mo_wR C A (T := TX11) iX11 rfl 35 (by decide) tb_152 rfl dX11_beginSlot_97 hF (fun v28 hF => ?_)
            refine lv_iload hx hb dX11_beginSlot_100 (lv_at hl 0 rfl) ?_
            refine lv_iconst (v := (0 : Int32)) hx hb dX11_beginSlot_102 (by decide) ?_
            refine mo_wsa C A dX11_beginSlot_103 hF (fun h H locs hF A => ?_)
            exact J104 (F_X11_beginSlot_2  fu) ih x0 x1 x2 x3 (((12 : Int32) * x1) + x3) h H locs ls A (lv_sub hl [1, 2, 3, 4, 0] rfl) hF
  unfold F_X11_beginSlot at hF
  obtain ⟨-, hF⟩ := mo_ckE hF
  have E : ∀ (h : mo_H) (H : Heap) (locs : List Loc), (F_X11_beginSlot_2 mo_fu x0 x1 x2 (0 : Int32)).1 h = some (z, h2) → mo_A D dA b0 s.heap h0 h H locs → W p l e R s m args below meth c H locs (h.2.1 - h0.2.1) (h.2.2 - h0.2.2) Q (F0 m 0 ls []) := by
    intro h H locs hF A
    refine lv_iconst (v := (0 : Int32)) hx hb dX11_beginSlot_0 (by decide) ?_
    refine lv_istore_n (lv' := [(3, .int (0 : Int32)), (0, .ref x0), (1, .int x1), (2, .int x2)]) hx hb dX11_beginSlot_1 rfl hl (by decide) rfl (fun ls hl => ?_)
    exact J2 mo_fu x0 x1 x2 (0 : Int32) h H locs ls A (lv_sub hl [1, 2, 3, 0] rfl) hF
  exact E h0 s.heap [] hF A
set_option maxHeartbeats 4000000 in
set_option maxRecDepth 100000 in
theorem c_X11_areCells (l : Launch) (D : va_G) (dA : Nat → ClassId) (b0 : Nat) (x0 : Int64) (x2 : Int64) : mo_Met l yX11_areCells [Cond.code yX11_areCells cX11_areCells 4 (some .boolean)] 0 0 D dA b0 [.long x0, .long x2] (fun r : Int32 => some (.int r)) (F_X11_areCells x0 x2) := by
  refine mo_MetOf (own := RX11) (by decide) (Nat.le_of_ble_eq_true rfl) [(0, .long x0), (2, .long x2)] rfl rfl ?_
  intro p e R s m args below meth c Q h0 h2 z ls hQ C hml hr hlocks hnm hfr hlo hF A hl
  have hx := C.1
  have hb := C.2.1
  have hown := C.2.2.1
  have hts := C.2.2.2.1
  have hK := C.2.2.2.2.1
  unfold F_X11_areCells at hF
  have E : ∀ (h : mo_H) (H : Heap) (locs : List Loc), ((if (lg_cmp x0 (0 : Int64)) < 0 then mo_rz (0 : Int32) else (if 0 < (lg_cmp (x0 + x2) (32 : Int64)) then mo_rz (0 : Int32) else mo_rz (1 : Int32)))).1 h = some (z, h2) → mo_A D dA b0 s.heap h0 h H locs → W p l e R s m args below meth c H locs (h.2.1 - h0.2.1) (h.2.2 - h0.2.2) Q (F0 m 0 ls []) := by
    intro h H locs hF A
    refine lv_lload_n hx hb dX11_areCells_0 rfl (lv_at hl 0 rfl) ?_
    refine lv_lconst (v := (0 : Int64)) hx hb dX11_areCells_1 (by decide) ?_
    refine W.lcmp hx hb dX11_areCells_2 ?_
    refine lv_if_lt (tgt := 20) hx hb dX11_areCells_3 (by decide) (fun c1 => ?_) (fun c1 => ?_)
    · have hF := mo_ifT c1 hF
      refine lv_iconst (v := (0 : Int32)) hx hb dX11_areCells_20 (by decide) ?_
      rw [hQ]
      exact mo_zret C A hr hlocks dX11_areCells_21 hF
    · have hF := mo_ifF c1 hF
      refine lv_lload_n hx hb dX11_areCells_6 rfl (lv_at hl 0 rfl) ?_
      refine lv_lload_n hx hb dX11_areCells_7 rfl (lv_at hl 1 rfl) ?_
      refine lv_ladd hx hb dX11_areCells_8 ?_
      refine lv_ldc2 (v := (32 : Int64)) hx hb hown (hts _ tb_567) dX11_areCells_9 ?_
      refine W.lcmp hx hb dX11_areCells_12 ?_
      refine lv_if_gt (tgt := 20) hx hb dX11_areCells_13 (by decide) (fun c2 => ?_) (fun c2 => ?_)
      · have hF := mo_ifT c2 hF
        refine lv_iconst (v := (0 : Int32)) hx hb dX11_areCells_20 (by decide) ?_
        rw [hQ]
        exact mo_zret C A hr hlocks dX11_areCells_21 hF
      · have hF := mo_ifF c2 hF
        refine lv_iconst (v := (1 : Int32)) hx hb dX11_areCells_16 (by decide) ?_
        refine lv_goto (tgt := 21) hx hb dX11_areCells_17 (by decide) ?_
        rw [hQ]
        exact mo_zret C A hr hlocks dX11_areCells_21 hF
  exact E h0 s.heap [] hF A
set_option maxHeartbeats 4000000 in
set_option maxRecDepth 100000 in
theorem c_X11_ageOf (l : Launch) (D : va_G) (dA : Nat → ClassId) (b0 : Nat) (x0 : Nat) (x1 : Int32) (x2 : Int32) : mo_Met l yX11_ageOf [Cond.code yX11_ageOf cX11_ageOf 3 (some .int)] 0 0 D dA b0 [.ref x0, .int x1, .int x2] (fun r : Int32 => some (.int r)) (F_X11_ageOf x0 x1 x2) := by
  refine mo_MetOf (own := RX11) (by decide) (Nat.le_of_ble_eq_true rfl) [(0, .ref x0), (1, .int x1), (2, .int x2)] rfl rfl ?_
  intro p e R s m args below meth c Q h0 h2 z ls hQ C hml hr hlocks hnm hfr hlo hF A hl
  have hx := C.1
  have hb := C.2.1
  have hown := C.2.2.1
  have hts := C.2.2.2.1
  have hK := C.2.2.2.2.1
  have iX11 := inlX11
  unfold F_X11_ageOf at hF
  obtain ⟨-, hF⟩ := mo_ckE hF
  have E : ∀ (h : mo_H) (H : Heap) (locs : List Loc), (mo_b (mo_gR x0 11 39) fun v1 => mo_b (mo_la 0 v1 x2) fun v2 => (if v2 = 0 then mo_ret (-1 : Int32) else mo_b (mo_gR x0 11 45) fun v4 => mo_b (mo_la 0 v4 x1) fun v5 => mo_b (mo_gR x0 11 40) fun v6 => mo_b (mo_la 0 v6 x2) fun v7 => mo_ret (v5 - v7))).1 h = some (z, h2) → mo_A D dA b0 s.heap h0 h H locs → W p l e R s m args below meth c H locs (h.2.1 - h0.2.1) (h.2.2 - h0.2.2) Q (F0 m 0 ls []) := by
    intro h H locs hF A
    refine lv_aload_n hx hb dX11_ageOf_0 rfl (lv_at hl 0 rfl) ?_
    refine mo_wR C A (T := TX11) iX11 rfl 39 (by decide) tb_156 rfl dX11_ageOf_1 hF (fun v1 hF => ?_)
    refine lv_iload_n hx hb dX11_ageOf_4 rfl (lv_at hl 2 rfl) ?_
    refine mo_wla C A dX11_ageOf_5 hF (fun v2 hF => ?_)
    refine lv_if_ne (tgt := 13) hx hb dX11_ageOf_6 (by decide) (fun c3 => ?_) (fun c3 => ?_)
    · have hF := mo_ifF c3 hF
      refine lv_aload_n hx hb dX11_ageOf_13 rfl (lv_at hl 0 rfl) ?_
      refine mo_wR C A (T := TX11) iX11 rfl 45 (by decide) tb_163 rfl dX11_ageOf_14 hF (fun v4 hF => ?_)
      refine lv_iload_n hx hb dX11_ageOf_17 rfl (lv_at hl 1 rfl) ?_
      refine mo_wla C A dX11_ageOf_18 hF (fun v5 hF => ?_)
      refine lv_aload_n hx hb dX11_ageOf_19 rfl (lv_at hl 0 rfl) ?_
      refine mo_wR C A (T := TX11) iX11 rfl 40 (by decide) tb_157 rfl dX11_ageOf_20 hF (fun v6 hF => ?_)
      refine lv_iload_n hx hb dX11_ageOf_23 rfl (lv_at hl 2 rfl) ?_
      refine mo_wla C A dX11_ageOf_24 hF (fun v7 hF => ?_)
      refine lv_isub hx hb dX11_ageOf_25 ?_
      rw [hQ]
      exact mo_iret C A hr hlocks dX11_ageOf_26 hF
    · have hF := mo_ifT c3 hF
      refine lv_iconst (v := (-1 : Int32)) hx hb dX11_ageOf_9 (by decide) ?_
      refine lv_goto (tgt := 26) hx hb dX11_ageOf_10 (by decide) ?_
      rw [hQ]
      exact mo_iret C A hr hlocks dX11_ageOf_26 hF
  exact E h0 s.heap [] hF A
set_option maxHeartbeats 4000000 in
set_option maxRecDepth 100000 in
theorem c_X11_send (l : Launch) (D : va_G) (dA : Nat → ClassId) (b0 : Nat) (x0 : Nat) (x1 : Int32) (x2 : Int32) (x3 : Int32) (x4 : Int32) : mo_Met l yX11_send [Cond.code yX11_send cX11_send 7 none] 0 0 D dA b0 [.ref x0, .int x1, .int x2, .int x3, .int x4] (fun _ : Unit => none) (F_X11_send x0 x1 x2 x3 x4) := by
  refine mo_MetOf (own := RX11) (by decide) (Nat.le_of_ble_eq_true rfl) [(0, .ref x0), (1, .int x1), (2, .int x2), (3, .int x3), (4, .int x4)] rfl rfl ?_
  intro p e R s m args below meth c Q h0 h2 z ls hQ C hml hr hlocks hnm hfr hlo hF A hl
  have hx := C.1
  have hb := C.2.1
  have hown := C.2.2.1
  have hts := C.2.2.2.1
  have hK := C.2.2.2.2.1
  have iX11 := inlX11
  have J103 : ∀   (x0 : Nat) (x2 : Int32) (x5 : Int32) (h : mo_H) (H : Heap) (locs : List Loc) (ls : Array Slot), mo_A D dA b0 s.heap h0 h H locs → lv_has ls 7 [(0, .ref x0), (2, .int x2), (5, .int x5)] → (F_X11_send_103 x0 x2 x5).1 h = some (z, h2) → W p l e R s m args below meth c H locs (h.2.1 - h0.2.1) (h.2.2 - h0.2.2) Q (F0 m 103 ls []) := by
    intro  x0 x2 x5 h H locs ls A hl hF
    unfold F_X11_send_103 at hF
    refine lv_aload_n hx hb dX11_send_103 rfl (lv_at hl 0 rfl) ?_
    refine mo_wR C A (T := TX11) iX11 rfl 34 (by decide) tb_151 rfl dX11_send_104 hF (fun v1 hF => ?_)
    refine lv_iload_n hx hb dX11_send_107 rfl (lv_at hl 1 rfl) ?_
    refine lv_iload hx hb dX11_send_108 (lv_at hl 2 rfl) ?_
    refine mo_wsa C A dX11_send_110 hF (fun h H locs hF A => ?_)
    refine lv_aload_n hx hb dX11_send_111 rfl (lv_at hl 0 rfl) ?_
    refine mo_wR C A (T := TX11) iX11 rfl 35 (by decide) tb_152 rfl dX11_send_112 hF (fun v2 hF => ?_)
    refine lv_iload_n hx hb dX11_send_115 rfl (lv_at hl 1 rfl) ?_
    refine lv_dup2_11 hx hb dX11_send_116 rfl rfl ?_
    refine mo_wla C A dX11_send_117 hF (fun v3 hF => ?_)
    refine lv_iconst (v := (1 : Int32)) hx hb dX11_send_118 (by decide) ?_
    refine lv_iadd hx hb dX11_send_119 ?_
    refine mo_wsa C A dX11_send_120 hF (fun h H locs hF A => ?_)
    rw [hQ]
    exact mo_vret C A hr hlocks dX11_send_121 hF
  have J70 : ∀   (x0 : Nat) (x2 : Int32) (x5 : Int32) (h : mo_H) (H : Heap) (locs : List Loc) (ls : Array Slot), mo_A D dA b0 s.heap h0 h H locs → lv_has ls 7 [(0, .ref x0), (2, .int x2), (5, .int x5)] → (F_X11_send_70 x0 x2 x5).1 h = some (z, h2) → W p l e R s m args below meth c H locs (h.2.1 - h0.2.1) (h.2.2 - h0.2.2) Q (F0 m 70 ls []) := by
    intro  x0 x2 x5 h H locs ls A hl hF
    unfold F_X11_send_70 at hF
    refine lv_aload_n hx hb dX11_send_70 rfl (lv_at hl 0 rfl) ?_
    refine mo_wR C A (T := TX11) iX11 rfl 35 (by decide) tb_152 rfl dX11_send_71 hF (fun v4 hF => ?_)
    refine lv_iload_n hx hb dX11_send_74 rfl (lv_at hl 1 rfl) ?_
    refine mo_wla C A dX11_send_75 hF (fun v5 hF => ?_)
    refine lv_if_ne (tgt := 90) hx hb dX11_send_76 (by decide) (fun c6 => ?_) (fun c6 => ?_)
    · have hF := mo_ifF c6 hF
      refine lv_aload_n hx hb dX11_send_90 rfl (lv_at hl 0 rfl) ?_
      refine mo_wR C A (T := TX11) iX11 rfl 41 (by decide) tb_158 rfl dX11_send_91 hF (fun v7 hF => ?_)
      refine lv_aload_n hx hb dX11_send_94 rfl (lv_at hl 0 rfl) ?_
      refine mo_wR C A (T := TX11) iX11 rfl 34 (by decide) tb_151 rfl dX11_send_95 hF (fun v8 hF => ?_)
      refine lv_iload_n hx hb dX11_send_98 rfl (lv_at hl 1 rfl) ?_
      refine mo_wla C A dX11_send_99 hF (fun v9 hF => ?_)
      refine lv_iload hx hb dX11_send_100 (lv_at hl 2 rfl) ?_
      refine mo_wsa C A dX11_send_102 hF (fun h H locs hF A => ?_)
      exact J103 x0 x2 x5 h H locs ls A (lv_sub hl [0, 1, 2] rfl) hF
    · have hF := mo_ifT c6 hF
      refine lv_aload_n hx hb dX11_send_79 rfl (lv_at hl 0 rfl) ?_
      refine mo_wR C A (T := TX11) iX11 rfl 33 (by decide) tb_150 rfl dX11_send_80 hF (fun v10 hF => ?_)
      refine lv_iload_n hx hb dX11_send_83 rfl (lv_at hl 1 rfl) ?_
      refine lv_iload hx hb dX11_send_84 (lv_at hl 2 rfl) ?_
      refine mo_wsa C A dX11_send_86 hF (fun h H locs hF A => ?_)
      refine lv_goto (tgt := 103) hx hb dX11_send_87 (by decide) ?_
      exact J103 x0 x2 x5 h H locs ls A (lv_sub hl [0, 1, 2] rfl) hF
  have J36 : ∀   (fu : Nat) (x0 : Nat) (x2 : Int32) (x3 : Int32) (x4 : Int32) (x5 : Int32) (x6 : Int32) (h : mo_H) (H : Heap) (locs : List Loc) (ls : Array Slot), mo_A D dA b0 s.heap h0 h H locs → lv_has ls 7 [(0, .ref x0), (2, .int x2), (3, .int x3), (4, .int x4), (5, .int x5), (6, .int x6)] → (F_X11_send_36 fu x0 x2 x3 x4 x5 x6).1 h = some (z, h2) → W p l e R s m args below meth c H locs (h.2.1 - h0.2.1) (h.2.2 - h0.2.2) Q (F0 m 36 ls []) := by
    intro  fu
    induction fu with
    | zero =>
      intro x0 x2 x3 x4 x5 x6 h H locs ls A hl hF
      unfold F_X11_send_36 at hF
      cases hF
    | succ fu ih =>
      intro x0 x2 x3 x4 x5 x6 h H locs ls A hl hF
      unfold F_X11_send_36 at hF
      refine lv_iload hx hb dX11_send_36 (lv_at hl 5 rfl) ?_
      refine lv_iload hx hb dX11_send_38 (lv_at hl 3 rfl) ?_
      refine lv_icmp_ge (tgt := 70) hx hb dX11_send_40 (by decide) (fun c11 => ?_) (fun c11 => ?_)
      · have hF := mo_ifT c11 hF
        exact J70 x0 x2 x5 h H locs ls A (lv_sub hl [0, 1, 4] rfl) hF
      · have hF := mo_ifF c11 hF
        refine lv_aload_n hx hb dX11_send_43 rfl (lv_at hl 0 rfl) ?_
        refine mo_wR C A (T := TX11) iX11 rfl 43 (by decide) tb_161 rfl dX11_send_44 hF (fun v12 hF => ?_)
        refine lv_iconst (v := (4 : Int32)) hx hb dX11_send_47 (by decide) ?_
        refine lv_iload hx hb dX11_send_48 (lv_at hl 4 rfl) ?_
        refine lv_imul hx hb dX11_send_50 ?_
        refine lv_iload hx hb dX11_send_51 (lv_at hl 5 rfl) ?_
        refine lv_iadd hx hb dX11_send_53 ?_
        refine lv_aload_n hx hb dX11_send_54 rfl (lv_at hl 0 rfl) ?_
        refine mo_wR C A (T := TX11) iX11 rfl 20 (by decide) tb_137 rfl dX11_send_55 hF (fun v13 hF => ?_)
        refine lv_iload_n hx hb dX11_send_58 rfl (lv_at hl 2 rfl) ?_
        refine lv_iload hx hb dX11_send_59 (lv_at hl 5 rfl) ?_
        refine lv_iadd hx hb dX11_send_61 ?_
        refine mo_wla C A dX11_send_62 hF (fun v14 hF => ?_)
        refine mo_wsa C A dX11_send_63 hF (fun h H locs hF A => ?_)
        refine lv_iinc (v := (x6 + (1 : Int32))) (lv' := [(6, .int (x6 + (1 : Int32))), (0, .ref x0), (2, .int x2), (3, .int x3), (4, .int x4), (5, .int x5)]) hx hb dX11_send_64 hl (k := 5) rfl rfl (by decide) rfl (fun ls hl => ?_)
        refine lv_goto (tgt := 36) hx hb dX11_send_67 (by decide) ?_
        exact ih x0 x2 x3 x4 x5 (x6 + (1 : Int32)) h H locs ls A (lv_sub hl [1, 2, 3, 4, 5, 0] rfl) hF
  unfold F_X11_send at hF
  obtain ⟨-, hF⟩ := mo_ckE hF
  have E : ∀ (h : mo_H) (H : Heap) (locs : List Loc), (mo_b (mo_gR x0 11 44) fun v15 => mo_b (mo_la 0 v15 x1) fun v16 => mo_b (mo_gR x0 11 44) fun v17 => mo_b (mo_la 0 v17 x1) fun v18 => mo_b (mo_sa 0 v17 x1 (v18 + (1 : Int32))) fun _ => mo_b (mo_gR x0 11 42) fun v19 => mo_b (mo_sa 0 v19 (((3000 : Int32) * x1) + v16) x4) fun _ => F_X11_send_36 mo_fu x0 x2 x3 x4 (((3000 : Int32) * x1) + v16) (0 : Int32)).1 h = some (z, h2) → mo_A D dA b0 s.heap h0 h H locs → W p l e R s m args below meth c H locs (h.2.1 - h0.2.1) (h.2.2 - h0.2.2) Q (F0 m 0 ls []) := by
    intro h H locs hF A
    refine lv_sipush (v := (3000 : Int32)) hx hb dX11_send_0 (by decide) ?_
    refine lv_iload_n hx hb dX11_send_3 rfl (lv_at hl 1 rfl) ?_
    refine lv_imul hx hb dX11_send_4 ?_
    refine lv_aload_n hx hb dX11_send_5 rfl (lv_at hl 0 rfl) ?_
    refine mo_wR C A (T := TX11) iX11 rfl 44 (by decide) tb_162 rfl dX11_send_6 hF (fun v15 hF => ?_)
    refine lv_iload_n hx hb dX11_send_9 rfl (lv_at hl 1 rfl) ?_
    refine mo_wla C A dX11_send_10 hF (fun v16 hF => ?_)
    refine lv_iadd hx hb dX11_send_11 ?_
    refine lv_istore (lv' := [(5, .int (((3000 : Int32) * x1) + v16)), (0, .ref x0), (1, .int x1), (2, .int x2), (3, .int x3), (4, .int x4)]) hx hb dX11_send_12 hl (by decide) rfl (fun ls hl => ?_)
    refine lv_aload_n hx hb dX11_send_14 rfl (lv_at hl 1 rfl) ?_
    refine mo_wR C A (T := TX11) iX11 rfl 44 (by decide) tb_162 rfl dX11_send_15 hF (fun v17 hF => ?_)
    refine lv_iload_n hx hb dX11_send_18 rfl (lv_at hl 2 rfl) ?_
    refine lv_dup2_11 hx hb dX11_send_19 rfl rfl ?_
    refine mo_wla C A dX11_send_20 hF (fun v18 hF => ?_)
    refine lv_iconst (v := (1 : Int32)) hx hb dX11_send_21 (by decide) ?_
    refine lv_iadd hx hb dX11_send_22 ?_
    refine mo_wsa C A dX11_send_23 hF (fun h H locs hF A => ?_)
    refine lv_aload_n hx hb dX11_send_24 rfl (lv_at hl 1 rfl) ?_
    refine mo_wR C A (T := TX11) iX11 rfl 42 (by decide) tb_159 rfl dX11_send_25 hF (fun v19 hF => ?_)
    refine lv_iload hx hb dX11_send_28 (lv_at hl 0 rfl) ?_
    refine lv_iload hx hb dX11_send_30 (lv_at hl 5 rfl) ?_
    refine mo_wsa C A dX11_send_32 hF (fun h H locs hF A => ?_)
    refine lv_iconst (v := (0 : Int32)) hx hb dX11_send_33 (by decide) ?_
    refine lv_istore (lv' := [(6, .int (0 : Int32)), (5, .int (((3000 : Int32) * x1) + v16)), (0, .ref x0), (1, .int x1), (2, .int x2), (3, .int x3), (4, .int x4)]) hx hb dX11_send_34 hl (by decide) rfl (fun ls hl => ?_)
    exact J36 mo_fu x0 x2 x3 x4 (((3000 : Int32) * x1) + v16) (0 : Int32) h H locs ls A (lv_sub hl [2, 4, 5, 6, 1, 0] rfl) hF
  exact E h0 s.heap [] hF A
set_option maxHeartbeats 4000000 in
set_option maxRecDepth 100000 in
theorem c_X11_sends (l : Launch) (D : va_G) (dA : Nat → ClassId) (b0 : Nat) (x0 : Nat) (x1 : Int32) (x2 : Int32) (x3 : Int32) (x4 : Int32) (x5 : Int32) (x6 : Int32) : mo_Met l yX11_sends [Cond.code yX11_sends cX11_sends 11 (some .boolean)] 1 26 D dA b0 [.ref x0, .int x1, .int x2, .int x3, .int x4, .int x5, .int x6] (fun r : Int32 => some (.int r)) (F_X11_sends x0 x1 x2 x3 x4 x5 x6) := by
  refine mo_MetOf (own := RX11) (by decide) (Nat.le_of_ble_eq_true rfl) [(0, .ref x0), (1, .int x1), (2, .int x2), (3, .int x3), (4, .int x4), (5, .int x5), (6, .int x6)] rfl rfl ?_
  intro p e R s m args below meth c Q h0 h2 z ls hQ C hml hr hlocks hnm hfr hlo hF A hl
  have hx := C.1
  have hb := C.2.1
  have hown := C.2.2.1
  have hts := C.2.2.2.1
  have hK := C.2.2.2.2.1
  have iX11 := inlX11
  have J187 : ∀   (s0 : Nat) (s1 : Int32) (s2 : Int32) (h : mo_H) (H : Heap) (locs : List Loc) (ls : Array Slot), mo_A D dA b0 s.heap h0 h H locs → lv_has ls 11 [] → (F_X11_sends_187 s0 s1 s2).1 h = some (z, h2) → W p l e R s m args below meth c H locs (h.2.1 - h0.2.1) (h.2.2 - h0.2.2) Q (F0 m 187 ls [.int s2, .int s1, .ref s0]) := by
    intro  s0 s1 s2 h H locs ls A hl hF
    unfold F_X11_sends_187 at hF
    refine mo_wsa C A dX11_sends_187 hF (fun h H locs hF A => ?_)
    refine lv_iconst (v := (1 : Int32)) hx hb dX11_sends_188 (by decide) ?_
    rw [hQ]
    exact mo_zret C A hr hlocks dX11_sends_189 hF
  have J165 : ∀   (x0 : Nat) (x7 : Int32) (x9 : Int32) (h : mo_H) (H : Heap) (locs : List Loc) (ls : Array Slot), mo_A D dA b0 s.heap h0 h H locs → lv_has ls 11 [(0, .ref x0), (7, .int x7), (9, .int x9)] → (F_X11_sends_165 x0 x7 x9).1 h = some (z, h2) → W p l e R s m args below meth c H locs (h.2.1 - h0.2.1) (h.2.2 - h0.2.2) Q (F0 m 165 ls []) := by
    intro  x0 x7 x9 h H locs ls A hl hF
    unfold F_X11_sends_165 at hF
    refine lv_aload_n hx hb dX11_sends_165 rfl (lv_at hl 0 rfl) ?_
    refine mo_wR C A (T := TX11) iX11 rfl 19 (by decide) tb_136 rfl dX11_sends_166 hF (fun v1 hF => ?_)
    refine lv_bipush (v := (8 : Int32)) hx hb dX11_sends_169 (by decide) ?_
    refine lv_iload hx hb dX11_sends_171 (lv_at hl 1 rfl) ?_
    refine lv_imul hx hb dX11_sends_173 ?_
    refine lv_bipush (v := (7 : Int32)) hx hb dX11_sends_174 (by decide) ?_
    refine lv_iadd hx hb dX11_sends_176 ?_
    refine lv_iload hx hb dX11_sends_177 (lv_at hl 2 rfl) ?_
    refine lv_if_eq (tgt := 186) hx hb dX11_sends_179 (by decide) (fun c2 => ?_) (fun c2 => ?_)
    · have hF := mo_ifT c2 hF
      refine lv_iconst (v := (0 : Int32)) hx hb dX11_sends_186 (by decide) ?_
      exact J187 v1 (((8 : Int32) * x7) + (7 : Int32)) (0 : Int32) h H locs ls A (lv_sub hl [] rfl) hF
    · have hF := mo_ifF c2 hF
      refine lv_iconst (v := (1 : Int32)) hx hb dX11_sends_182 (by decide) ?_
      refine lv_goto (tgt := 187) hx hb dX11_sends_183 (by decide) ?_
      exact J187 v1 (((8 : Int32) * x7) + (7 : Int32)) (1 : Int32) h H locs ls A (lv_sub hl [] rfl) hF
  have J130 : ∀   (x0 : Nat) (x1 : Int32) (x5 : Int32) (x6 : Int32) (x7 : Int32) (x8 : Int32) (s0 : Int32) (h : mo_H) (H : Heap) (locs : List Loc) (ls : Array Slot), mo_A D dA b0 s.heap h0 h H locs → lv_has ls 11 [(0, .ref x0), (1, .int x1), (5, .int x5), (6, .int x6), (7, .int x7), (8, .int x8)] → (F_X11_sends_130 x0 x1 x5 x6 x7 x8 s0).1 h = some (z, h2) → W p l e R s m args below meth c H locs (h.2.1 - h0.2.1) (h.2.2 - h0.2.2) Q (F0 m 130 ls [.int s0]) := by
    intro  x0 x1 x5 x6 x7 x8 s0 h H locs ls A hl hF
    unfold F_X11_sends_130 at hF
    refine lv_istore (lv' := [(9, .int s0), (0, .ref x0), (1, .int x1), (5, .int x5), (6, .int x6), (7, .int x7), (8, .int x8)]) hx hb dX11_sends_130 hl (by decide) rfl (fun ls hl => ?_)
    refine lv_iload hx hb dX11_sends_132 (lv_at hl 0 rfl) ?_
    refine lv_if_eq (tgt := 165) hx hb dX11_sends_134 (by decide) (fun c3 => ?_) (fun c3 => ?_)
    · have hF := mo_ifT c3 hF
      exact J165 x0 x7 s0 h H locs ls A (lv_sub hl [1, 5, 0] rfl) hF
    · have hF := mo_ifF c3 hF
      refine lv_aload_n hx hb dX11_sends_137 rfl (lv_at hl 1 rfl) ?_
      refine mo_wR C A (T := TX11) iX11 rfl 37 (by decide) tb_154 rfl dX11_sends_138 hF (fun v4 hF => ?_)
      refine lv_iload hx hb dX11_sends_141 (lv_at hl 6 rfl) ?_
      refine lv_dup2_11 hx hb dX11_sends_143 rfl rfl ?_
      refine mo_wla C A dX11_sends_144 hF (fun v5 hF => ?_)
      refine lv_iconst (v := (1 : Int32)) hx hb dX11_sends_145 (by decide) ?_
      refine lv_iadd hx hb dX11_sends_146 ?_
      refine mo_wsa C A dX11_sends_147 hF (fun h H locs hF A => ?_)
      refine lv_aload_n hx hb dX11_sends_148 rfl (lv_at hl 1 rfl) ?_
      refine lv_iload_n hx hb dX11_sends_149 rfl (lv_at hl 2 rfl) ?_
      refine lv_iload hx hb dX11_sends_150 (lv_at hl 6 rfl) ?_
      refine lv_bipush (v := (32 : Int32)) hx hb dX11_sends_152 (by decide) ?_
      refine lv_iload hx hb dX11_sends_154 (lv_at hl 5 rfl) ?_
      refine lv_imul hx hb dX11_sends_156 ?_
      refine lv_iload hx hb dX11_sends_157 (lv_at hl 3 rfl) ?_
      refine lv_iadd hx hb dX11_sends_159 ?_
      refine lv_iload hx hb dX11_sends_160 (lv_at hl 4 rfl) ?_
      refine mo_cV (n := 4) (As := [.int x1, .int x8, .int (((32 : Int32) * x7) + x5), .int x6]) (rest := []) C A hml hl.1 (c_X11_send l D dA b0 x0 x1 x8 (((32 : Int32) * x7) + x5) x6) (ci := 11) (q := (RX11, TX11, 56)) rfl (fun _ e => (mo_ckE e).1) (tb_v tb_568 tb_569 tb_570 tb_5 tb_571) rfl (by decide +kernel) ⟨Nat.le_trans (by decide) hfr, Nat.le_trans (Nat.le_of_ble_eq_true rfl) hlo⟩ rfl (Nat.le_of_ble_eq_true rfl) rfl dX11_sends_162 hF (fun v6 h H locs hF A => ?_)
      show W _ _ _ _ _ _ _ _ _ _ _ _ _ _ _ (F0 m 165 ls [])
      exact J165 x0 x7 s0 h H locs ls A (lv_sub hl [1, 5, 0] rfl) hF
  have J299 : ∀   (x0 : Nat) (x7 : Int32) (x8 : Int32) (x9 : Int32) (h : mo_H) (H : Heap) (locs : List Loc) (ls : Array Slot), mo_A D dA b0 s.heap h0 h H locs → lv_has ls 11 [(0, .ref x0), (7, .int x7), (8, .int x8), (9, .int x9)] → (F_X11_sends_299 x0 x7 x8 x9).1 h = some (z, h2) → W p l e R s m args below meth c H locs (h.2.1 - h0.2.1) (h.2.2 - h0.2.2) Q (F0 m 299 ls []) := by
    intro  x0 x7 x8 x9 h H locs ls A hl hF
    unfold F_X11_sends_299 at hF
    refine lv_aload_n hx hb dX11_sends_299 rfl (lv_at hl 0 rfl) ?_
    refine mo_wR C A (T := TX11) iX11 rfl 19 (by decide) tb_136 rfl dX11_sends_300 hF (fun v7 hF => ?_)
    refine lv_bipush (v := (8 : Int32)) hx hb dX11_sends_303 (by decide) ?_
    refine lv_iload hx hb dX11_sends_305 (lv_at hl 1 rfl) ?_
    refine lv_imul hx hb dX11_sends_307 ?_
    refine lv_bipush (v := (7 : Int32)) hx hb dX11_sends_308 (by decide) ?_
    refine lv_iadd hx hb dX11_sends_310 ?_
    refine lv_aload_n hx hb dX11_sends_311 rfl (lv_at hl 0 rfl) ?_
    refine mo_wR C A (T := TX11) iX11 rfl 42 (by decide) tb_159 rfl dX11_sends_312 hF (fun v8 hF => ?_)
    refine lv_iload hx hb dX11_sends_315 (lv_at hl 3 rfl) ?_
    refine mo_wla C A dX11_sends_317 hF (fun v9 hF => ?_)
    refine mo_wsa C A dX11_sends_318 hF (fun h H locs hF A => ?_)
    refine lv_aload_n hx hb dX11_sends_319 rfl (lv_at hl 0 rfl) ?_
    refine mo_wR C A (T := TX11) iX11 rfl 30 (by decide) tb_147 rfl dX11_sends_320 hF (fun v10 hF => ?_)
    refine lv_iload hx hb dX11_sends_323 (lv_at hl 2 rfl) ?_
    refine lv_aload_n hx hb dX11_sends_325 rfl (lv_at hl 0 rfl) ?_
    refine mo_wR C A (T := TX11) iX11 rfl 41 (by decide) tb_158 rfl dX11_sends_326 hF (fun v11 hF => ?_)
    refine lv_iload hx hb dX11_sends_329 (lv_at hl 3 rfl) ?_
    refine mo_wla C A dX11_sends_331 hF (fun v12 hF => ?_)
    refine mo_wsa C A dX11_sends_332 hF (fun h H locs hF A => ?_)
    refine lv_aload_n hx hb dX11_sends_333 rfl (lv_at hl 0 rfl) ?_
    refine mo_wR C A (T := TX11) iX11 rfl 32 (by decide) tb_149 rfl dX11_sends_334 hF (fun v13 hF => ?_)
    refine lv_iload hx hb dX11_sends_337 (lv_at hl 2 rfl) ?_
    refine lv_dup2_11 hx hb dX11_sends_339 rfl rfl ?_
    refine mo_wla C A dX11_sends_340 hF (fun v14 hF => ?_)
    refine lv_iconst (v := (1 : Int32)) hx hb dX11_sends_341 (by decide) ?_
    refine lv_isub hx hb dX11_sends_342 ?_
    refine mo_wsa C A dX11_sends_343 hF (fun h H locs hF A => ?_)
    refine lv_iconst (v := (1 : Int32)) hx hb dX11_sends_344 (by decide) ?_
    rw [hQ]
    exact mo_zret C A hr hlocks dX11_sends_345 hF
  have J253 : ∀   (fu : Nat) (x0 : Nat) (x5 : Int32) (x7 : Int32) (x8 : Int32) (x9 : Int32) (x10 : Int32) (h : mo_H) (H : Heap) (locs : List Loc) (ls : Array Slot), mo_A D dA b0 s.heap h0 h H locs → lv_has ls 11 [(0, .ref x0), (5, .int x5), (7, .int x7), (8, .int x8), (9, .int x9), (10, .int x10)] → (F_X11_sends_253 fu x0 x5 x7 x8 x9 x10).1 h = some (z, h2) → W p l e R s m args below meth c H locs (h.2.1 - h0.2.1) (h.2.2 - h0.2.2) Q (F0 m 253 ls []) := by
    intro  fu
    induction fu with
    | zero =>
      intro x0 x5 x7 x8 x9 x10 h H locs ls A hl hF
      unfold F_X11_sends_253 at hF
      cases hF
    | succ fu ih =>
      intro x0 x5 x7 x8 x9 x10 h H locs ls A hl hF
      unfold F_X11_sends_253 at hF
      refine lv_iload hx hb dX11_sends_253 (lv_at hl 5 rfl) ?_
      refine lv_aload_n hx hb dX11_sends_255 rfl (lv_at hl 0 rfl) ?_
      refine mo_wR C A (T := TX11) iX11 rfl 42 (by decide) tb_159 rfl dX11_sends_256 hF (fun v15 hF => ?_)
      refine lv_iload hx hb dX11_sends_259 (lv_at hl 4 rfl) ?_
      refine mo_wla C A dX11_sends_261 hF (fun v16 hF => ?_)
      refine lv_icmp_ge (tgt := 299) hx hb dX11_sends_262 (by decide) (fun c17 => ?_) (fun c17 => ?_)
      · have hF := mo_ifT c17 hF
        exact J299 x0 x7 x8 x9 h H locs ls A (lv_sub hl [0, 2, 3, 4] rfl) hF
      · have hF := mo_ifF c17 hF
        refine lv_aload_n hx hb dX11_sends_265 rfl (lv_at hl 0 rfl) ?_
        refine mo_wR C A (T := TX11) iX11 rfl 20 (by decide) tb_137 rfl dX11_sends_266 hF (fun v18 hF => ?_)
        refine lv_bipush (v := (32 : Int32)) hx hb dX11_sends_269 (by decide) ?_
        refine lv_iload hx hb dX11_sends_271 (lv_at hl 2 rfl) ?_
        refine lv_imul hx hb dX11_sends_273 ?_
        refine lv_iload hx hb dX11_sends_274 (lv_at hl 1 rfl) ?_
        refine lv_iadd hx hb dX11_sends_276 ?_
        refine lv_iload hx hb dX11_sends_277 (lv_at hl 5 rfl) ?_
        refine lv_iadd hx hb dX11_sends_279 ?_
        refine lv_aload_n hx hb dX11_sends_280 rfl (lv_at hl 0 rfl) ?_
        refine mo_wR C A (T := TX11) iX11 rfl 43 (by decide) tb_161 rfl dX11_sends_281 hF (fun v19 hF => ?_)
        refine lv_iconst (v := (4 : Int32)) hx hb dX11_sends_284 (by decide) ?_
        refine lv_iload hx hb dX11_sends_285 (lv_at hl 4 rfl) ?_
        refine lv_imul hx hb dX11_sends_287 ?_
        refine lv_iload hx hb dX11_sends_288 (lv_at hl 5 rfl) ?_
        refine lv_iadd hx hb dX11_sends_290 ?_
        refine mo_wla C A dX11_sends_291 hF (fun v20 hF => ?_)
        refine mo_wsa C A dX11_sends_292 hF (fun h H locs hF A => ?_)
        refine lv_iinc (v := (x10 + (1 : Int32))) (lv' := [(10, .int (x10 + (1 : Int32))), (0, .ref x0), (5, .int x5), (7, .int x7), (8, .int x8), (9, .int x9)]) hx hb dX11_sends_293 hl (k := 5) rfl rfl (by decide) rfl (fun ls hl => ?_)
        refine lv_goto (tgt := 253) hx hb dX11_sends_296 (by decide) ?_
        exact ih x0 x5 x7 x8 x9 (x10 + (1 : Int32)) h H locs ls A (lv_sub hl [1, 2, 3, 4, 5, 0] rfl) hF
  have J445 : ∀ (k368 : Nat → Int32 → Int32 → Int32 → Int32 → Int32 → Int32 → Int32 → mo_M Int32) (hk368 : ∀ (x0 : Nat) (x1 : Int32) (x3 : Int32) (x4 : Int32) (x5 : Int32) (x7 : Int32) (x8 : Int32) (x9 : Int32) (h : mo_H) (H : Heap) (locs : List Loc) (ls : Array Slot), mo_A D dA b0 s.heap h0 h H locs → lv_has ls 11 [(0, .ref x0), (1, .int x1), (3, .int x3), (4, .int x4), (5, .int x5), (7, .int x7), (8, .int x8), (9, .int x9)] → (k368 x0 x1 x3 x4 x5 x7 x8 x9).1 h = some (z, h2) → W p l e R s m args below meth c H locs (h.2.1 - h0.2.1) (h.2.2 - h0.2.2) Q (F0 m 368 ls [])) (x0 : Nat) (x1 : Int32) (x3 : Int32) (x4 : Int32) (x5 : Int32) (x7 : Int32) (x8 : Int32) (x9 : Int32) (h : mo_H) (H : Heap) (locs : List Loc) (ls : Array Slot), mo_A D dA b0 s.heap h0 h H locs → lv_has ls 11 [(0, .ref x0), (1, .int x1), (3, .int x3), (4, .int x4), (5, .int x5), (7, .int x7), (8, .int x8), (9, .int x9)] → (F_X11_sends_445 k368 x0 x1 x3 x4 x5 x7 x8 x9).1 h = some (z, h2) → W p l e R s m args below meth c H locs (h.2.1 - h0.2.1) (h.2.2 - h0.2.2) Q (F0 m 445 ls []) := by
    intro k368 hk368 x0 x1 x3 x4 x5 x7 x8 x9 h H locs ls A hl hF
    unfold F_X11_sends_445 at hF
    refine lv_iinc (v := (x9 + (1 : Int32))) (lv' := [(9, .int (x9 + (1 : Int32))), (0, .ref x0), (1, .int x1), (3, .int x3), (4, .int x4), (5, .int x5), (7, .int x7), (8, .int x8)]) hx hb dX11_sends_445 hl (k := 7) rfl rfl (by decide) rfl (fun ls hl => ?_)
    refine lv_goto (tgt := 368) hx hb dX11_sends_448 (by decide) ?_
    exact hk368 x0 x1 x3 x4 x5 x7 x8 (x9 + (1 : Int32)) h H locs ls A (lv_sub hl [1, 2, 3, 4, 5, 6, 7, 0] rfl) hF
  have J451 : ∀   (x0 : Nat) (x1 : Int32) (x3 : Int32) (x7 : Int32) (x8 : Int32) (h : mo_H) (H : Heap) (locs : List Loc) (ls : Array Slot), mo_A D dA b0 s.heap h0 h H locs → lv_has ls 11 [(0, .ref x0), (1, .int x1), (3, .int x3), (7, .int x7), (8, .int x8)] → (F_X11_sends_451 x0 x1 x3 x7 x8).1 h = some (z, h2) → W p l e R s m args below meth c H locs (h.2.1 - h0.2.1) (h.2.2 - h0.2.2) Q (F0 m 451 ls []) := by
    intro  x0 x1 x3 x7 x8 h H locs ls A hl hF
    unfold F_X11_sends_451 at hF
    refine lv_iload_n hx hb dX11_sends_451 rfl (lv_at hl 2 rfl) ?_
    refine lv_bipush (v := (16 : Int32)) hx hb dX11_sends_452 (by decide) ?_
    refine lv_icmp_ne (tgt := 484) hx hb dX11_sends_454 (by decide) (fun c21 => ?_) (fun c21 => ?_)
    · have hF := mo_ifF c21 hF
      refine lv_aload_n hx hb dX11_sends_484 rfl (lv_at hl 0 rfl) ?_
      refine mo_wR C A (T := TX11) iX11 rfl 19 (by decide) tb_136 rfl dX11_sends_485 hF (fun v22 hF => ?_)
      refine lv_bipush (v := (8 : Int32)) hx hb dX11_sends_488 (by decide) ?_
      refine lv_iload hx hb dX11_sends_490 (lv_at hl 3 rfl) ?_
      refine lv_imul hx hb dX11_sends_492 ?_
      refine lv_bipush (v := (7 : Int32)) hx hb dX11_sends_493 (by decide) ?_
      refine lv_iadd hx hb dX11_sends_495 ?_
      refine lv_aload_n hx hb dX11_sends_496 rfl (lv_at hl 0 rfl) ?_
      refine lv_iload_n hx hb dX11_sends_497 rfl (lv_at hl 1 rfl) ?_
      refine lv_iload hx hb dX11_sends_498 (lv_at hl 4 rfl) ?_
      refine mo_cV (n := 2) (As := [.int x1, .int x8]) (rest := [.int (((8 : Int32) * x7) + (7 : Int32)), .ref v22]) C A hml hl.1 (c_X11_ageOf l D dA b0 x0 x1 x8) (ci := 11) (q := (RX11, TX11, 56)) rfl (fun _ e => (mo_ckE e).1) (tb_v tb_572 tb_573 tb_574 tb_5 tb_575) rfl (by decide +kernel) ⟨Nat.le_trans (by decide) hfr, Nat.le_trans (Nat.le_of_ble_eq_true rfl) hlo⟩ rfl (Nat.le_of_ble_eq_true rfl) rfl dX11_sends_500 hF (fun v23 h H locs hF A => ?_)
      show W _ _ _ _ _ _ _ _ _ _ _ _ _ _ _ (F0 m 503 ls [.int v23, .int (((8 : Int32) * x7) + (7 : Int32)), .ref v22])
      refine mo_wsa C A dX11_sends_503 hF (fun h H locs hF A => ?_)
      refine lv_iconst (v := (1 : Int32)) hx hb dX11_sends_504 (by decide) ?_
      rw [hQ]
      exact mo_zret C A hr hlocks dX11_sends_505 hF
    · have hF := mo_ifT c21 hF
      refine lv_aload_n hx hb dX11_sends_457 rfl (lv_at hl 0 rfl) ?_
      refine mo_wR C A (T := TX11) iX11 rfl 39 (by decide) tb_156 rfl dX11_sends_458 hF (fun v24 hF => ?_)
      refine lv_iload hx hb dX11_sends_461 (lv_at hl 4 rfl) ?_
      refine lv_dup2_11 hx hb dX11_sends_463 rfl rfl ?_
      refine mo_wla C A dX11_sends_464 hF (fun v25 hF => ?_)
      refine lv_iconst (v := (1 : Int32)) hx hb dX11_sends_465 (by decide) ?_
      refine lv_iadd hx hb dX11_sends_466 ?_
      refine mo_wsa C A dX11_sends_467 hF (fun h H locs hF A => ?_)
      refine lv_aload_n hx hb dX11_sends_468 rfl (lv_at hl 0 rfl) ?_
      refine mo_wR C A (T := TX11) iX11 rfl 40 (by decide) tb_157 rfl dX11_sends_469 hF (fun v26 hF => ?_)
      refine lv_iload hx hb dX11_sends_472 (lv_at hl 4 rfl) ?_
      refine lv_aload_n hx hb dX11_sends_474 rfl (lv_at hl 0 rfl) ?_
      refine mo_wR C A (T := TX11) iX11 rfl 45 (by decide) tb_163 rfl dX11_sends_475 hF (fun v27 hF => ?_)
      refine lv_iload_n hx hb dX11_sends_478 rfl (lv_at hl 1 rfl) ?_
      refine mo_wla C A dX11_sends_479 hF (fun v28 hF => ?_)
      refine mo_wsa C A dX11_sends_480 hF (fun h H locs hF A => ?_)
      refine lv_goto (tgt := 504) hx hb dX11_sends_481 (by decide) ?_
      refine lv_iconst (v := (1 : Int32)) hx hb dX11_sends_504 (by decide) ?_
      rw [hQ]
      exact mo_zret C A hr hlocks dX11_sends_505 hF
  have J368 : ∀   (fu : Nat) (x0 : Nat) (x1 : Int32) (x3 : Int32) (x4 : Int32) (x5 : Int32) (x7 : Int32) (x8 : Int32) (x9 : Int32) (h : mo_H) (H : Heap) (locs : List Loc) (ls : Array Slot), mo_A D dA b0 s.heap h0 h H locs → lv_has ls 11 [(0, .ref x0), (1, .int x1), (3, .int x3), (4, .int x4), (5, .int x5), (7, .int x7), (8, .int x8), (9, .int x9)] → (F_X11_sends_368 fu x0 x1 x3 x4 x5 x7 x8 x9).1 h = some (z, h2) → W p l e R s m args below meth c H locs (h.2.1 - h0.2.1) (h.2.2 - h0.2.2) Q (F0 m 368 ls []) := by
    intro  fu
    induction fu with
    | zero =>
      intro x0 x1 x3 x4 x5 x7 x8 x9 h H locs ls A hl hF
      unfold F_X11_sends_368 at hF
      cases hF
    | succ fu ih =>
      intro x0 x1 x3 x4 x5 x7 x8 x9 h H locs ls A hl hF
      unfold F_X11_sends_368 at hF
      refine lv_iload hx hb dX11_sends_368 (lv_at hl 7 rfl) ?_
      refine lv_aload_n hx hb dX11_sends_370 rfl (lv_at hl 0 rfl) ?_
      refine mo_wR C A (T := TX11) iX11 rfl 6 (by decide) tb_125 rfl dX11_sends_371 hF (fun v29 hF => ?_)
      refine lv_iload hx hb dX11_sends_374 (lv_at hl 3 rfl) ?_
      refine mo_wla C A dX11_sends_376 hF (fun v30 hF => ?_)
      refine lv_icmp_ge (tgt := 451) hx hb dX11_sends_377 (by decide) (fun c31 => ?_) (fun c31 => ?_)
      · have hF := mo_ifT c31 hF
        exact J451 x0 x1 x3 x7 x8 h H locs ls A (lv_sub hl [0, 1, 2, 5, 6] rfl) hF
      · have hF := mo_ifF c31 hF
        refine lv_iload_n hx hb dX11_sends_380 rfl (lv_at hl 2 rfl) ?_
        refine lv_bipush (v := (16 : Int32)) hx hb dX11_sends_381 (by decide) ?_
        refine lv_icmp_ne (tgt := 417) hx hb dX11_sends_383 (by decide) (fun c32 => ?_) (fun c32 => ?_)
        · have hF := mo_ifF c32 hF
          refine lv_aload_n hx hb dX11_sends_417 rfl (lv_at hl 0 rfl) ?_
          refine mo_wR C A (T := TX11) iX11 rfl 20 (by decide) tb_137 rfl dX11_sends_418 hF (fun v33 hF => ?_)
          refine lv_bipush (v := (32 : Int32)) hx hb dX11_sends_421 (by decide) ?_
          refine lv_iload hx hb dX11_sends_423 (lv_at hl 5 rfl) ?_
          refine lv_imul hx hb dX11_sends_425 ?_
          refine lv_iload hx hb dX11_sends_426 (lv_at hl 4 rfl) ?_
          refine lv_iadd hx hb dX11_sends_428 ?_
          refine lv_iload hx hb dX11_sends_429 (lv_at hl 7 rfl) ?_
          refine lv_iadd hx hb dX11_sends_431 ?_
          refine lv_aload_n hx hb dX11_sends_432 rfl (lv_at hl 0 rfl) ?_
          refine mo_wR C A (T := TX11) iX11 rfl 38 (by decide) tb_155 rfl dX11_sends_433 hF (fun v34 hF => ?_)
          refine lv_iconst (v := (4 : Int32)) hx hb dX11_sends_436 (by decide) ?_
          refine lv_iload hx hb dX11_sends_437 (lv_at hl 6 rfl) ?_
          refine lv_imul hx hb dX11_sends_439 ?_
          refine lv_iload hx hb dX11_sends_440 (lv_at hl 7 rfl) ?_
          refine lv_iadd hx hb dX11_sends_442 ?_
          refine mo_wla C A dX11_sends_443 hF (fun v35 hF => ?_)
          refine mo_wsa C A dX11_sends_444 hF (fun h H locs hF A => ?_)
          exact J445 (F_X11_sends_368  fu) ih x0 x1 x3 x4 x5 x7 x8 x9 h H locs ls A (lv_sub hl [0, 1, 2, 3, 4, 5, 6, 7] rfl) hF
        · have hF := mo_ifT c32 hF
          refine lv_aload_n hx hb dX11_sends_386 rfl (lv_at hl 0 rfl) ?_
          refine mo_wR C A (T := TX11) iX11 rfl 38 (by decide) tb_155 rfl dX11_sends_387 hF (fun v36 hF => ?_)
          refine lv_iconst (v := (4 : Int32)) hx hb dX11_sends_390 (by decide) ?_
          refine lv_iload hx hb dX11_sends_391 (lv_at hl 6 rfl) ?_
          refine lv_imul hx hb dX11_sends_393 ?_
          refine lv_iload hx hb dX11_sends_394 (lv_at hl 7 rfl) ?_
          refine lv_iadd hx hb dX11_sends_396 ?_
          refine lv_aload_n hx hb dX11_sends_397 rfl (lv_at hl 0 rfl) ?_
          refine mo_wR C A (T := TX11) iX11 rfl 20 (by decide) tb_137 rfl dX11_sends_398 hF (fun v37 hF => ?_)
          refine lv_bipush (v := (32 : Int32)) hx hb dX11_sends_401 (by decide) ?_
          refine lv_iload hx hb dX11_sends_403 (lv_at hl 5 rfl) ?_
          refine lv_imul hx hb dX11_sends_405 ?_
          refine lv_iload hx hb dX11_sends_406 (lv_at hl 4 rfl) ?_
          refine lv_iadd hx hb dX11_sends_408 ?_
          refine lv_iload hx hb dX11_sends_409 (lv_at hl 7 rfl) ?_
          refine lv_iadd hx hb dX11_sends_411 ?_
          refine mo_wla C A dX11_sends_412 hF (fun v38 hF => ?_)
          refine mo_wsa C A dX11_sends_413 hF (fun h H locs hF A => ?_)
          refine lv_goto (tgt := 445) hx hb dX11_sends_414 (by decide) ?_
          exact J445 (F_X11_sends_368  fu) ih x0 x1 x3 x4 x5 x7 x8 x9 h H locs ls A (lv_sub hl [0, 1, 2, 3, 4, 5, 6, 7] rfl) hF
  have J53 : ∀   (x0 : Nat) (x1 : Int32) (x2 : Int32) (x3 : Int32) (x4 : Int32) (x5 : Int32) (x6 : Int32) (s0 : Int32) (h : mo_H) (H : Heap) (locs : List Loc) (ls : Array Slot), mo_A D dA b0 s.heap h0 h H locs → lv_has ls 11 [(0, .ref x0), (1, .int x1), (2, .int x2), (3, .int x3), (4, .int x4), (5, .int x5), (6, .int x6)] → (F_X11_sends_53 x0 x1 x2 x3 x4 x5 x6 s0).1 h = some (z, h2) → W p l e R s m args below meth c H locs (h.2.1 - h0.2.1) (h.2.2 - h0.2.2) Q (F0 m 53 ls [.int s0]) := by
    intro  x0 x1 x2 x3 x4 x5 x6 s0 h H locs ls A hl hF
    unfold F_X11_sends_53 at hF
    refine lv_iload_n hx hb dX11_sends_53 rfl (lv_at hl 2 rfl) ?_
    refine lv_icmp_eq (tgt := 59) hx hb dX11_sends_54 (by decide) (fun c39 => ?_) (fun c39 => ?_)
    · have hF := mo_ifT c39 hF
      refine lv_bipush (v := (6 : Int32)) hx hb dX11_sends_59 (by decide) ?_
      refine lv_iload_n hx hb dX11_sends_61 rfl (lv_at hl 1 rfl) ?_
      refine lv_imul hx hb dX11_sends_62 ?_
      refine lv_iload_n hx hb dX11_sends_63 rfl (lv_at hl 2 rfl) ?_
      refine lv_iadd hx hb dX11_sends_64 ?_
      refine lv_istore (lv' := [(7, .int (((6 : Int32) * x1) + x2)), (0, .ref x0), (1, .int x1), (2, .int x2), (3, .int x3), (4, .int x4), (5, .int x5), (6, .int x6)]) hx hb dX11_sends_65 hl (by decide) rfl (fun ls hl => ?_)
      refine lv_bipush (v := (12 : Int32)) hx hb dX11_sends_67 (by decide) ?_
      refine lv_iload_n hx hb dX11_sends_69 rfl (lv_at hl 2 rfl) ?_
      refine lv_imul hx hb dX11_sends_70 ?_
      refine lv_iload hx hb dX11_sends_71 (lv_at hl 5 rfl) ?_
      refine lv_iadd hx hb dX11_sends_73 ?_
      refine lv_istore (lv' := [(8, .int (((12 : Int32) * x1) + x4)), (7, .int (((6 : Int32) * x1) + x2)), (0, .ref x0), (1, .int x1), (2, .int x2), (3, .int x3), (4, .int x4), (5, .int x5), (6, .int x6)]) hx hb dX11_sends_74 hl (by decide) rfl (fun ls hl => ?_)
      refine lv_iload_n hx hb dX11_sends_76 rfl (lv_at hl 5 rfl) ?_
      refine lv_bipush (v := (14 : Int32)) hx hb dX11_sends_77 (by decide) ?_
      refine lv_icmp_ne (tgt := 190) hx hb dX11_sends_79 (by decide) (fun c40 => ?_) (fun c40 => ?_)
      · have hF := mo_ifF c40 hF
        refine lv_iload_n hx hb dX11_sends_190 rfl (lv_at hl 5 rfl) ?_
        refine lv_bipush (v := (15 : Int32)) hx hb dX11_sends_191 (by decide) ?_
        refine lv_icmp_ne (tgt := 346) hx hb dX11_sends_193 (by decide) (fun c41 => ?_) (fun c41 => ?_)
        · have hF := mo_ifF c41 hF
          refine lv_iload hx hb dX11_sends_346 (lv_at hl 7 rfl) ?_
          refine lv_i2l hx hb dX11_sends_348 rfl ?_
          refine lv_aload_n hx hb dX11_sends_349 rfl (lv_at hl 2 rfl) ?_
          refine mo_wR C A (T := TX11) iX11 rfl 6 (by decide) tb_125 rfl dX11_sends_350 hF (fun v42 hF => ?_)
          refine lv_iload hx hb dX11_sends_353 (lv_at hl 6 rfl) ?_
          refine mo_wla C A dX11_sends_355 hF (fun v43 hF => ?_)
          refine lv_i2l hx hb dX11_sends_356 rfl ?_
          refine mo_cS (n := 2) (As := [.long ((x5).toInt64), .long ((v43).toInt64)]) (rest := []) C A hml hl.1 (c_X11_areCells l D dA b0 ((x5).toInt64) ((v43).toInt64)) (tb_s tb_564 tb_565 tb_5 tb_566) rfl (by decide +kernel) ⟨Nat.le_trans (by decide) hfr, Nat.le_trans (Nat.le_of_ble_eq_true rfl) hlo⟩ rfl (Nat.le_of_ble_eq_true rfl) rfl dX11_sends_357 hF (fun v44 h H locs hF A => ?_)
          show W _ _ _ _ _ _ _ _ _ _ _ _ _ _ _ (F0 m 360 ls [.int v44])
          refine lv_if_ne (tgt := 365) hx hb dX11_sends_360 (by decide) (fun c45 => ?_) (fun c45 => ?_)
          · have hF := mo_ifF c45 hF
            refine lv_iconst (v := (0 : Int32)) hx hb dX11_sends_365 (by decide) ?_
            refine lv_istore (lv' := [(9, .int (0 : Int32)), (8, .int (((12 : Int32) * x1) + x4)), (7, .int (((6 : Int32) * x1) + x2)), (0, .ref x0), (1, .int x1), (2, .int x2), (3, .int x3), (4, .int x4), (5, .int x5), (6, .int x6)]) hx hb dX11_sends_366 hl (by decide) rfl (fun ls hl => ?_)
            exact J368 mo_fu x0 x1 x3 x4 x5 (((6 : Int32) * x1) + x2) (((12 : Int32) * x1) + x4) (0 : Int32) h H locs ls A (lv_sub hl [3, 4, 6, 7, 8, 2, 1, 0] rfl) hF
          · have hF := mo_ifT c45 hF
            refine lv_iconst (v := (0 : Int32)) hx hb dX11_sends_363 (by decide) ?_
            rw [hQ]
            exact mo_zret C A hr hlocks dX11_sends_364 hF
        · have hF := mo_ifT c41 hF
          refine lv_aload_n hx hb dX11_sends_196 rfl (lv_at hl 2 rfl) ?_
          refine mo_wR C A (T := TX11) iX11 rfl 32 (by decide) tb_149 rfl dX11_sends_197 hF (fun v46 hF => ?_)
          refine lv_iload hx hb dX11_sends_200 (lv_at hl 0 rfl) ?_
          refine mo_wla C A dX11_sends_202 hF (fun v47 hF => ?_)
          refine lv_if_ne (tgt := 222) hx hb dX11_sends_203 (by decide) (fun c48 => ?_) (fun c48 => ?_)
          · have hF := mo_ifF c48 hF
            refine lv_aload_n hx hb dX11_sends_222 rfl (lv_at hl 2 rfl) ?_
            refine mo_wR C A (T := TX11) iX11 rfl 30 (by decide) tb_147 rfl dX11_sends_223 hF (fun v49 hF => ?_)
            refine lv_iload hx hb dX11_sends_226 (lv_at hl 0 rfl) ?_
            refine mo_wla C A dX11_sends_228 hF (fun v50 hF => ?_)
            refine lv_istore (lv' := [(9, .int v50), (8, .int (((12 : Int32) * x1) + x4)), (7, .int (((6 : Int32) * x1) + x2)), (0, .ref x0), (1, .int x1), (2, .int x2), (3, .int x3), (4, .int x4), (5, .int x5), (6, .int x6)]) hx hb dX11_sends_229 hl (by decide) rfl (fun ls hl => ?_)
            refine lv_iload hx hb dX11_sends_231 (lv_at hl 8 rfl) ?_
            refine lv_i2l hx hb dX11_sends_233 rfl ?_
            refine lv_aload_n hx hb dX11_sends_234 rfl (lv_at hl 3 rfl) ?_
            refine mo_wR C A (T := TX11) iX11 rfl 42 (by decide) tb_159 rfl dX11_sends_235 hF (fun v51 hF => ?_)
            refine lv_iload hx hb dX11_sends_238 (lv_at hl 0 rfl) ?_
            refine mo_wla C A dX11_sends_240 hF (fun v52 hF => ?_)
            refine lv_i2l hx hb dX11_sends_241 rfl ?_
            refine mo_cS (n := 2) (As := [.long ((x5).toInt64), .long ((v52).toInt64)]) (rest := []) C A hml hl.1 (c_X11_areCells l D dA b0 ((x5).toInt64) ((v52).toInt64)) (tb_s tb_564 tb_565 tb_5 tb_566) rfl (by decide +kernel) ⟨Nat.le_trans (by decide) hfr, Nat.le_trans (Nat.le_of_ble_eq_true rfl) hlo⟩ rfl (Nat.le_of_ble_eq_true rfl) rfl dX11_sends_242 hF (fun v53 h H locs hF A => ?_)
            show W _ _ _ _ _ _ _ _ _ _ _ _ _ _ _ (F0 m 245 ls [.int v53])
            refine lv_if_ne (tgt := 250) hx hb dX11_sends_245 (by decide) (fun c54 => ?_) (fun c54 => ?_)
            · have hF := mo_ifF c54 hF
              refine lv_iconst (v := (0 : Int32)) hx hb dX11_sends_250 (by decide) ?_
              refine lv_istore (lv' := [(10, .int (0 : Int32)), (9, .int v50), (8, .int (((12 : Int32) * x1) + x4)), (7, .int (((6 : Int32) * x1) + x2)), (0, .ref x0), (1, .int x1), (2, .int x2), (3, .int x3), (4, .int x4), (5, .int x5), (6, .int x6)]) hx hb dX11_sends_251 hl (by decide) rfl (fun ls hl => ?_)
              exact J253 mo_fu x0 x5 (((6 : Int32) * x1) + x2) (((12 : Int32) * x1) + x4) v50 (0 : Int32) h H locs ls A (lv_sub hl [4, 9, 3, 2, 1, 0] rfl) hF
            · have hF := mo_ifT c54 hF
              refine lv_iconst (v := (0 : Int32)) hx hb dX11_sends_248 (by decide) ?_
              rw [hQ]
              exact mo_zret C A hr hlocks dX11_sends_249 hF
          · have hF := mo_ifT c48 hF
            refine lv_aload_n hx hb dX11_sends_206 rfl (lv_at hl 2 rfl) ?_
            refine mo_wR C A (T := TX11) iX11 rfl 19 (by decide) tb_136 rfl dX11_sends_207 hF (fun v55 hF => ?_)
            refine lv_bipush (v := (8 : Int32)) hx hb dX11_sends_210 (by decide) ?_
            refine lv_iload hx hb dX11_sends_212 (lv_at hl 1 rfl) ?_
            refine lv_imul hx hb dX11_sends_214 ?_
            refine lv_bipush (v := (7 : Int32)) hx hb dX11_sends_215 (by decide) ?_
            refine lv_iadd hx hb dX11_sends_217 ?_
            refine lv_iconst (v := (-1 : Int32)) hx hb dX11_sends_218 (by decide) ?_
            refine mo_wsa C A dX11_sends_219 hF (fun h H locs hF A => ?_)
            refine lv_iconst (v := (1 : Int32)) hx hb dX11_sends_220 (by decide) ?_
            rw [hQ]
            exact mo_zret C A hr hlocks dX11_sends_221 hF
      · have hF := mo_ifT c40 hF
        refine lv_iload hx hb dX11_sends_82 (lv_at hl 8 rfl) ?_
        refine lv_iconst (v := (1 : Int32)) hx hb dX11_sends_84 (by decide) ?_
        refine lv_icmp_lt (tgt := 106) hx hb dX11_sends_85 (by decide) (fun c56 => ?_) (fun c56 => ?_)
        · have hF := mo_ifT c56 hF
          refine lv_iconst (v := (0 : Int32)) hx hb dX11_sends_106 (by decide) ?_
          rw [hQ]
          exact mo_zret C A hr hlocks dX11_sends_107 hF
        · have hF := mo_ifF c56 hF
          refine lv_iload hx hb dX11_sends_88 (lv_at hl 8 rfl) ?_
          refine lv_iconst (v := (4 : Int32)) hx hb dX11_sends_90 (by decide) ?_
          refine lv_icmp_gt (tgt := 106) hx hb dX11_sends_91 (by decide) (fun c57 => ?_) (fun c57 => ?_)
          · have hF := mo_ifT c57 hF
            refine lv_iconst (v := (0 : Int32)) hx hb dX11_sends_106 (by decide) ?_
            rw [hQ]
            exact mo_zret C A hr hlocks dX11_sends_107 hF
          · have hF := mo_ifF c57 hF
            refine lv_iload hx hb dX11_sends_94 (lv_at hl 7 rfl) ?_
            refine lv_i2l hx hb dX11_sends_96 rfl ?_
            refine lv_iload hx hb dX11_sends_97 (lv_at hl 8 rfl) ?_
            refine lv_i2l hx hb dX11_sends_99 rfl ?_
            refine mo_cS (n := 2) (As := [.long ((x5).toInt64), .long ((x6).toInt64)]) (rest := []) C A hml hl.1 (c_X11_areCells l D dA b0 ((x5).toInt64) ((x6).toInt64)) (tb_s tb_564 tb_565 tb_5 tb_566) rfl (by decide +kernel) ⟨Nat.le_trans (by decide) hfr, Nat.le_trans (Nat.le_of_ble_eq_true rfl) hlo⟩ rfl (Nat.le_of_ble_eq_true rfl) rfl dX11_sends_100 hF (fun v58 h H locs hF A => ?_)
            show W _ _ _ _ _ _ _ _ _ _ _ _ _ _ _ (F0 m 103 ls [.int v58])
            refine lv_if_ne (tgt := 108) hx hb dX11_sends_103 (by decide) (fun c59 => ?_) (fun c59 => ?_)
            · have hF := mo_ifF c59 hF
              refine lv_aload_n hx hb dX11_sends_108 rfl (lv_at hl 2 rfl) ?_
              refine mo_wR C A (T := TX11) iX11 rfl 37 (by decide) tb_154 rfl dX11_sends_109 hF (fun v60 hF => ?_)
              refine lv_iload hx hb dX11_sends_112 (lv_at hl 0 rfl) ?_
              refine mo_wla C A dX11_sends_114 hF (fun v61 hF => ?_)
              refine lv_aload_n hx hb dX11_sends_115 rfl (lv_at hl 2 rfl) ?_
              refine mo_wR C A (T := TX11) iX11 rfl 6 (by decide) tb_125 rfl dX11_sends_116 hF (fun v62 hF => ?_)
              refine lv_iload hx hb dX11_sends_119 (lv_at hl 6 rfl) ?_
              refine mo_wla C A dX11_sends_121 hF (fun v63 hF => ?_)
              refine lv_icmp_ge (tgt := 129) hx hb dX11_sends_122 (by decide) (fun c64 => ?_) (fun c64 => ?_)
              · have hF := mo_ifT c64 hF
                refine lv_iconst (v := (0 : Int32)) hx hb dX11_sends_129 (by decide) ?_
                exact J130 x0 x1 x5 x6 (((6 : Int32) * x1) + x2) (((12 : Int32) * x1) + x4) (0 : Int32) h H locs ls A (lv_sub hl [2, 3, 7, 8, 1, 0] rfl) hF
              · have hF := mo_ifF c64 hF
                refine lv_iconst (v := (1 : Int32)) hx hb dX11_sends_125 (by decide) ?_
                refine lv_goto (tgt := 130) hx hb dX11_sends_126 (by decide) ?_
                exact J130 x0 x1 x5 x6 (((6 : Int32) * x1) + x2) (((12 : Int32) * x1) + x4) (1 : Int32) h H locs ls A (lv_sub hl [2, 3, 7, 8, 1, 0] rfl) hF
            · have hF := mo_ifT c59 hF
              refine lv_iconst (v := (0 : Int32)) hx hb dX11_sends_106 (by decide) ?_
              rw [hQ]
              exact mo_zret C A hr hlocks dX11_sends_107 hF
    · have hF := mo_ifF c39 hF
      refine lv_iconst (v := (0 : Int32)) hx hb dX11_sends_57 (by decide) ?_
      rw [hQ]
      exact mo_zret C A hr hlocks dX11_sends_58 hF
  have J27 : ∀   (x0 : Nat) (x1 : Int32) (x2 : Int32) (x3 : Int32) (x4 : Int32) (x5 : Int32) (x6 : Int32) (s0 : Int32) (s1 : Int32) (h : mo_H) (H : Heap) (locs : List Loc) (ls : Array Slot), mo_A D dA b0 s.heap h0 h H locs → lv_has ls 11 [(0, .ref x0), (1, .int x1), (2, .int x2), (3, .int x3), (4, .int x4), (5, .int x5), (6, .int x6)] → (F_X11_sends_27 x0 x1 x2 x3 x4 x5 x6 s0 s1).1 h = some (z, h2) → W p l e R s m args below meth c H locs (h.2.1 - h0.2.1) (h.2.2 - h0.2.2) Q (F0 m 27 ls [.int s1, .int s0]) := by
    intro  x0 x1 x2 x3 x4 x5 x6 s0 s1 h H locs ls A hl hF
    unfold F_X11_sends_27 at hF
    refine lv_icmp_ne (tgt := 57) hx hb dX11_sends_27 (by decide) (fun c65 => ?_) (fun c65 => ?_)
    · have hF := mo_ifF c65 hF
      refine lv_iconst (v := (0 : Int32)) hx hb dX11_sends_57 (by decide) ?_
      rw [hQ]
      exact mo_zret C A hr hlocks dX11_sends_58 hF
    · have hF := mo_ifT c65 hF
      refine lv_iload_n hx hb dX11_sends_30 rfl (lv_at hl 3 rfl) ?_
      refine lv_iconst (v := (2 : Int32)) hx hb dX11_sends_31 (by decide) ?_
      refine lv_irem hx hb dX11_sends_32 (by decide) ?_
      refine lv_if_ne (tgt := 46) hx hb dX11_sends_33 (by decide) (fun c66 => ?_) (fun c66 => ?_)
      · have hF := mo_ifF c66 hF
        refine lv_aload_n hx hb dX11_sends_46 rfl (lv_at hl 0 rfl) ?_
        refine mo_wR C A (T := TX11) iX11 rfl 4 (by decide) tb_123 rfl dX11_sends_47 hF (fun v67 hF => ?_)
        refine lv_iload hx hb dX11_sends_50 (lv_at hl 4 rfl) ?_
        refine mo_wla C A dX11_sends_52 hF (fun v68 hF => ?_)
        exact J53 x0 x1 x2 x3 x4 x5 x6 v68 h H locs ls A (lv_sub hl [0, 1, 2, 3, 4, 5, 6] rfl) hF
      · have hF := mo_ifT c66 hF
        refine lv_aload_n hx hb dX11_sends_36 rfl (lv_at hl 0 rfl) ?_
        refine mo_wR C A (T := TX11) iX11 rfl 3 (by decide) tb_122 rfl dX11_sends_37 hF (fun v69 hF => ?_)
        refine lv_iload hx hb dX11_sends_40 (lv_at hl 4 rfl) ?_
        refine mo_wla C A dX11_sends_42 hF (fun v70 hF => ?_)
        refine lv_goto (tgt := 53) hx hb dX11_sends_43 (by decide) ?_
        exact J53 x0 x1 x2 x3 x4 x5 x6 v70 h H locs ls A (lv_sub hl [0, 1, 2, 3, 4, 5, 6] rfl) hF
  unfold F_X11_sends at hF
  obtain ⟨-, hF⟩ := mo_ckE hF
  have E : ∀ (h : mo_H) (H : Heap) (locs : List Loc), (mo_b (mo_gI x0 11 2) fun v71 => (if v71 ≤ x4 then mo_rz (0 : Int32) else mo_b (mo_gR x0 11 5) fun v73 => mo_b (mo_la 1 v73 x4) fun v74 => (if x3 ≤ (15 : Int32) then F_X11_sends_27 x0 x1 x2 x3 x4 x5 x6 v74 (0 : Int32) else F_X11_sends_27 x0 x1 x2 x3 x4 x5 x6 v74 (1 : Int32)))).1 h = some (z, h2) → mo_A D dA b0 s.heap h0 h H locs → W p l e R s m args below meth c H locs (h.2.1 - h0.2.1) (h.2.2 - h0.2.2) Q (F0 m 0 ls []) := by
    intro h H locs hF A
    refine lv_iload hx hb dX11_sends_0 (lv_at hl 4 rfl) ?_
    refine lv_aload_n hx hb dX11_sends_2 rfl (lv_at hl 0 rfl) ?_
    refine mo_wI C A (T := TX11) iX11 rfl 2 (by decide) tb_197 rfl dX11_sends_3 hF (fun v71 hF => ?_)
    refine lv_icmp_ge (tgt := 57) hx hb dX11_sends_6 (by decide) (fun c72 => ?_) (fun c72 => ?_)
    · have hF := mo_ifT c72 hF
      refine lv_iconst (v := (0 : Int32)) hx hb dX11_sends_57 (by decide) ?_
      rw [hQ]
      exact mo_zret C A hr hlocks dX11_sends_58 hF
    · have hF := mo_ifF c72 hF
      refine lv_aload_n hx hb dX11_sends_9 rfl (lv_at hl 0 rfl) ?_
      refine mo_wR C A (T := TX11) iX11 rfl 5 (by decide) tb_124 rfl dX11_sends_10 hF (fun v73 hF => ?_)
      refine lv_iload hx hb dX11_sends_13 (lv_at hl 4 rfl) ?_
      refine mo_wlz C A dX11_sends_15 hF (fun v74 hF => ?_)
      refine lv_iload_n hx hb dX11_sends_16 rfl (lv_at hl 3 rfl) ?_
      refine lv_bipush (v := (15 : Int32)) hx hb dX11_sends_17 (by decide) ?_
      refine lv_icmp_le (tgt := 26) hx hb dX11_sends_19 (by decide) (fun c75 => ?_) (fun c75 => ?_)
      · have hF := mo_ifT c75 hF
        refine lv_iconst (v := (0 : Int32)) hx hb dX11_sends_26 (by decide) ?_
        exact J27 x0 x1 x2 x3 x4 x5 x6 v74 (0 : Int32) h H locs ls A (lv_sub hl [0, 1, 2, 3, 4, 5, 6] rfl) hF
      · have hF := mo_ifF c75 hF
        refine lv_iconst (v := (1 : Int32)) hx hb dX11_sends_22 (by decide) ?_
        refine lv_goto (tgt := 27) hx hb dX11_sends_23 (by decide) ?_
        exact J27 x0 x1 x2 x3 x4 x5 x6 v74 (1 : Int32) h H locs ls A (lv_sub hl [0, 1, 2, 3, 4, 5, 6] rfl) hF
  exact E h0 s.heap [] hF A
