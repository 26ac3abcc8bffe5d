set_option maxHeartbeats 4000000 in
set_option maxRecDepth 100000 in
theorem c_X11_again (l : Launch) (D : va_G) (dA : Nat → ClassId) (b0 : Nat) (x0 : Nat) (x1 : Int32) (x2 : Nat) : mo_Met l yX11_again [Cond.code yX11_again cX11_again 6 none] 5 138 D dA b0 [.ref x0, .int x1, .ref x2] (fun _ : Unit => none) (F_X11_again x0 x1 x2) := by
  refine mo_MetOf (own := RX11) (by decide) (Nat.le_of_ble_eq_true rfl) [(0, .ref x0), (1, .int x1), (2, .ref x2)] rfl rfl ?_
  intro p e R s m args below meth c Q h0 h2 z ls hQ C hml hr hlocks hnm hfr hlo hF A hl
  have hx := C.1
  have hb := C.2.1
  have hown := C.2.2.1
  have hts := C.2.2.2.1
  have hK := C.2.2.2.2.1
  have iX11 := inlX11
  have J77 : ∀ (k7 : Nat → Int32 → Nat → Int32 → mo_M Unit) (k22 : Nat → Int32 → Nat → Int32 → mo_M Unit) (hk7 : ∀ (x0 : Nat) (x1 : Int32) (x2 : Nat) (x3 : Int32) (h : mo_H) (H : Heap) (locs : List Loc) (ls : Array Slot), mo_A D dA b0 s.heap h0 h H locs → lv_has ls 6 [(0, .ref x0), (1, .int x1), (2, .ref x2), (3, .int x3)] → (k7 x0 x1 x2 x3).1 h = some (z, h2) → W p l e R s m args below meth c H locs (h.2.1 - h0.2.1) (h.2.2 - h0.2.2) Q (F0 m 7 ls [])) (hk22 : ∀ (x0 : Nat) (x1 : Int32) (x2 : Nat) (x3 : Int32) (h : mo_H) (H : Heap) (locs : List Loc) (ls : Array Slot), mo_A D dA b0 s.heap h0 h H locs → lv_has ls 6 [(0, .ref x0), (1, .int x1), (2, .ref x2), (3, .int x3)] → (k22 x0 x1 x2 x3).1 h = some (z, h2) → W p l e R s m args below meth c H locs (h.2.1 - h0.2.1) (h.2.2 - h0.2.2) Q (F0 m 22 ls [])) (x0 : Nat) (x1 : Int32) (x2 : Nat) (x3 : Int32) (h : mo_H) (H : Heap) (locs : List Loc) (ls : Array Slot), mo_A D dA b0 s.heap h0 h H locs → lv_has ls 6 [(0, .ref x0), (1, .int x1), (2, .ref x2), (3, .int x3)] → (F_X11_again_77 k7 k22 x0 x1 x2 x3).1 h = some (z, h2) → W p l e R s m args below meth c H locs (h.2.1 - h0.2.1) (h.2.2 - h0.2.2) Q (F0 m 77 ls []) := by
    intro k7 k22 hk7 hk22 x0 x1 x2 x3 h H locs ls A hl hF
    unfold F_X11_again_77 at hF
    refine lv_iinc (v := (x3 + (1 : Int32))) (lv' := [(3, .int (x3 + (1 : Int32))), (0, .ref x0), (1, .int x1), (2, .ref x2)]) hx hb dX11_again_77 hl (k := 3) rfl rfl (by decide) rfl (fun ls hl => ?_)
    refine lv_goto (tgt := 22) hx hb dX11_again_80 (by decide) ?_
    exact hk22 x0 x1 x2 (x3 + (1 : Int32)) h H locs ls A (lv_sub hl [1, 2, 3, 0] rfl) hF
  have J151 : ∀ (k7 : Nat → Int32 → Nat → Int32 → mo_M Unit) (hk7 : ∀ (x0 : Nat) (x1 : Int32) (x2 : Nat) (x3 : Int32) (h : mo_H) (H : Heap) (locs : List Loc) (ls : Array Slot), mo_A D dA b0 s.heap h0 h H locs → lv_has ls 6 [(0, .ref x0), (1, .int x1), (2, .ref x2), (3, .int x3)] → (k7 x0 x1 x2 x3).1 h = some (z, h2) → W p l e R s m args below meth c H locs (h.2.1 - h0.2.1) (h.2.2 - h0.2.2) Q (F0 m 7 ls [])) (x0 : Nat) (x1 : Int32) (x2 : Nat) (x5 : Int32) (s0 : Int32) (s1 : Int32) (h : mo_H) (H : Heap) (locs : List Loc) (ls : Array Slot), mo_A D dA b0 s.heap h0 h H locs → lv_has ls 6 [(0, .ref x0), (1, .int x1), (2, .ref x2), (5, .int x5)] → (F_X11_again_151 k7 x0 x1 x2 x5 s0 s1).1 h = some (z, h2) → W p l e R s m args below meth c H locs (h.2.1 - h0.2.1) (h.2.2 - h0.2.2) Q (F0 m 151 ls [.int s1, .int s0]) := by
    intro k7 hk7 x0 x1 x2 x5 s0 s1 h H locs ls A hl hF
    unfold F_X11_again_151 at hF
    refine lv_iadd hx hb dX11_again_151 ?_
    refine lv_istore_n (lv' := [(3, .int (s0 + s1)), (0, .ref x0), (1, .int x1), (2, .ref x2), (5, .int x5)]) hx hb dX11_again_152 rfl hl (by decide) rfl (fun ls hl => ?_)
    refine lv_aload_n hx hb dX11_again_153 rfl (lv_at hl 1 rfl) ?_
    refine lv_iload_n hx hb dX11_again_154 rfl (lv_at hl 2 rfl) ?_
    refine lv_iload hx hb dX11_again_155 (lv_at hl 4 rfl) ?_
    refine mo_cV (n := 2) (As := [.int x1, .int x5]) (rest := []) C A hml hl.1 (c_X11_pass l D dA b0 x0 x1 x5) (ci := 11) (q := (RX11, TX11, 56)) rfl (fun _ e => (mo_ckE e).1) (tb_v tb_543 tb_544 tb_545 tb_5 tb_546) rfl (by decide +kernel) ⟨Nat.le_trans (by decide) hfr, Nat.le_trans (Nat.le_of_ble_eq_true rfl) hlo⟩ rfl (Nat.le_of_ble_eq_true rfl) rfl dX11_again_157 hF (fun v1 h H locs hF A => ?_)
    show W _ _ _ _ _ _ _ _ _ _ _ _ _ _ _ (F0 m 160 ls [])
    refine lv_goto (tgt := 7) hx hb dX11_again_160 (by decide) ?_
    exact hk7 x0 x1 x2 (s0 + s1) h H locs ls A (lv_sub hl [1, 2, 3, 0] rfl) hF
  have J138 : ∀ (k7 : Nat → Int32 → Nat → Int32 → mo_M Unit) (hk7 : ∀ (x0 : Nat) (x1 : Int32) (x2 : Nat) (x3 : Int32) (h : mo_H) (H : Heap) (locs : List Loc) (ls : Array Slot), mo_A D dA b0 s.heap h0 h H locs → lv_has ls 6 [(0, .ref x0), (1, .int x1), (2, .ref x2), (3, .int x3)] → (k7 x0 x1 x2 x3).1 h = some (z, h2) → W p l e R s m args below meth c H locs (h.2.1 - h0.2.1) (h.2.2 - h0.2.2) Q (F0 m 7 ls [])) (x0 : Nat) (x1 : Int32) (x2 : Nat) (x3 : Int32) (x4 : Int32) (s0 : Int32) (h : mo_H) (H : Heap) (locs : List Loc) (ls : Array Slot), mo_A D dA b0 s.heap h0 h H locs → lv_has ls 6 [(0, .ref x0), (1, .int x1), (2, .ref x2), (3, .int x3), (4, .int x4)] → (F_X11_again_138 k7 x0 x1 x2 x3 x4 s0).1 h = some (z, h2) → W p l e R s m args below meth c H locs (h.2.1 - h0.2.1) (h.2.2 - h0.2.2) Q (F0 m 138 ls [.int s0]) := by
    intro k7 hk7 x0 x1 x2 x3 x4 s0 h H locs ls A hl hF
    unfold F_X11_again_138 at hF
    refine lv_istore (lv' := [(5, .int s0), (0, .ref x0), (1, .int x1), (2, .ref x2), (3, .int x3), (4, .int x4)]) hx hb dX11_again_138 hl (by decide) rfl (fun ls hl => ?_)
    refine lv_iload_n hx hb dX11_again_140 rfl (lv_at hl 4 rfl) ?_
    refine lv_iload hx hb dX11_again_141 (lv_at hl 5 rfl) ?_
    refine lv_if_eq (tgt := 150) hx hb dX11_again_143 (by decide) (fun c2 => ?_) (fun c2 => ?_)
    · have hF := mo_ifT c2 hF
      refine lv_iconst (v := (0 : Int32)) hx hb dX11_again_150 (by decide) ?_
      exact J151 k7 hk7 x0 x1 x2 s0 x3 (0 : Int32) h H locs ls A (lv_sub hl [1, 2, 3, 0] rfl) hF
    · have hF := mo_ifF c2 hF
      refine lv_iconst (v := (1 : Int32)) hx hb dX11_again_146 (by decide) ?_
      refine lv_goto (tgt := 151) hx hb dX11_again_147 (by decide) ?_
      exact J151 k7 hk7 x0 x1 x2 s0 x3 (1 : Int32) h H locs ls A (lv_sub hl [1, 2, 3, 0] rfl) hF
  have J137 : ∀ (k7 : Nat → Int32 → Nat → Int32 → mo_M Unit) (hk7 : ∀ (x0 : Nat) (x1 : Int32) (x2 : Nat) (x3 : Int32) (h : mo_H) (H : Heap) (locs : List Loc) (ls : Array Slot), mo_A D dA b0 s.heap h0 h H locs → lv_has ls 6 [(0, .ref x0), (1, .int x1), (2, .ref x2), (3, .int x3)] → (k7 x0 x1 x2 x3).1 h = some (z, h2) → W p l e R s m args below meth c H locs (h.2.1 - h0.2.1) (h.2.2 - h0.2.2) Q (F0 m 7 ls [])) (x0 : Nat) (x1 : Int32) (x2 : Nat) (x3 : Int32) (x4 : Int32) (h : mo_H) (H : Heap) (locs : List Loc) (ls : Array Slot), mo_A D dA b0 s.heap h0 h H locs → lv_has ls 6 [(0, .ref x0), (1, .int x1), (2, .ref x2), (3, .int x3), (4, .int x4)] → (F_X11_again_137 k7 x0 x1 x2 x3 x4).1 h = some (z, h2) → W p l e R s m args below meth c H locs (h.2.1 - h0.2.1) (h.2.2 - h0.2.2) Q (F0 m 137 ls []) := by
    intro k7 hk7 x0 x1 x2 x3 x4 h H locs ls A hl hF
    unfold F_X11_again_137 at hF
    refine lv_iconst (v := (0 : Int32)) hx hb dX11_again_137 (by decide) ?_
    exact J138 k7 hk7 x0 x1 x2 x3 x4 (0 : Int32) h H locs ls A (lv_sub hl [0, 1, 2, 3, 4] rfl) hF
  have J120 : ∀ (k7 : Nat → Int32 → Nat → Int32 → mo_M Unit) (hk7 : ∀ (x0 : Nat) (x1 : Int32) (x2 : Nat) (x3 : Int32) (h : mo_H) (H : Heap) (locs : List Loc) (ls : Array Slot), mo_A D dA b0 s.heap h0 h H locs → lv_has ls 6 [(0, .ref x0), (1, .int x1), (2, .ref x2), (3, .int x3)] → (k7 x0 x1 x2 x3).1 h = some (z, h2) → W p l e R s m args below meth c H locs (h.2.1 - h0.2.1) (h.2.2 - h0.2.2) Q (F0 m 7 ls [])) (x0 : Nat) (x1 : Int32) (x2 : Nat) (x3 : Int32) (s0 : Int32) (h : mo_H) (H : Heap) (locs : List Loc) (ls : Array Slot), mo_A D dA b0 s.heap h0 h H locs → lv_has ls 6 [(0, .ref x0), (1, .int x1), (2, .ref x2), (3, .int x3)] → (F_X11_again_120 k7 x0 x1 x2 x3 s0).1 h = some (z, h2) → W p l e R s m args below meth c H locs (h.2.1 - h0.2.1) (h.2.2 - h0.2.2) Q (F0 m 120 ls [.int s0]) := by
    intro k7 hk7 x0 x1 x2 x3 s0 h H locs ls A hl hF
    unfold F_X11_again_120 at hF
    refine lv_istore (lv' := [(4, .int s0), (0, .ref x0), (1, .int x1), (2, .ref x2), (3, .int x3)]) hx hb dX11_again_120 hl (by decide) rfl (fun ls hl => ?_)
    refine lv_iload hx hb dX11_again_122 (lv_at hl 0 rfl) ?_
    refine lv_if_eq (tgt := 137) hx hb dX11_again_124 (by decide) (fun c3 => ?_) (fun c3 => ?_)
    · have hF := mo_ifT c3 hF
      exact J137 k7 hk7 x0 x1 x2 x3 s0 h H locs ls A (lv_sub hl [1, 2, 3, 4, 0] rfl) hF
    · have hF := mo_ifF c3 hF
      refine lv_aload_n hx hb dX11_again_127 rfl (lv_at hl 3 rfl) ?_
      refine lv_iload_n hx hb dX11_again_128 rfl (lv_at hl 4 rfl) ?_
      refine mo_wlz C A dX11_again_129 hF (fun v4 hF => ?_)
      refine lv_if_eq (tgt := 137) hx hb dX11_again_130 (by decide) (fun c5 => ?_) (fun c5 => ?_)
      · have hF := mo_ifT c5 hF
        exact J137 k7 hk7 x0 x1 x2 x3 s0 h H locs ls A (lv_sub hl [1, 2, 3, 4, 0] rfl) hF
      · have hF := mo_ifF c5 hF
        refine lv_iconst (v := (1 : Int32)) hx hb dX11_again_133 (by decide) ?_
        refine lv_goto (tgt := 138) hx hb dX11_again_134 (by decide) ?_
        exact J138 k7 hk7 x0 x1 x2 x3 s0 (1 : Int32) h H locs ls A (lv_sub hl [1, 2, 3, 4, 0] rfl) hF
  have J119 : ∀ (k7 : Nat → Int32 → Nat → Int32 → mo_M Unit) (hk7 : ∀ (x0 : Nat) (x1 : Int32) (x2 : Nat) (x3 : Int32) (h : mo_H) (H : Heap) (locs : List Loc) (ls : Array Slot), mo_A D dA b0 s.heap h0 h H locs → lv_has ls 6 [(0, .ref x0), (1, .int x1), (2, .ref x2), (3, .int x3)] → (k7 x0 x1 x2 x3).1 h = some (z, h2) → W p l e R s m args below meth c H locs (h.2.1 - h0.2.1) (h.2.2 - h0.2.2) Q (F0 m 7 ls [])) (x0 : Nat) (x1 : Int32) (x2 : Nat) (x3 : Int32) (h : mo_H) (H : Heap) (locs : List Loc) (ls : Array Slot), mo_A D dA b0 s.heap h0 h H locs → lv_has ls 6 [(0, .ref x0), (1, .int x1), (2, .ref x2), (3, .int x3)] → (F_X11_again_119 k7 x0 x1 x2 x3).1 h = some (z, h2) → W p l e R s m args below meth c H locs (h.2.1 - h0.2.1) (h.2.2 - h0.2.2) Q (F0 m 119 ls []) := by
    intro k7 hk7 x0 x1 x2 x3 h H locs ls A hl hF
    unfold F_X11_again_119 at hF
    refine lv_iconst (v := (0 : Int32)) hx hb dX11_again_119 (by decide) ?_
    exact J120 k7 hk7 x0 x1 x2 x3 (0 : Int32) h H locs ls A (lv_sub hl [0, 1, 2, 3] rfl) hF
  have J83 : ∀ (k7 : Nat → Int32 → Nat → Int32 → mo_M Unit) (hk7 : ∀ (x0 : Nat) (x1 : Int32) (x2 : Nat) (x3 : Int32) (h : mo_H) (H : Heap) (locs : List Loc) (ls : Array Slot), mo_A D dA b0 s.heap h0 h H locs → lv_has ls 6 [(0, .ref x0), (1, .int x1), (2, .ref x2), (3, .int x3)] → (k7 x0 x1 x2 x3).1 h = some (z, h2) → W p l e R s m args below meth c H locs (h.2.1 - h0.2.1) (h.2.2 - h0.2.2) Q (F0 m 7 ls [])) (x0 : Nat) (x1 : Int32) (x2 : Nat) (x3 : Int32) (h : mo_H) (H : Heap) (locs : List Loc) (ls : Array Slot), mo_A D dA b0 s.heap h0 h H locs → lv_has ls 6 [(0, .ref x0), (1, .int x1), (2, .ref x2), (3, .int x3)] → (F_X11_again_83 k7 x0 x1 x2 x3).1 h = some (z, h2) → W p l e R s m args below meth c H locs (h.2.1 - h0.2.1) (h.2.2 - h0.2.2) Q (F0 m 83 ls []) := by
    intro k7 hk7 x0 x1 x2 x3 h H locs ls A hl hF
    unfold F_X11_again_83 at hF
    refine lv_iload_n hx hb dX11_again_83 rfl (lv_at hl 3 rfl) ?_
    refine lv_aload_n hx hb dX11_again_84 rfl (lv_at hl 0 rfl) ?_
    refine mo_wI C A (T := TX11) iX11 rfl 14 (by decide) tb_316 rfl dX11_again_85 hF (fun v6 hF => ?_)
    refine lv_icmp_ge (tgt := 119) hx hb dX11_again_88 (by decide) (fun c7 => ?_) (fun c7 => ?_)
    · have hF := mo_ifT c7 hF
      exact J119 k7 hk7 x0 x1 x2 x3 h H locs ls A (lv_sub hl [0, 1, 2, 3] rfl) hF
    · have hF := mo_ifF c7 hF
      refine lv_aload_n hx hb dX11_again_91 rfl (lv_at hl 0 rfl) ?_
      refine mo_wR C A (T := TX11) iX11 rfl 16 (by decide) tb_133 rfl dX11_again_92 hF (fun v8 hF => ?_)
      refine lv_iload_n hx hb dX11_again_95 rfl (lv_at hl 3 rfl) ?_
      refine mo_wlz C A dX11_again_96 hF (fun v9 hF => ?_)
      refine lv_if_ne (tgt := 119) hx hb dX11_again_97 (by decide) (fun c10 => ?_) (fun c10 => ?_)
      · have hF := mo_ifF c10 hF
        exact J119 k7 hk7 x0 x1 x2 x3 h H locs ls A (lv_sub hl [0, 1, 2, 3] rfl) hF
      · have hF := mo_ifT c10 hF
        refine lv_aload_n hx hb dX11_again_100 rfl (lv_at hl 0 rfl) ?_
        refine mo_wR C A (T := TX11) iX11 rfl 17 (by decide) tb_134 rfl dX11_again_101 hF (fun v11 hF => ?_)
        refine lv_iload_n hx hb dX11_again_104 rfl (lv_at hl 3 rfl) ?_
        refine mo_wla C A dX11_again_105 hF (fun v12 hF => ?_)
        refine lv_aload_n hx hb dX11_again_106 rfl (lv_at hl 0 rfl) ?_
        refine mo_wR C A (T := TX11) iX11 rfl 45 (by decide) tb_163 rfl dX11_again_107 hF (fun v13 hF => ?_)
        refine lv_iload_n hx hb dX11_again_110 rfl (lv_at hl 1 rfl) ?_
        refine mo_wla C A dX11_again_111 hF (fun v14 hF => ?_)
        refine lv_icmp_ne (tgt := 119) hx hb dX11_again_112 (by decide) (fun c15 => ?_) (fun c15 => ?_)
        · have hF := mo_ifF c15 hF
          exact J119 k7 hk7 x0 x1 x2 x3 h H locs ls A (lv_sub hl [0, 1, 2, 3] rfl) hF
        · have hF := mo_ifT c15 hF
          refine lv_iconst (v := (1 : Int32)) hx hb dX11_again_115 (by decide) ?_
          refine lv_goto (tgt := 120) hx hb dX11_again_116 (by decide) ?_
          exact J120 k7 hk7 x0 x1 x2 x3 (1 : Int32) h H locs ls A (lv_sub hl [0, 1, 2, 3] rfl) hF
  have J22 : ∀ (k7 : Nat → Int32 → Nat → Int32 → mo_M Unit) (hk7 : ∀ (x0 : Nat) (x1 : Int32) (x2 : Nat) (x3 : Int32) (h : mo_H) (H : Heap) (locs : List Loc) (ls : Array Slot), mo_A D dA b0 s.heap h0 h H locs → lv_has ls 6 [(0, .ref x0), (1, .int x1), (2, .ref x2), (3, .int x3)] → (k7 x0 x1 x2 x3).1 h = some (z, h2) → W p l e R s m args below meth c H locs (h.2.1 - h0.2.1) (h.2.2 - h0.2.2) Q (F0 m 7 ls [])) (fu : Nat) (x0 : Nat) (x1 : Int32) (x2 : Nat) (x3 : Int32) (h : mo_H) (H : Heap) (locs : List Loc) (ls : Array Slot), mo_A D dA b0 s.heap h0 h H locs → lv_has ls 6 [(0, .ref x0), (1, .int x1), (2, .ref x2), (3, .int x3)] → (F_X11_again_22 k7 fu x0 x1 x2 x3).1 h = some (z, h2) → W p l e R s m args below meth c H locs (h.2.1 - h0.2.1) (h.2.2 - h0.2.2) Q (F0 m 22 ls []) := by
    intro k7 hk7 fu
    induction fu with
    | zero =>
      intro x0 x1 x2 x3 h H locs ls A hl hF
      unfold F_X11_again_22 at hF
      cases hF
    | succ fu ih =>
      intro x0 x1 x2 x3 h H locs ls A hl hF
      unfold F_X11_again_22 at hF
      refine lv_iload_n hx hb dX11_again_22 rfl (lv_at hl 3 rfl) ?_
      refine lv_aload_n hx hb dX11_again_23 rfl (lv_at hl 0 rfl) ?_
      refine mo_wI C A (T := TX11) iX11 rfl 14 (by decide) tb_316 rfl dX11_again_24 hF (fun v16 hF => ?_)
      refine lv_icmp_ge (tgt := 83) hx hb dX11_again_27 (by decide) (fun c17 => ?_) (fun c17 => ?_)
      · have hF := mo_ifT c17 hF
        exact J83 k7 hk7 x0 x1 x2 x3 h H locs ls A (lv_sub hl [0, 1, 2, 3] rfl) hF
      · have hF := mo_ifF c17 hF
        refine lv_aload_n hx hb dX11_again_30 rfl (lv_at hl 0 rfl) ?_
        refine mo_wR C A (T := TX11) iX11 rfl 16 (by decide) tb_133 rfl dX11_again_31 hF (fun v18 hF => ?_)
        refine lv_iload_n hx hb dX11_again_34 rfl (lv_at hl 3 rfl) ?_
        refine mo_wlz C A dX11_again_35 hF (fun v19 hF => ?_)
        refine lv_if_eq (tgt := 83) hx hb dX11_again_36 (by decide) (fun c20 => ?_) (fun c20 => ?_)
        · have hF := mo_ifT c20 hF
          exact J83 k7 hk7 x0 x1 x2 x3 h H locs ls A (lv_sub hl [0, 1, 2, 3] rfl) hF
        · have hF := mo_ifF c20 hF
          refine lv_aload_n hx hb dX11_again_39 rfl (lv_at hl 0 rfl) ?_
          refine mo_wR C A (T := TX11) iX11 rfl 17 (by decide) tb_134 rfl dX11_again_40 hF (fun v21 hF => ?_)
          refine lv_iload_n hx hb dX11_again_43 rfl (lv_at hl 3 rfl) ?_
          refine mo_wla C A dX11_again_44 hF (fun v22 hF => ?_)
          refine lv_aload_n hx hb dX11_again_45 rfl (lv_at hl 0 rfl) ?_
          refine mo_wR C A (T := TX11) iX11 rfl 45 (by decide) tb_163 rfl dX11_again_46 hF (fun v23 hF => ?_)
          refine lv_iload_n hx hb dX11_again_49 rfl (lv_at hl 1 rfl) ?_
          refine mo_wla C A dX11_again_50 hF (fun v24 hF => ?_)
          refine lv_icmp_ne (tgt := 83) hx hb dX11_again_51 (by decide) (fun c25 => ?_) (fun c25 => ?_)
          · have hF := mo_ifF c25 hF
            exact J83 k7 hk7 x0 x1 x2 x3 h H locs ls A (lv_sub hl [0, 1, 2, 3] rfl) hF
          · have hF := mo_ifT c25 hF
            refine lv_aload_n hx hb dX11_again_54 rfl (lv_at hl 2 rfl) ?_
            refine lv_iload_n hx hb dX11_again_55 rfl (lv_at hl 3 rfl) ?_
            refine mo_wlz C A dX11_again_56 hF (fun v26 hF => ?_)
            refine lv_if_eq (tgt := 77) hx hb dX11_again_57 (by decide) (fun c27 => ?_) (fun c27 => ?_)
            · have hF := mo_ifT c27 hF
              exact J77 k7 (F_X11_again_22 k7 fu) hk7 ih x0 x1 x2 x3 h H locs ls A (lv_sub hl [0, 1, 2, 3] rfl) hF
            · have hF := mo_ifF c27 hF
              refine lv_aload_n hx hb dX11_again_60 rfl (lv_at hl 0 rfl) ?_
              refine lv_iload_n hx hb dX11_again_61 rfl (lv_at hl 1 rfl) ?_
              refine lv_aload_n hx hb dX11_again_62 rfl (lv_at hl 0 rfl) ?_
              refine mo_wR C A (T := TX11) iX11 rfl 15 (by decide) tb_132 rfl dX11_again_63 hF (fun v28 hF => ?_)
              refine lv_iload_n hx hb dX11_again_66 rfl (lv_at hl 3 rfl) ?_
              refine mo_wla C A dX11_again_67 hF (fun v29 hF => ?_)
              refine lv_aload_n hx hb dX11_again_68 rfl (lv_at hl 0 rfl) ?_
              refine mo_wR C A (T := TX11) iX11 rfl 18 (by decide) tb_135 rfl dX11_again_69 hF (fun v30 hF => ?_)
              refine lv_iload_n hx hb dX11_again_72 rfl (lv_at hl 3 rfl) ?_
              refine mo_wla C A dX11_again_73 hF (fun v31 hF => ?_)
              refine mo_cV (n := 3) (As := [.int x1, .int v29, .int v31]) (rest := []) C A hml hl.1 (c_X11_give l D dA b0 x0 x1 v29 v31) (ci := 11) (q := (RX11, TX11, 56)) rfl (fun _ e => (mo_ckE e).1) (tb_v tb_321 tb_322 tb_323 tb_5 tb_324) rfl (by decide +kernel) ⟨Nat.le_trans (by decide) hfr, Nat.le_trans (Nat.le_of_ble_eq_true rfl) hlo⟩ rfl (Nat.le_of_ble_eq_true rfl) rfl dX11_again_74 hF (fun v32 h H locs hF A => ?_)
              show W _ _ _ _ _ _ _ _ _ _ _ _ _ _ _ (F0 m 77 ls [])
              exact J77 k7 (F_X11_again_22 k7 fu) hk7 ih x0 x1 x2 x3 h H locs ls A (lv_sub hl [0, 1, 2, 3] rfl) hF
  have J194 : ∀ (k163 : Nat → Int32 → Nat → Int32 → mo_M Unit) (hk163 : ∀ (x0 : Nat) (x1 : Int32) (x2 : Nat) (x3 : Int32) (h : mo_H) (H : Heap) (locs : List Loc) (ls : Array Slot), mo_A D dA b0 s.heap h0 h H locs → lv_has ls 6 [(0, .ref x0), (1, .int x1), (2, .ref x2), (3, .int x3)] → (k163 x0 x1 x2 x3).1 h = some (z, h2) → W p l e R s m args below meth c H locs (h.2.1 - h0.2.1) (h.2.2 - h0.2.2) Q (F0 m 163 ls [])) (x0 : Nat) (x1 : Int32) (x2 : Nat) (x3 : Int32) (h : mo_H) (H : Heap) (locs : List Loc) (ls : Array Slot), mo_A D dA b0 s.heap h0 h H locs → lv_has ls 6 [(0, .ref x0), (1, .int x1), (2, .ref x2), (3, .int x3)] → (F_X11_again_194 k163 x0 x1 x2 x3).1 h = some (z, h2) → W p l e R s m args below meth c H locs (h.2.1 - h0.2.1) (h.2.2 - h0.2.2) Q (F0 m 194 ls []) := by
    intro k163 hk163 x0 x1 x2 x3 h H locs ls A hl hF
    unfold F_X11_again_194 at hF
    refine lv_iinc (v := (x3 + (1 : Int32))) (lv' := [(3, .int (x3 + (1 : Int32))), (0, .ref x0), (1, .int x1), (2, .ref x2)]) hx hb dX11_again_194 hl (k := 3) rfl rfl (by decide) rfl (fun ls hl => ?_)
    refine lv_goto (tgt := 163) hx hb dX11_again_197 (by decide) ?_
    exact hk163 x0 x1 x2 (x3 + (1 : Int32)) h H locs ls A (lv_sub hl [1, 2, 3, 0] rfl) hF
  have J163 : ∀   (fu : Nat) (x0 : Nat) (x1 : Int32) (x2 : Nat) (x3 : Int32) (h : mo_H) (H : Heap) (locs : List Loc) (ls : Array Slot), mo_A D dA b0 s.heap h0 h H locs → lv_has ls 6 [(0, .ref x0), (1, .int x1), (2, .ref x2), (3, .int x3)] → (F_X11_again_163 fu x0 x1 x2 x3).1 h = some (z, h2) → W p l e R s m args below meth c H locs (h.2.1 - h0.2.1) (h.2.2 - h0.2.2) Q (F0 m 163 ls []) := by
    intro  fu
    induction fu with
    | zero =>
      intro x0 x1 x2 x3 h H locs ls A hl hF
      unfold F_X11_again_163 at hF
      cases hF
    | succ fu ih =>
      intro x0 x1 x2 x3 h H locs ls A hl hF
      unfold F_X11_again_163 at hF
      refine lv_iload_n hx hb dX11_again_163 rfl (lv_at hl 3 rfl) ?_
      refine lv_aload_n hx hb dX11_again_164 rfl (lv_at hl 0 rfl) ?_
      refine mo_wI C A (T := TX11) iX11 rfl 14 (by decide) tb_316 rfl dX11_again_165 hF (fun v33 hF => ?_)
      refine lv_icmp_ge (tgt := 200) hx hb dX11_again_168 (by decide) (fun c34 => ?_) (fun c34 => ?_)
      · have hF := mo_ifT c34 hF
        rw [hQ]
        exact mo_vret C A hr hlocks dX11_again_200 hF
      · have hF := mo_ifF c34 hF
        refine lv_aload_n hx hb dX11_again_171 rfl (lv_at hl 2 rfl) ?_
        refine lv_iload_n hx hb dX11_again_172 rfl (lv_at hl 3 rfl) ?_
        refine mo_wlz C A dX11_again_173 hF (fun v35 hF => ?_)
        refine lv_if_eq (tgt := 194) hx hb dX11_again_174 (by decide) (fun c36 => ?_) (fun c36 => ?_)
        · have hF := mo_ifT c36 hF
          exact J194 (F_X11_again_163  fu) ih x0 x1 x2 x3 h H locs ls A (lv_sub hl [0, 1, 2, 3] rfl) hF
        · have hF := mo_ifF c36 hF
          refine lv_aload_n hx hb dX11_again_177 rfl (lv_at hl 0 rfl) ?_
          refine lv_iload_n hx hb dX11_again_178 rfl (lv_at hl 1 rfl) ?_
          refine lv_aload_n hx hb dX11_again_179 rfl (lv_at hl 0 rfl) ?_
          refine mo_wR C A (T := TX11) iX11 rfl 15 (by decide) tb_132 rfl dX11_again_180 hF (fun v37 hF => ?_)
          refine lv_iload_n hx hb dX11_again_183 rfl (lv_at hl 3 rfl) ?_
          refine mo_wla C A dX11_again_184 hF (fun v38 hF => ?_)
          refine lv_aload_n hx hb dX11_again_185 rfl (lv_at hl 0 rfl) ?_
          refine mo_wR C A (T := TX11) iX11 rfl 18 (by decide) tb_135 rfl dX11_again_186 hF (fun v39 hF => ?_)
          refine lv_iload_n hx hb dX11_again_189 rfl (lv_at hl 3 rfl) ?_
          refine mo_wla C A dX11_again_190 hF (fun v40 hF => ?_)
          refine mo_cV (n := 3) (As := [.int x1, .int v38, .int v40]) (rest := []) C A hml hl.1 (c_X11_give l D dA b0 x0 x1 v38 v40) (ci := 11) (q := (RX11, TX11, 56)) rfl (fun _ e => (mo_ckE e).1) (tb_v tb_321 tb_322 tb_323 tb_5 tb_324) rfl (by decide +kernel) ⟨Nat.le_trans (by decide) hfr, Nat.le_trans (Nat.le_of_ble_eq_true rfl) hlo⟩ rfl (Nat.le_of_ble_eq_true rfl) rfl dX11_again_191 hF (fun v41 h H locs hF A => ?_)
          show W _ _ _ _ _ _ _ _ _ _ _ _ _ _ _ (F0 m 194 ls [])
          exact J194 (F_X11_again_163  fu) ih x0 x1 x2 x3 h H locs ls A (lv_sub hl [0, 1, 2, 3] rfl) hF
  have J7 : ∀   (fu : Nat) (x0 : Nat) (x1 : Int32) (x2 : Nat) (x3 : Int32) (h : mo_H) (H : Heap) (locs : List Loc) (ls : Array Slot), mo_A D dA b0 s.heap h0 h H locs → lv_has ls 6 [(0, .ref x0), (1, .int x1), (2, .ref x2), (3, .int x3)] → (F_X11_again_7 fu x0 x1 x2 x3).1 h = some (z, h2) → W p l e R s m args below meth c H locs (h.2.1 - h0.2.1) (h.2.2 - h0.2.2) Q (F0 m 7 ls []) := by
    intro  fu
    induction fu with
    | zero =>
      intro x0 x1 x2 x3 h H locs ls A hl hF
      unfold F_X11_again_7 at hF
      cases hF
    | succ fu ih =>
      intro x0 x1 x2 x3 h H locs ls A hl hF
      unfold F_X11_again_7 at hF
      refine lv_aload_n hx hb dX11_again_7 rfl (lv_at hl 0 rfl) ?_
      refine mo_wR C A (T := TX11) iX11 rfl 45 (by decide) tb_163 rfl dX11_again_8 hF (fun v42 hF => ?_)
      refine lv_iload_n hx hb dX11_again_11 rfl (lv_at hl 1 rfl) ?_
      refine mo_wla C A dX11_again_12 hF (fun v43 hF => ?_)
      refine lv_aload_n hx hb dX11_again_13 rfl (lv_at hl 0 rfl) ?_
      refine mo_wR C A (T := TX11) iX11 rfl 45 (by decide) tb_163 rfl dX11_again_14 hF (fun v44 hF => ?_)
      refine lv_iconst (v := (0 : Int32)) hx hb dX11_again_17 (by decide) ?_
      refine mo_wla C A dX11_again_18 hF (fun v45 hF => ?_)
      refine lv_icmp_ge (tgt := 163) hx hb dX11_again_19 (by decide) (fun c46 => ?_) (fun c46 => ?_)
      · have hF := mo_ifT c46 hF
        exact J163 mo_fu x0 x1 x2 x3 h H locs ls A (lv_sub hl [0, 1, 2, 3] rfl) hF
      · have hF := mo_ifF c46 hF
        exact J22 (F_X11_again_7  fu) ih mo_fu x0 x1 x2 x3 h H locs ls A (lv_sub hl [0, 1, 2, 3] rfl) hF
  unfold F_X11_again at hF
  obtain ⟨-, hF⟩ := mo_ckE hF
  have E : ∀ (h : mo_H) (H : Heap) (locs : List Loc), (mo_b (F_X11_reset x0 x1) fun v47 => F_X11_again_7 mo_fu x0 x1 x2 (0 : Int32)).1 h = some (z, h2) → mo_A D dA b0 s.heap h0 h H locs → W p l e R s m args below meth c H locs (h.2.1 - h0.2.1) (h.2.2 - h0.2.2) Q (F0 m 0 ls []) := by
    intro h H locs hF A
    refine lv_aload_n hx hb dX11_again_0 rfl (lv_at hl 0 rfl) ?_
    refine lv_iload_n hx hb dX11_again_1 rfl (lv_at hl 1 rfl) ?_
    refine mo_cV (n := 1) (As := [.int x1]) (rest := []) C A hml hl.1 (c_X11_reset l D dA b0 x0 x1) (ci := 11) (q := (RX11, TX11, 56)) rfl (fun _ e => (mo_ckE e).1) (tb_v tb_295 tb_296 tb_297 tb_5 tb_298) rfl (by decide +kernel) ⟨Nat.le_trans (by decide) hfr, Nat.le_trans (Nat.le_of_ble_eq_true rfl) hlo⟩ rfl (Nat.le_of_ble_eq_true rfl) rfl dX11_again_2 hF (fun v47 h H locs hF A => ?_)
    show W _ _ _ _ _ _ _ _ _ _ _ _ _ _ _ (F0 m 5 ls [])
    refine lv_iconst (v := (0 : Int32)) hx hb dX11_again_5 (by decide) ?_
    refine lv_istore_n (lv' := [(3, .int (0 : Int32)), (0, .ref x0), (1, .int x1), (2, .ref x2)]) hx hb dX11_again_6 rfl hl (by decide) rfl (fun ls hl => ?_)
    exact J7 mo_fu x0 x1 x2 (0 : Int32) h H locs ls A (lv_sub hl [1, 2, 3, 0] rfl) hF
  exact E h0 s.heap [] hF A
set_option maxHeartbeats 4000000 in
set_option maxRecDepth 100000 in
theorem c_X11_purge (l : Launch) (D : va_G) (dA : Nat → ClassId) (b0 : Nat) (x0 : Nat) (x1 : Int32) : mo_Met l yX11_purge [Cond.code yX11_purge cX11_purge 3 (some .int)] 6 163 D dA b0 [.ref x0, .int x1] (fun r : Int32 => some (.int r)) (F_X11_purge x0 x1) := by
  refine mo_MetOf (own := RX11) (by decide) (Nat.le_of_ble_eq_true rfl) [(0, .ref x0), (1, .int x1)] rfl rfl ?_
  intro p e R s m args below meth c Q h0 h2 z ls hQ C hml hr hlocks hnm hfr hlo hF A hl
  have hx := C.1
  have hb := C.2.1
  have hown := C.2.2.1
  have hts := C.2.2.2.1
  have hK := C.2.2.2.2.1
  have iX11 := inlX11
  unfold F_X11_purge at hF
  obtain ⟨-, hF⟩ := mo_ckE hF
  have E : ∀ (h : mo_H) (H : Heap) (locs : List Loc), (mo_b (mo_gI x0 11 13) fun v1 => (if v1 = 0 then mo_ret (-1 : Int32) else mo_b (F_X11_isDomain x0 x1) fun v3 => (if v3 = 0 then mo_ret (-1 : Int32) else mo_b (mo_gR x0 11 52) fun v5 => mo_b (F_X11_choose x0 x1 v5) fun v6 => mo_b (mo_gR x0 11 52) fun v7 => mo_b (F_X11_again x0 (1 : Int32) v7) fun v8 => mo_b (mo_gI x0 11 14) fun v9 => mo_b (mo_pV x0 11 54 (.int v9)) fun _ => mo_ret v6))).1 h = some (z, h2) → mo_A D dA b0 s.heap h0 h H locs → W p l e R s m args below meth c H locs (h.2.1 - h0.2.1) (h.2.2 - h0.2.2) Q (F0 m 0 ls []) := by
    intro h H locs hF A
    refine lv_aload_n hx hb dX11_purge_0 rfl (lv_at hl 0 rfl) ?_
    refine mo_wI C A (T := TX11) iX11 rfl 13 (by decide) tb_196 rfl dX11_purge_1 hF (fun v1 hF => ?_)
    refine lv_if_eq (tgt := 15) hx hb dX11_purge_4 (by decide) (fun c2 => ?_) (fun c2 => ?_)
    · have hF := mo_ifT c2 hF
      refine lv_iconst (v := (-1 : Int32)) hx hb dX11_purge_15 (by decide) ?_
      rw [hQ]
      exact mo_iret C A hr hlocks dX11_purge_16 hF
    · have hF := mo_ifF c2 hF
      refine lv_aload_n hx hb dX11_purge_7 rfl (lv_at hl 0 rfl) ?_
      refine lv_iload_n hx hb dX11_purge_8 rfl (lv_at hl 1 rfl) ?_
      refine mo_cV (n := 1) (As := [.int x1]) (rest := []) C A hml hl.1 (c_X11_isDomain l D dA b0 x0 x1) (ci := 11) (q := (RX11, TX11, 56)) rfl (fun _ e => (mo_ckE e).1) (tb_v tb_198 tb_199 tb_200 tb_5 tb_201) rfl (by decide +kernel) ⟨Nat.le_trans (by decide) hfr, Nat.le_trans (Nat.le_of_ble_eq_true rfl) hlo⟩ rfl (Nat.le_of_ble_eq_true rfl) rfl dX11_purge_9 hF (fun v3 h H locs hF A => ?_)
      show W _ _ _ _ _ _ _ _ _ _ _ _ _ _ _ (F0 m 12 ls [.int v3])
      refine lv_if_ne (tgt := 17) hx hb dX11_purge_12 (by decide) (fun c4 => ?_) (fun c4 => ?_)
      · have hF := mo_ifF c4 hF
        refine lv_aload_n hx hb dX11_purge_17 rfl (lv_at hl 0 rfl) ?_
        refine lv_iload_n hx hb dX11_purge_18 rfl (lv_at hl 1 rfl) ?_
        refine lv_aload_n hx hb dX11_purge_19 rfl (lv_at hl 0 rfl) ?_
        refine mo_wR C A (T := TX11) iX11 rfl 52 (by decide) tb_170 rfl dX11_purge_20 hF (fun v5 hF => ?_)
        refine mo_cV (n := 2) (As := [.int x1, .ref v5]) (rest := []) C A hml hl.1 (c_X11_choose l D dA b0 x0 x1 v5) (ci := 11) (q := (RX11, TX11, 56)) rfl (fun _ e => (mo_ckE e).1) (tb_v tb_718 tb_719 tb_720 tb_5 tb_721) rfl (by decide +kernel) ⟨Nat.le_trans (by decide) hfr, Nat.le_trans (Nat.le_of_ble_eq_true rfl) hlo⟩ rfl (Nat.le_of_ble_eq_true rfl) rfl dX11_purge_23 hF (fun v6 h H locs hF A => ?_)
        show W _ _ _ _ _ _ _ _ _ _ _ _ _ _ _ (F0 m 26 ls [.int v6])
        refine lv_istore_n (lv' := [(2, .int v6), (0, .ref x0), (1, .int x1)]) hx hb dX11_purge_26 rfl hl (by decide) rfl (fun ls hl => ?_)
        refine lv_aload_n hx hb dX11_purge_27 rfl (lv_at hl 1 rfl) ?_
        refine lv_iconst (v := (1 : Int32)) hx hb dX11_purge_28 (by decide) ?_
        refine lv_aload_n hx hb dX11_purge_29 rfl (lv_at hl 1 rfl) ?_
        refine mo_wR C A (T := TX11) iX11 rfl 52 (by decide) tb_170 rfl dX11_purge_30 hF (fun v7 hF => ?_)
        refine mo_cV (n := 2) (As := [.int (1 : Int32), .ref v7]) (rest := []) C A hml hl.1 (c_X11_again l D dA b0 x0 (1 : Int32) v7) (ci := 11) (q := (RX11, TX11, 56)) rfl (fun _ e => (mo_ckE e).1) (tb_v tb_722 tb_723 tb_724 tb_5 tb_725) rfl (by decide +kernel) ⟨Nat.le_trans (by decide) hfr, Nat.le_trans (Nat.le_of_ble_eq_true rfl) hlo⟩ rfl (Nat.le_of_ble_eq_true rfl) rfl dX11_purge_33 hF (fun v8 h H locs hF A => ?_)
        show W _ _ _ _ _ _ _ _ _ _ _ _ _ _ _ (F0 m 36 ls [])
        refine lv_aload_n hx hb dX11_purge_36 rfl (lv_at hl 1 rfl) ?_
        refine lv_aload_n hx hb dX11_purge_37 rfl (lv_at hl 1 rfl) ?_
        refine mo_wI C A (T := TX11) iX11 rfl 14 (by decide) tb_316 rfl dX11_purge_38 hF (fun v9 hF => ?_)
        refine mo_wpV C A (T := TX11) iX11 tyX11 tyX11_ok nmX11 rfl 54 (by decide) tb_174 rfl rfl rfl rfl dX11_purge_41 hF (fun h H locs hF A => ?_)
        refine lv_iload_n hx hb dX11_purge_44 rfl (lv_at hl 0 rfl) ?_
        rw [hQ]
        exact mo_iret C A hr hlocks dX11_purge_45 hF
      · have hF := mo_ifT c4 hF
        refine lv_iconst (v := (-1 : Int32)) hx hb dX11_purge_15 (by decide) ?_
        rw [hQ]
        exact mo_iret C A hr hlocks dX11_purge_16 hF
  exact E h0 s.heap [] hF A
set_option maxHeartbeats 4000000 in
set_option maxRecDepth 100000 in
theorem c_X11_kept (l : Launch) (D : va_G) (dA : Nat → ClassId) (b0 : Nat) (x0 : Nat) (x1 : Int32) : mo_Met l yX11_kept [Cond.code yX11_kept cX11_kept 2 (some .int)] 0 0 D dA b0 [.ref x0, .int x1] (fun r : Int32 => some (.int r)) (F_X11_kept x0 x1) := by
  refine mo_MetOf (own := RX11) (by decide) (Nat.le_of_ble_eq_true rfl) [(0, .ref x0), (1, .int x1)] rfl rfl ?_
  intro p e R s m args below meth c Q h0 h2 z ls hQ C hml hr hlocks hnm hfr hlo hF A hl
  have hx := C.1
  have hb := C.2.1
  have hown := C.2.2.1
  have hts := C.2.2.2.1
  have hK := C.2.2.2.2.1
  have iX11 := inlX11
  have J12 : ∀    (h : mo_H) (H : Heap) (locs : List Loc) (ls : Array Slot), mo_A D dA b0 s.heap h0 h H locs → lv_has ls 2 [] → (F_X11_kept_12).1 h = some (z, h2) → W p l e R s m args below meth c H locs (h.2.1 - h0.2.1) (h.2.2 - h0.2.2) Q (F0 m 12 ls []) := by
    intro   h H locs ls A hl hF
    unfold F_X11_kept_12 at hF
    refine lv_iconst (v := (-1 : Int32)) hx hb dX11_kept_12 (by decide) ?_
    refine lv_goto (tgt := 30) hx hb dX11_kept_13 (by decide) ?_
    rw [hQ]
    exact mo_iret C A hr hlocks dX11_kept_30 hF
  unfold F_X11_kept at hF
  obtain ⟨-, hF⟩ := mo_ckE hF
  have E : ∀ (h : mo_H) (H : Heap) (locs : List Loc), ((if x1 < 0 then F_X11_kept_12 else mo_b (mo_gI x0 11 54) fun v2 => (if x1 < v2 then mo_b (mo_gR x0 11 52) fun v4 => mo_b (mo_la 1 v4 x1) fun v5 => (if v5 = 0 then mo_ret (0 : Int32) else mo_ret (1 : Int32)) else F_X11_kept_12))).1 h = some (z, h2) → mo_A D dA b0 s.heap h0 h H locs → W p l e R s m args below meth c H locs (h.2.1 - h0.2.1) (h.2.2 - h0.2.2) Q (F0 m 0 ls []) := by
    intro h H locs hF A
    refine lv_iload_n hx hb dX11_kept_0 rfl (lv_at hl 1 rfl) ?_
    refine lv_if_lt (tgt := 12) hx hb dX11_kept_1 (by decide) (fun c1 => ?_) (fun c1 => ?_)
    · have hF := mo_ifT c1 hF
      exact J12 h H locs ls A (lv_sub hl [] rfl) hF
    · have hF := mo_ifF c1 hF
      refine lv_iload_n hx hb dX11_kept_4 rfl (lv_at hl 1 rfl) ?_
      refine lv_aload_n hx hb dX11_kept_5 rfl (lv_at hl 0 rfl) ?_
      refine mo_wI C A (T := TX11) iX11 rfl 54 (by decide) tb_174 rfl dX11_kept_6 hF (fun v2 hF => ?_)
      refine lv_icmp_lt (tgt := 16) hx hb dX11_kept_9 (by decide) (fun c3 => ?_) (fun c3 => ?_)
      · have hF := mo_ifT c3 hF
        refine lv_aload_n hx hb dX11_kept_16 rfl (lv_at hl 0 rfl) ?_
        refine mo_wR C A (T := TX11) iX11 rfl 52 (by decide) tb_170 rfl dX11_kept_17 hF (fun v4 hF => ?_)
        refine lv_iload_n hx hb dX11_kept_20 rfl (lv_at hl 1 rfl) ?_
        refine mo_wlz C A dX11_kept_21 hF (fun v5 hF => ?_)
        refine lv_if_eq (tgt := 29) hx hb dX11_kept_22 (by decide) (fun c6 => ?_) (fun c6 => ?_)
        · have hF := mo_ifT c6 hF
          refine lv_iconst (v := (0 : Int32)) hx hb dX11_kept_29 (by decide) ?_
          rw [hQ]
          exact mo_iret C A hr hlocks dX11_kept_30 hF
        · have hF := mo_ifF c6 hF
          refine lv_iconst (v := (1 : Int32)) hx hb dX11_kept_25 (by decide) ?_
          refine lv_goto (tgt := 30) hx hb dX11_kept_26 (by decide) ?_
          rw [hQ]
          exact mo_iret C A hr hlocks dX11_kept_30 hF
      · have hF := mo_ifF c3 hF
        exact J12 h H locs ls A (lv_sub hl [] rfl) hF
  exact E h0 s.heap [] hF A
set_option maxHeartbeats 4000000 in
set_option maxRecDepth 100000 in
theorem c_X11_purged (l : Launch) (D : va_G) (dA : Nat → ClassId) (b0 : Nat) (x0 : Nat) (x1 : Int32) (x2 : Int32) (x3 : Int32) : mo_Met l yX11_purged [Cond.code yX11_purged cX11_purged 5 (some .int)] 1 21 D dA b0 [.ref x0, .int x1, .int x2, .int x3] (fun r : Int32 => some (.int r)) (F_X11_purged x0 x1 x2 x3) := by
  refine mo_MetOf (own := RX11) (by decide) (Nat.le_of_ble_eq_true rfl) [(0, .ref x0), (1, .int x1), (2, .int x2), (3, .int x3)] rfl rfl ?_
  intro p e R s m args below meth c Q h0 h2 z ls hQ C hml hr hlocks hnm hfr hlo hF A hl
  have hx := C.1
  have hb := C.2.1
  have hown := C.2.2.1
  have hts := C.2.2.2.1
  have hK := C.2.2.2.2.1
  have iX11 := inlX11
  unfold F_X11_purged at hF
  obtain ⟨-, hF⟩ := mo_ckE hF
  have E : ∀ (h : mo_H) (H : Heap) (locs : List Loc), (mo_b (mo_gI x0 11 54) fun v1 => (if v1 < 0 then mo_ret (0 : Int32) else mo_b (F_X11_isDomain x0 x1) fun v3 => (if v3 = 0 then mo_ret (0 : Int32) else (if x2 = (0 : Int32) then (if x3 < 0 then mo_ret (0 : Int32) else (if (8 : Int32) ≤ x3 then mo_ret (0 : Int32) else mo_b (mo_gR x0 11 19) fun v8 => mo_b (mo_la 0 v8 (((8 : Int32) * ((6 : Int32) + x1)) + x3)) fun v9 => mo_ret v9)) else (if x2 = (1 : Int32) then (if x3 < 0 then mo_ret (0 : Int32) else (if (32 : Int32) ≤ x3 then mo_ret (0 : Int32) else mo_b (mo_gR x0 11 20) fun v13 => mo_b (mo_la 0 v13 (((32 : Int32) * ((6 : Int32) + x1)) + x3)) fun v14 => mo_ret v14)) else (if x2 = (2 : Int32) then (if x3 < 0 then mo_ret (0 : Int32) else mo_b (mo_gR x0 11 26) fun v17 => mo_b (mo_la 0 v17 ((6 : Int32) + x1)) fun v18 => (if v18 ≤ x3 then mo_ret (0 : Int32) else mo_b (mo_gR x0 11 25) fun v20 => mo_b (mo_la 0 v20 (((200 : Int32) * ((6 : Int32) + x1)) + x3)) fun v21 => mo_ret v21)) else (if x2 = (3 : Int32) then mo_b (mo_gR x0 11 21) fun v23 => mo_b (mo_la 0 v23 ((6 : Int32) + x1)) fun v24 => mo_ret v24 else (if x2 = (4 : Int32) then mo_b (mo_gR x0 11 22) fun v26 => mo_b (mo_la 0 v26 ((6 : Int32) + x1)) fun v27 => mo_ret v27 else (if x2 = (5 : Int32) then mo_b (mo_gR x0 11 26) fun v29 => mo_b (mo_la 0 v29 ((6 : Int32) + x1)) fun v30 => mo_ret v30 else (if x2 = (6 : Int32) then mo_b (mo_gR x0 11 27) fun v32 => mo_b (mo_la 0 v32 ((6 : Int32) + x1)) fun v33 => mo_ret v33 else (if x2 = (7 : Int32) then mo_b (mo_gR x0 11 28) fun v35 => mo_b (mo_la 0 v35 ((6 : Int32) + x1)) fun v36 => mo_ret v36 else mo_ret (0 : Int32)))))))))))).1 h = some (z, h2) → mo_A D dA b0 s.heap h0 h H locs → W p l e R s m args below meth c H locs (h.2.1 - h0.2.1) (h.2.2 - h0.2.2) Q (F0 m 0 ls []) := by
    intro h H locs hF A
    refine lv_aload_n hx hb dX11_purged_0 rfl (lv_at hl 0 rfl) ?_
    refine mo_wI C A (T := TX11) iX11 rfl 54 (by decide) tb_174 rfl dX11_purged_1 hF (fun v1 hF => ?_)
    refine lv_if_lt (tgt := 15) hx hb dX11_purged_4 (by decide) (fun c2 => ?_) (fun c2 => ?_)
    · have hF := mo_ifT c2 hF
      refine lv_iconst (v := (0 : Int32)) hx hb dX11_purged_15 (by decide) ?_
      rw [hQ]
      exact mo_iret C A hr hlocks dX11_purged_16 hF
    · have hF := mo_ifF c2 hF
      refine lv_aload_n hx hb dX11_purged_7 rfl (lv_at hl 0 rfl) ?_
      refine lv_iload_n hx hb dX11_purged_8 rfl (lv_at hl 1 rfl) ?_
      refine mo_cV (n := 1) (As := [.int x1]) (rest := []) C A hml hl.1 (c_X11_isDomain l D dA b0 x0 x1) (ci := 11) (q := (RX11, TX11, 56)) rfl (fun _ e => (mo_ckE e).1) (tb_v tb_198 tb_199 tb_200 tb_5 tb_201) rfl (by decide +kernel) ⟨Nat.le_trans (by decide) hfr, Nat.le_trans (Nat.le_of_ble_eq_true rfl) hlo⟩ rfl (Nat.le_of_ble_eq_true rfl) rfl dX11_purged_9 hF (fun v3 h H locs hF A => ?_)
      show W _ _ _ _ _ _ _ _ _ _ _ _ _ _ _ (F0 m 12 ls [.int v3])
      refine lv_if_ne (tgt := 17) hx hb dX11_purged_12 (by decide) (fun c4 => ?_) (fun c4 => ?_)
      · have hF := mo_ifF c4 hF
        refine lv_bipush (v := (6 : Int32)) hx hb dX11_purged_17 (by decide) ?_
        refine lv_iload_n hx hb dX11_purged_19 rfl (lv_at hl 1 rfl) ?_
        refine lv_iadd hx hb dX11_purged_20 ?_
        refine lv_istore (lv' := [(4, .int ((6 : Int32) + x1)), (0, .ref x0), (1, .int x1), (2, .int x2), (3, .int x3)]) hx hb dX11_purged_21 hl (by decide) rfl (fun ls hl => ?_)
        refine lv_iload_n hx hb dX11_purged_23 rfl (lv_at hl 3 rfl) ?_
        by_cases c5 : x2 = (0 : Int32)
        · have hF := mo_ifT c5 hF
          refine mo_tsI hx hb (0 : Int32) (tgt := 72) (off := 48) dX11_purged_24 c5 (by decide) (by decide) rfl (by decide) ?_
          refine lv_iload_n hx hb dX11_purged_72 rfl (lv_at hl 4 rfl) ?_
          refine lv_if_lt (tgt := 97) hx hb dX11_purged_73 (by decide) (fun c6 => ?_) (fun c6 => ?_)
          · have hF := mo_ifT c6 hF
            refine lv_iconst (v := (0 : Int32)) hx hb dX11_purged_97 (by decide) ?_
            rw [hQ]
            exact mo_iret C A hr hlocks dX11_purged_98 hF
          · have hF := mo_ifF c6 hF
            refine lv_iload_n hx hb dX11_purged_76 rfl (lv_at hl 4 rfl) ?_
            refine lv_bipush (v := (8 : Int32)) hx hb dX11_purged_77 (by decide) ?_
            refine lv_icmp_ge (tgt := 97) hx hb dX11_purged_79 (by decide) (fun c7 => ?_) (fun c7 => ?_)
            · have hF := mo_ifT c7 hF
              refine lv_iconst (v := (0 : Int32)) hx hb dX11_purged_97 (by decide) ?_
              rw [hQ]
              exact mo_iret C A hr hlocks dX11_purged_98 hF
            · have hF := mo_ifF c7 hF
              refine lv_aload_n hx hb dX11_purged_82 rfl (lv_at hl 1 rfl) ?_
              refine mo_wR C A (T := TX11) iX11 rfl 19 (by decide) tb_136 rfl dX11_purged_83 hF (fun v8 hF => ?_)
              refine lv_bipush (v := (8 : Int32)) hx hb dX11_purged_86 (by decide) ?_
              refine lv_iload hx hb dX11_purged_88 (lv_at hl 0 rfl) ?_
              refine lv_imul hx hb dX11_purged_90 ?_
              refine lv_iload_n hx hb dX11_purged_91 rfl (lv_at hl 4 rfl) ?_
              refine lv_iadd hx hb dX11_purged_92 ?_
              refine mo_wla C A dX11_purged_93 hF (fun v9 hF => ?_)
              refine lv_goto (tgt := 98) hx hb dX11_purged_94 (by decide) ?_
              rw [hQ]
              exact mo_iret C A hr hlocks dX11_purged_98 hF
        have hF := mo_ifF c5 hF
        by_cases c10 : x2 = (1 : Int32)
        · have hF := mo_ifT c10 hF
          refine mo_tsI hx hb (1 : Int32) (tgt := 99) (off := 75) dX11_purged_24 c10 (by decide) (by decide) rfl (by decide) ?_
          refine lv_iload_n hx hb dX11_purged_99 rfl (lv_at hl 4 rfl) ?_
          refine lv_if_lt (tgt := 124) hx hb dX11_purged_100 (by decide) (fun c11 => ?_) (fun c11 => ?_)
          · have hF := mo_ifT c11 hF
            refine lv_iconst (v := (0 : Int32)) hx hb dX11_purged_124 (by decide) ?_
            rw [hQ]
            exact mo_iret C A hr hlocks dX11_purged_125 hF
          · have hF := mo_ifF c11 hF
            refine lv_iload_n hx hb dX11_purged_103 rfl (lv_at hl 4 rfl) ?_
            refine lv_bipush (v := (32 : Int32)) hx hb dX11_purged_104 (by decide) ?_
            refine lv_icmp_ge (tgt := 124) hx hb dX11_purged_106 (by decide) (fun c12 => ?_) (fun c12 => ?_)
            · have hF := mo_ifT c12 hF
              refine lv_iconst (v := (0 : Int32)) hx hb dX11_purged_124 (by decide) ?_
              rw [hQ]
              exact mo_iret C A hr hlocks dX11_purged_125 hF
            · have hF := mo_ifF c12 hF
              refine lv_aload_n hx hb dX11_purged_109 rfl (lv_at hl 1 rfl) ?_
              refine mo_wR C A (T := TX11) iX11 rfl 20 (by decide) tb_137 rfl dX11_purged_110 hF (fun v13 hF => ?_)
              refine lv_bipush (v := (32 : Int32)) hx hb dX11_purged_113 (by decide) ?_
              refine lv_iload hx hb dX11_purged_115 (lv_at hl 0 rfl) ?_
              refine lv_imul hx hb dX11_purged_117 ?_
              refine lv_iload_n hx hb dX11_purged_118 rfl (lv_at hl 4 rfl) ?_
              refine lv_iadd hx hb dX11_purged_119 ?_
              refine mo_wla C A dX11_purged_120 hF (fun v14 hF => ?_)
              refine lv_goto (tgt := 125) hx hb dX11_purged_121 (by decide) ?_
              rw [hQ]
              exact mo_iret C A hr hlocks dX11_purged_125 hF
        have hF := mo_ifF c10 hF
        by_cases c15 : x2 = (2 : Int32)
        · have hF := mo_ifT c15 hF
          refine mo_tsI hx hb (2 : Int32) (tgt := 126) (off := 102) dX11_purged_24 c15 (by decide) (by decide) rfl (by decide) ?_
          refine lv_iload_n hx hb dX11_purged_126 rfl (lv_at hl 4 rfl) ?_
          refine lv_if_lt (tgt := 157) hx hb dX11_purged_127 (by decide) (fun c16 => ?_) (fun c16 => ?_)
          · have hF := mo_ifT c16 hF
            refine lv_iconst (v := (0 : Int32)) hx hb dX11_purged_157 (by decide) ?_
            rw [hQ]
            exact mo_iret C A hr hlocks dX11_purged_158 hF
          · have hF := mo_ifF c16 hF
            refine lv_iload_n hx hb dX11_purged_130 rfl (lv_at hl 4 rfl) ?_
            refine lv_aload_n hx hb dX11_purged_131 rfl (lv_at hl 1 rfl) ?_
            refine mo_wR C A (T := TX11) iX11 rfl 26 (by decide) tb_143 rfl dX11_purged_132 hF (fun v17 hF => ?_)
            refine lv_iload hx hb dX11_purged_135 (lv_at hl 0 rfl) ?_
            refine mo_wla C A dX11_purged_137 hF (fun v18 hF => ?_)
            refine lv_icmp_ge (tgt := 157) hx hb dX11_purged_138 (by decide) (fun c19 => ?_) (fun c19 => ?_)
            · have hF := mo_ifT c19 hF
              refine lv_iconst (v := (0 : Int32)) hx hb dX11_purged_157 (by decide) ?_
              rw [hQ]
              exact mo_iret C A hr hlocks dX11_purged_158 hF
            · have hF := mo_ifF c19 hF
              refine lv_aload_n hx hb dX11_purged_141 rfl (lv_at hl 1 rfl) ?_
              refine mo_wR C A (T := TX11) iX11 rfl 25 (by decide) tb_142 rfl dX11_purged_142 hF (fun v20 hF => ?_)
              refine lv_sipush (v := (200 : Int32)) hx hb dX11_purged_145 (by decide) ?_
              refine lv_iload hx hb dX11_purged_148 (lv_at hl 0 rfl) ?_
              refine lv_imul hx hb dX11_purged_150 ?_
              refine lv_iload_n hx hb dX11_purged_151 rfl (lv_at hl 4 rfl) ?_
              refine lv_iadd hx hb dX11_purged_152 ?_
              refine mo_wla C A dX11_purged_153 hF (fun v21 hF => ?_)
              refine lv_goto (tgt := 158) hx hb dX11_purged_154 (by decide) ?_
              rw [hQ]
              exact mo_iret C A hr hlocks dX11_purged_158 hF
        have hF := mo_ifF c15 hF
        by_cases c22 : x2 = (3 : Int32)
        · have hF := mo_ifT c22 hF
          refine mo_tsI hx hb (3 : Int32) (tgt := 159) (off := 135) dX11_purged_24 c22 (by decide) (by decide) rfl (by decide) ?_
          refine lv_aload_n hx hb dX11_purged_159 rfl (lv_at hl 1 rfl) ?_
          refine mo_wR C A (T := TX11) iX11 rfl 21 (by decide) tb_138 rfl dX11_purged_160 hF (fun v23 hF => ?_)
          refine lv_iload hx hb dX11_purged_163 (lv_at hl 0 rfl) ?_
          refine mo_wla C A dX11_purged_165 hF (fun v24 hF => ?_)
          rw [hQ]
          exact mo_iret C A hr hlocks dX11_purged_166 hF
        have hF := mo_ifF c22 hF
        by_cases c25 : x2 = (4 : Int32)
        · have hF := mo_ifT c25 hF
          refine mo_tsI hx hb (4 : Int32) (tgt := 167) (off := 143) dX11_purged_24 c25 (by decide) (by decide) rfl (by decide) ?_
          refine lv_aload_n hx hb dX11_purged_167 rfl (lv_at hl 1 rfl) ?_
          refine mo_wR C A (T := TX11) iX11 rfl 22 (by decide) tb_139 rfl dX11_purged_168 hF (fun v26 hF => ?_)
          refine lv_iload hx hb dX11_purged_171 (lv_at hl 0 rfl) ?_
          refine mo_wla C A dX11_purged_173 hF (fun v27 hF => ?_)
          rw [hQ]
          exact mo_iret C A hr hlocks dX11_purged_174 hF
        have hF := mo_ifF c25 hF
        by_cases c28 : x2 = (5 : Int32)
        · have hF := mo_ifT c28 hF
          refine mo_tsI hx hb (5 : Int32) (tgt := 175) (off := 151) dX11_purged_24 c28 (by decide) (by decide) rfl (by decide) ?_
          refine lv_aload_n hx hb dX11_purged_175 rfl (lv_at hl 1 rfl) ?_
          refine mo_wR C A (T := TX11) iX11 rfl 26 (by decide) tb_143 rfl dX11_purged_176 hF (fun v29 hF => ?_)
          refine lv_iload hx hb dX11_purged_179 (lv_at hl 0 rfl) ?_
          refine mo_wla C A dX11_purged_181 hF (fun v30 hF => ?_)
          rw [hQ]
          exact mo_iret C A hr hlocks dX11_purged_182 hF
        have hF := mo_ifF c28 hF
        by_cases c31 : x2 = (6 : Int32)
        · have hF := mo_ifT c31 hF
          refine mo_tsI hx hb (6 : Int32) (tgt := 183) (off := 159) dX11_purged_24 c31 (by decide) (by decide) rfl (by decide) ?_
          refine lv_aload_n hx hb dX11_purged_183 rfl (lv_at hl 1 rfl) ?_
          refine mo_wR C A (T := TX11) iX11 rfl 27 (by decide) tb_144 rfl dX11_purged_184 hF (fun v32 hF => ?_)
          refine lv_iload hx hb dX11_purged_187 (lv_at hl 0 rfl) ?_
          refine mo_wla C A dX11_purged_189 hF (fun v33 hF => ?_)
          rw [hQ]
          exact mo_iret C A hr hlocks dX11_purged_190 hF
        have hF := mo_ifF c31 hF
        by_cases c34 : x2 = (7 : Int32)
        · have hF := mo_ifT c34 hF
          refine mo_tsI hx hb (7 : Int32) (tgt := 191) (off := 167) dX11_purged_24 c34 (by decide) (by decide) rfl (by decide) ?_
          refine lv_aload_n hx hb dX11_purged_191 rfl (lv_at hl 1 rfl) ?_
          refine mo_wR C A (T := TX11) iX11 rfl 28 (by decide) tb_145 rfl dX11_purged_192 hF (fun v35 hF => ?_)
          refine lv_iload hx hb dX11_purged_195 (lv_at hl 0 rfl) ?_
          refine mo_wla C A dX11_purged_197 hF (fun v36 hF => ?_)
          rw [hQ]
          exact mo_iret C A hr hlocks dX11_purged_198 hF
        have hF := mo_ifF c34 hF
        refine mo_tsD hx hb [(0 : Int32), (1 : Int32), (2 : Int32), (3 : Int32), (4 : Int32), (5 : Int32), (6 : Int32), (7 : Int32)] (tgt := 199) dX11_purged_24 (List.forall_mem_cons.mpr ⟨c5, (List.forall_mem_cons.mpr ⟨c10, (List.forall_mem_cons.mpr ⟨c15, (List.forall_mem_cons.mpr ⟨c22, (List.forall_mem_cons.mpr ⟨c25, (List.forall_mem_cons.mpr ⟨c28, (List.forall_mem_cons.mpr ⟨c31, (List.forall_mem_cons.mpr ⟨c34, (fun _ h => absurd h List.not_mem_nil)⟩)⟩)⟩)⟩)⟩)⟩)⟩)⟩) (by decide) (by decide) (by decide) ?_
        refine lv_iconst (v := (0 : Int32)) hx hb dX11_purged_199 (by decide) ?_
        rw [hQ]
        exact mo_iret C A hr hlocks dX11_purged_200 hF
      · have hF := mo_ifT c4 hF
        refine lv_iconst (v := (0 : Int32)) hx hb dX11_purged_15 (by decide) ?_
        rw [hQ]
        exact mo_iret C A hr hlocks dX11_purged_16 hF
  exact E h0 s.heap [] hF A
set_option maxHeartbeats 4000000 in
set_option maxRecDepth 100000 in
theorem c_X11_areAlike (l : Launch) (D : va_G) (dA : Nat → ClassId) (b0 : Nat) (x0 : Nat) (x1 : Int32) (x2 : Int32) (x3 : Int32) : mo_Met l yX11_areAlike [Cond.code yX11_areAlike cX11_areAlike 9 (some .boolean)] 0 0 D dA b0 [.ref x0, .int x1, .int x2, .int x3] (fun r : Int32 => some (.int r)) (F_X11_areAlike x0 x1 x2 x3) := by
  refine mo_MetOf (own := RX11) (by decide) (Nat.le_of_ble_eq_true rfl) [(0, .ref x0), (1, .int x1), (2, .int x2), (3, .int x3)] rfl rfl ?_
  intro p e R s m args below meth c Q h0 h2 z ls hQ C hml hr hlocks hnm hfr hlo hF A hl
  have hx := C.1
  have hb := C.2.1
  have hown := C.2.2.1
  have hts := C.2.2.2.1
  have hK := C.2.2.2.2.1
  have iX11 := inlX11
  have J99 : ∀ (k12 : Nat → Int32 → Int32 → Int32 → Int32 → Int32 → mo_M Int32) (k50 : Nat → Int32 → Int32 → Int32 → Int32 → Int32 → Int32 → mo_M Int32) (hk12 : ∀ (x0 : Nat) (x3 : Int32) (x4 : Int32) (x5 : Int32) (x6 : Int32) (x7 : Int32) (h : mo_H) (H : Heap) (locs : List Loc) (ls : Array Slot), mo_A D dA b0 s.heap h0 h H locs → lv_has ls 9 [(0, .ref x0), (3, .int x3), (4, .int x4), (5, .int x5), (6, .int x6), (7, .int x7)] → (k12 x0 x3 x4 x5 x6 x7).1 h = some (z, h2) → W p l e R s m args below meth c H locs (h.2.1 - h0.2.1) (h.2.2 - h0.2.2) Q (F0 m 12 ls [])) (hk50 : ∀ (x0 : Nat) (x3 : Int32) (x4 : Int32) (x5 : Int32) (x6 : Int32) (x7 : Int32) (x8 : Int32) (h : mo_H) (H : Heap) (locs : List Loc) (ls : Array Slot), mo_A D dA b0 s.heap h0 h H locs → lv_has ls 9 [(0, .ref x0), (3, .int x3), (4, .int x4), (5, .int x5), (6, .int x6), (7, .int x7), (8, .int x8)] → (k50 x0 x3 x4 x5 x6 x7 x8).1 h = some (z, h2) → W p l e R s m args below meth c H locs (h.2.1 - h0.2.1) (h.2.2 - h0.2.2) Q (F0 m 50 ls [])) (x0 : Nat) (x3 : Int32) (x4 : Int32) (x5 : Int32) (x7 : Int32) (x8 : Int32) (s0 : Int32) (h : mo_H) (H : Heap) (locs : List Loc) (ls : Array Slot), mo_A D dA b0 s.heap h0 h H locs → lv_has ls 9 [(0, .ref x0), (3, .int x3), (4, .int x4), (5, .int x5), (7, .int x7), (8, .int x8)] → (F_X11_areAlike_99 k12 k50 x0 x3 x4 x5 x7 x8 s0).1 h = some (z, h2) → W p l e R s m args below meth c H locs (h.2.1 - h0.2.1) (h.2.2 - h0.2.2) Q (F0 m 99 ls [.int s0]) := by
    intro k12 k50 hk12 hk50 x0 x3 x4 x5 x7 x8 s0 h H locs ls A hl hF
    unfold F_X11_areAlike_99 at hF
    refine lv_istore (lv' := [(6, .int s0), (0, .ref x0), (3, .int x3), (4, .int x4), (5, .int x5), (7, .int x7), (8, .int x8)]) hx hb dX11_areAlike_99 hl (by decide) rfl (fun ls hl => ?_)
    refine lv_iinc (v := (x8 + (1 : Int32))) (lv' := [(8, .int (x8 + (1 : Int32))), (6, .int s0), (0, .ref x0), (3, .int x3), (4, .int x4), (5, .int x5), (7, .int x7)]) hx hb dX11_areAlike_101 hl (k := 6) rfl rfl (by decide) rfl (fun ls hl => ?_)
    refine lv_goto (tgt := 50) hx hb dX11_areAlike_104 (by decide) ?_
    exact hk50 x0 x3 x4 x5 s0 x7 (x8 + (1 : Int32)) h H locs ls A (lv_sub hl [2, 3, 4, 5, 1, 6, 0] rfl) hF
  have J98 : ∀ (k12 : Nat → Int32 → Int32 → Int32 → Int32 → Int32 → mo_M Int32) (k50 : Nat → Int32 → Int32 → Int32 → Int32 → Int32 → Int32 → mo_M Int32) (hk12 : ∀ (x0 : Nat) (x3 : Int32) (x4 : Int32) (x5 : Int32) (x6 : Int32) (x7 : Int32) (h : mo_H) (H : Heap) (locs : List Loc) (ls : Array Slot), mo_A D dA b0 s.heap h0 h H locs → lv_has ls 9 [(0, .ref x0), (3, .int x3), (4, .int x4), (5, .int x5), (6, .int x6), (7, .int x7)] → (k12 x0 x3 x4 x5 x6 x7).1 h = some (z, h2) → W p l e R s m args below meth c H locs (h.2.1 - h0.2.1) (h.2.2 - h0.2.2) Q (F0 m 12 ls [])) (hk50 : ∀ (x0 : Nat) (x3 : Int32) (x4 : Int32) (x5 : Int32) (x6 : Int32) (x7 : Int32) (x8 : Int32) (h : mo_H) (H : Heap) (locs : List Loc) (ls : Array Slot), mo_A D dA b0 s.heap h0 h H locs → lv_has ls 9 [(0, .ref x0), (3, .int x3), (4, .int x4), (5, .int x5), (6, .int x6), (7, .int x7), (8, .int x8)] → (k50 x0 x3 x4 x5 x6 x7 x8).1 h = some (z, h2) → W p l e R s m args below meth c H locs (h.2.1 - h0.2.1) (h.2.2 - h0.2.2) Q (F0 m 50 ls [])) (x0 : Nat) (x3 : Int32) (x4 : Int32) (x5 : Int32) (x7 : Int32) (x8 : Int32) (h : mo_H) (H : Heap) (locs : List Loc) (ls : Array Slot), mo_A D dA b0 s.heap h0 h H locs → lv_has ls 9 [(0, .ref x0), (3, .int x3), (4, .int x4), (5, .int x5), (7, .int x7), (8, .int x8)] → (F_X11_areAlike_98 k12 k50 x0 x3 x4 x5 x7 x8).1 h = some (z, h2) → W p l e R s m args below meth c H locs (h.2.1 - h0.2.1) (h.2.2 - h0.2.2) Q (F0 m 98 ls []) := by
    intro k12 k50 hk12 hk50 x0 x3 x4 x5 x7 x8 h H locs ls A hl hF
    unfold F_X11_areAlike_98 at hF
    refine lv_iconst (v := (0 : Int32)) hx hb dX11_areAlike_98 (by decide) ?_
    exact J99 k12 k50 hk12 hk50 x0 x3 x4 x5 x7 x8 (0 : Int32) h H locs ls A (lv_sub hl [0, 1, 2, 3, 4, 5] rfl) hF
  have J107 : ∀ (k12 : Nat → Int32 → Int32 → Int32 → Int32 → Int32 → mo_M Int32) (hk12 : ∀ (x0 : Nat) (x3 : Int32) (x4 : Int32) (x5 : Int32) (x6 : Int32) (x7 : Int32) (h : mo_H) (H : Heap) (locs : List Loc) (ls : Array Slot), mo_A D dA b0 s.heap h0 h H locs → lv_has ls 9 [(0, .ref x0), (3, .int x3), (4, .int x4), (5, .int x5), (6, .int x6), (7, .int x7)] → (k12 x0 x3 x4 x5 x6 x7).1 h = some (z, h2) → W p l e R s m args below meth c H locs (h.2.1 - h0.2.1) (h.2.2 - h0.2.2) Q (F0 m 12 ls [])) (x0 : Nat) (x3 : Int32) (x4 : Int32) (x5 : Int32) (x6 : Int32) (x7 : Int32) (h : mo_H) (H : Heap) (locs : List Loc) (ls : Array Slot), mo_A D dA b0 s.heap h0 h H locs → lv_has ls 9 [(0, .ref x0), (3, .int x3), (4, .int x4), (5, .int x5), (6, .int x6), (7, .int x7)] → (F_X11_areAlike_107 k12 x0 x3 x4 x5 x6 x7).1 h = some (z, h2) → W p l e R s m args below meth c H locs (h.2.1 - h0.2.1) (h.2.2 - h0.2.2) Q (F0 m 107 ls []) := by
    intro k12 hk12 x0 x3 x4 x5 x6 x7 h H locs ls A hl hF
    unfold F_X11_areAlike_107 at hF
    refine lv_aload_n hx hb dX11_areAlike_107 rfl (lv_at hl 0 rfl) ?_
    refine mo_wR C A (T := TX11) iX11 rfl 41 (by decide) tb_158 rfl dX11_areAlike_108 hF (fun v1 hF => ?_)
    refine lv_iload hx hb dX11_areAlike_111 (lv_at hl 2 rfl) ?_
    refine mo_wla C A dX11_areAlike_113 hF (fun v2 hF => ?_)
    refine lv_istore (lv' := [(4, .int v2), (0, .ref x0), (3, .int x3), (5, .int x5), (6, .int x6), (7, .int x7)]) hx hb dX11_areAlike_114 hl (by decide) rfl (fun ls hl => ?_)
    refine lv_aload_n hx hb dX11_areAlike_116 rfl (lv_at hl 1 rfl) ?_
    refine mo_wR C A (T := TX11) iX11 rfl 41 (by decide) tb_158 rfl dX11_areAlike_117 hF (fun v3 hF => ?_)
    refine lv_iload hx hb dX11_areAlike_120 (lv_at hl 3 rfl) ?_
    refine mo_wla C A dX11_areAlike_122 hF (fun v4 hF => ?_)
    refine lv_istore (lv' := [(5, .int v4), (4, .int v2), (0, .ref x0), (3, .int x3), (6, .int x6), (7, .int x7)]) hx hb dX11_areAlike_123 hl (by decide) rfl (fun ls hl => ?_)
    refine lv_iinc (v := (x7 + (1 : Int32))) (lv' := [(7, .int (x7 + (1 : Int32))), (5, .int v4), (4, .int v2), (0, .ref x0), (3, .int x3), (6, .int x6)]) hx hb dX11_areAlike_125 hl (k := 5) rfl rfl (by decide) rfl (fun ls hl => ?_)
    refine lv_goto (tgt := 12) hx hb dX11_areAlike_128 (by decide) ?_
    exact hk12 x0 x3 v2 v4 x6 (x7 + (1 : Int32)) h H locs ls A (lv_sub hl [3, 4, 2, 1, 5, 0] rfl) hF
  have J50 : ∀ (k12 : Nat → Int32 → Int32 → Int32 → Int32 → Int32 → mo_M Int32) (hk12 : ∀ (x0 : Nat) (x3 : Int32) (x4 : Int32) (x5 : Int32) (x6 : Int32) (x7 : Int32) (h : mo_H) (H : Heap) (locs : List Loc) (ls : Array Slot), mo_A D dA b0 s.heap h0 h H locs → lv_has ls 9 [(0, .ref x0), (3, .int x3), (4, .int x4), (5, .int x5), (6, .int x6), (7, .int x7)] → (k12 x0 x3 x4 x5 x6 x7).1 h = some (z, h2) → W p l e R s m args below meth c H locs (h.2.1 - h0.2.1) (h.2.2 - h0.2.2) Q (F0 m 12 ls [])) (fu : Nat) (x0 : Nat) (x3 : Int32) (x4 : Int32) (x5 : Int32) (x6 : Int32) (x7 : Int32) (x8 : Int32) (h : mo_H) (H : Heap) (locs : List Loc) (ls : Array Slot), mo_A D dA b0 s.heap h0 h H locs → lv_has ls 9 [(0, .ref x0), (3, .int x3), (4, .int x4), (5, .int x5), (6, .int x6), (7, .int x7), (8, .int x8)] → (F_X11_areAlike_50 k12 fu x0 x3 x4 x5 x6 x7 x8).1 h = some (z, h2) → W p l e R s m args below meth c H locs (h.2.1 - h0.2.1) (h.2.2 - h0.2.2) Q (F0 m 50 ls []) := by
    intro k12 hk12 fu
    induction fu with
    | zero =>
      intro x0 x3 x4 x5 x6 x7 x8 h H locs ls A hl hF
      unfold F_X11_areAlike_50 at hF
      cases hF
    | succ fu ih =>
      intro x0 x3 x4 x5 x6 x7 x8 h H locs ls A hl hF
      unfold F_X11_areAlike_50 at hF
      refine lv_iload hx hb dX11_areAlike_50 (lv_at hl 6 rfl) ?_
      refine lv_aload_n hx hb dX11_areAlike_52 rfl (lv_at hl 0 rfl) ?_
      refine mo_wR C A (T := TX11) iX11 rfl 42 (by decide) tb_159 rfl dX11_areAlike_53 hF (fun v5 hF => ?_)
      refine lv_iload hx hb dX11_areAlike_56 (lv_at hl 2 rfl) ?_
      refine mo_wla C A dX11_areAlike_58 hF (fun v6 hF => ?_)
      refine lv_icmp_ge (tgt := 107) hx hb dX11_areAlike_59 (by decide) (fun c7 => ?_) (fun c7 => ?_)
      · have hF := mo_ifT c7 hF
        exact J107 k12 hk12 x0 x3 x4 x5 x6 x7 h H locs ls A (lv_sub hl [0, 1, 2, 3, 4, 5] rfl) hF
      · have hF := mo_ifF c7 hF
        refine lv_iload hx hb dX11_areAlike_62 (lv_at hl 4 rfl) ?_
        refine lv_if_eq (tgt := 98) hx hb dX11_areAlike_64 (by decide) (fun c8 => ?_) (fun c8 => ?_)
        · have hF := mo_ifT c8 hF
          exact J98 k12 (F_X11_areAlike_50 k12 fu) hk12 ih x0 x3 x4 x5 x7 x8 h H locs ls A (lv_sub hl [0, 1, 2, 3, 5, 6] rfl) hF
        · have hF := mo_ifF c8 hF
          refine lv_aload_n hx hb dX11_areAlike_67 rfl (lv_at hl 0 rfl) ?_
          refine mo_wR C A (T := TX11) iX11 rfl 43 (by decide) tb_161 rfl dX11_areAlike_68 hF (fun v9 hF => ?_)
          refine lv_iconst (v := (4 : Int32)) hx hb dX11_areAlike_71 (by decide) ?_
          refine lv_iload hx hb dX11_areAlike_72 (lv_at hl 2 rfl) ?_
          refine lv_imul hx hb dX11_areAlike_74 ?_
          refine lv_iload hx hb dX11_areAlike_75 (lv_at hl 6 rfl) ?_
          refine lv_iadd hx hb dX11_areAlike_77 ?_
          refine mo_wla C A dX11_areAlike_78 hF (fun v10 hF => ?_)
          refine lv_aload_n hx hb dX11_areAlike_79 rfl (lv_at hl 0 rfl) ?_
          refine mo_wR C A (T := TX11) iX11 rfl 43 (by decide) tb_161 rfl dX11_areAlike_80 hF (fun v11 hF => ?_)
          refine lv_iconst (v := (4 : Int32)) hx hb dX11_areAlike_83 (by decide) ?_
          refine lv_iload hx hb dX11_areAlike_84 (lv_at hl 3 rfl) ?_
          refine lv_imul hx hb dX11_areAlike_86 ?_
          refine lv_iload hx hb dX11_areAlike_87 (lv_at hl 6 rfl) ?_
          refine lv_iadd hx hb dX11_areAlike_89 ?_
          refine mo_wla C A dX11_areAlike_90 hF (fun v12 hF => ?_)
          refine lv_icmp_ne (tgt := 98) hx hb dX11_areAlike_91 (by decide) (fun c13 => ?_) (fun c13 => ?_)
          · have hF := mo_ifF c13 hF
            exact J98 k12 (F_X11_areAlike_50 k12 fu) hk12 ih x0 x3 x4 x5 x7 x8 h H locs ls A (lv_sub hl [0, 1, 2, 3, 5, 6] rfl) hF
          · have hF := mo_ifT c13 hF
            refine lv_iconst (v := (1 : Int32)) hx hb dX11_areAlike_94 (by decide) ?_
            refine lv_goto (tgt := 99) hx hb dX11_areAlike_95 (by decide) ?_
            exact J99 k12 (F_X11_areAlike_50 k12 fu) hk12 ih x0 x3 x4 x5 x7 x8 (1 : Int32) h H locs ls A (lv_sub hl [0, 1, 2, 3, 5, 6] rfl) hF
  have J45 : ∀ (k12 : Nat → Int32 → Int32 → Int32 → Int32 → Int32 → mo_M Int32) (hk12 : ∀ (x0 : Nat) (x3 : Int32) (x4 : Int32) (x5 : Int32) (x6 : Int32) (x7 : Int32) (h : mo_H) (H : Heap) (locs : List Loc) (ls : Array Slot), mo_A D dA b0 s.heap h0 h H locs → lv_has ls 9 [(0, .ref x0), (3, .int x3), (4, .int x4), (5, .int x5), (6, .int x6), (7, .int x7)] → (k12 x0 x3 x4 x5 x6 x7).1 h = some (z, h2) → W p l e R s m args below meth c H locs (h.2.1 - h0.2.1) (h.2.2 - h0.2.2) Q (F0 m 12 ls [])) (x0 : Nat) (x3 : Int32) (x4 : Int32) (x5 : Int32) (x7 : Int32) (s0 : Int32) (h : mo_H) (H : Heap) (locs : List Loc) (ls : Array Slot), mo_A D dA b0 s.heap h0 h H locs → lv_has ls 9 [(0, .ref x0), (3, .int x3), (4, .int x4), (5, .int x5), (7, .int x7)] → (F_X11_areAlike_45 k12 x0 x3 x4 x5 x7 s0).1 h = some (z, h2) → W p l e R s m args below meth c H locs (h.2.1 - h0.2.1) (h.2.2 - h0.2.2) Q (F0 m 45 ls [.int s0]) := by
    intro k12 hk12 x0 x3 x4 x5 x7 s0 h H locs ls A hl hF
    unfold F_X11_areAlike_45 at hF
    refine lv_istore (lv' := [(6, .int s0), (0, .ref x0), (3, .int x3), (4, .int x4), (5, .int x5), (7, .int x7)]) hx hb dX11_areAlike_45 hl (by decide) rfl (fun ls hl => ?_)
    refine lv_iconst (v := (0 : Int32)) hx hb dX11_areAlike_47 (by decide) ?_
    refine lv_istore (lv' := [(8, .int (0 : Int32)), (6, .int s0), (0, .ref x0), (3, .int x3), (4, .int x4), (5, .int x5), (7, .int x7)]) hx hb dX11_areAlike_48 hl (by decide) rfl (fun ls hl => ?_)
    exact J50 k12 hk12 mo_fu x0 x3 x4 x5 s0 x7 (0 : Int32) h H locs ls A (lv_sub hl [2, 3, 4, 5, 1, 6, 0] rfl) hF
  have J12 : ∀   (fu : Nat) (x0 : Nat) (x3 : Int32) (x4 : Int32) (x5 : Int32) (x6 : Int32) (x7 : Int32) (h : mo_H) (H : Heap) (locs : List Loc) (ls : Array Slot), mo_A D dA b0 s.heap h0 h H locs → lv_has ls 9 [(0, .ref x0), (3, .int x3), (4, .int x4), (5, .int x5), (6, .int x6), (7, .int x7)] → (F_X11_areAlike_12 fu x0 x3 x4 x5 x6 x7).1 h = some (z, h2) → W p l e R s m args below meth c H locs (h.2.1 - h0.2.1) (h.2.2 - h0.2.2) Q (F0 m 12 ls []) := by
    intro  fu
    induction fu with
    | zero =>
      intro x0 x3 x4 x5 x6 x7 h H locs ls A hl hF
      unfold F_X11_areAlike_12 at hF
      cases hF
    | succ fu ih =>
      intro x0 x3 x4 x5 x6 x7 h H locs ls A hl hF
      unfold F_X11_areAlike_12 at hF
      refine lv_iload hx hb dX11_areAlike_12 (lv_at hl 5 rfl) ?_
      refine lv_iload_n hx hb dX11_areAlike_14 rfl (lv_at hl 1 rfl) ?_
      refine lv_icmp_ge (tgt := 131) hx hb dX11_areAlike_15 (by decide) (fun c14 => ?_) (fun c14 => ?_)
      · have hF := mo_ifT c14 hF
        refine lv_iload hx hb dX11_areAlike_131 (lv_at hl 4 rfl) ?_
        rw [hQ]
        exact mo_zret C A hr hlocks dX11_areAlike_133 hF
      · have hF := mo_ifF c14 hF
        refine lv_iload hx hb dX11_areAlike_18 (lv_at hl 4 rfl) ?_
        refine lv_if_eq (tgt := 131) hx hb dX11_areAlike_20 (by decide) (fun c15 => ?_) (fun c15 => ?_)
        · have hF := mo_ifT c15 hF
          refine lv_iload hx hb dX11_areAlike_131 (lv_at hl 4 rfl) ?_
          rw [hQ]
          exact mo_zret C A hr hlocks dX11_areAlike_133 hF
        · have hF := mo_ifF c15 hF
          refine lv_aload_n hx hb dX11_areAlike_23 rfl (lv_at hl 0 rfl) ?_
          refine mo_wR C A (T := TX11) iX11 rfl 42 (by decide) tb_159 rfl dX11_areAlike_24 hF (fun v16 hF => ?_)
          refine lv_iload hx hb dX11_areAlike_27 (lv_at hl 2 rfl) ?_
          refine mo_wla C A dX11_areAlike_29 hF (fun v17 hF => ?_)
          refine lv_aload_n hx hb dX11_areAlike_30 rfl (lv_at hl 0 rfl) ?_
          refine mo_wR C A (T := TX11) iX11 rfl 42 (by decide) tb_159 rfl dX11_areAlike_31 hF (fun v18 hF => ?_)
          refine lv_iload hx hb dX11_areAlike_34 (lv_at hl 3 rfl) ?_
          refine mo_wla C A dX11_areAlike_36 hF (fun v19 hF => ?_)
          refine lv_icmp_ne (tgt := 44) hx hb dX11_areAlike_37 (by decide) (fun c20 => ?_) (fun c20 => ?_)
          · have hF := mo_ifF c20 hF
            refine lv_iconst (v := (0 : Int32)) hx hb dX11_areAlike_44 (by decide) ?_
            exact J45 (F_X11_areAlike_12  fu) ih x0 x3 x4 x5 x7 (0 : Int32) h H locs ls A (lv_sub hl [0, 1, 2, 3, 5] rfl) hF
          · have hF := mo_ifT c20 hF
            refine lv_iconst (v := (1 : Int32)) hx hb dX11_areAlike_40 (by decide) ?_
            refine lv_goto (tgt := 45) hx hb dX11_areAlike_41 (by decide) ?_
            exact J45 (F_X11_areAlike_12  fu) ih x0 x3 x4 x5 x7 (1 : Int32) h H locs ls A (lv_sub hl [0, 1, 2, 3, 5] rfl) hF
  unfold F_X11_areAlike at hF
  obtain ⟨-, hF⟩ := mo_ckE hF
  have E : ∀ (h : mo_H) (H : Heap) (locs : List Loc), (F_X11_areAlike_12 mo_fu x0 x3 x1 x2 (1 : Int32) (0 : Int32)).1 h = some (z, h2) → mo_A D dA b0 s.heap h0 h H locs → W p l e R s m args below meth c H locs (h.2.1 - h0.2.1) (h.2.2 - h0.2.2) Q (F0 m 0 ls []) := by
    intro h H locs hF A
    refine lv_iload_n hx hb dX11_areAlike_0 rfl (lv_at hl 1 rfl) ?_
    refine lv_istore (lv' := [(4, .int x1), (0, .ref x0), (1, .int x1), (2, .int x2), (3, .int x3)]) hx hb dX11_areAlike_1 hl (by decide) rfl (fun ls hl => ?_)
    refine lv_iload_n hx hb dX11_areAlike_3 rfl (lv_at hl 3 rfl) ?_
    refine lv_istore (lv' := [(5, .int x2), (4, .int x1), (0, .ref x0), (1, .int x1), (2, .int x2), (3, .int x3)]) hx hb dX11_areAlike_4 hl (by decide) rfl (fun ls hl => ?_)
    refine lv_iconst (v := (1 : Int32)) hx hb dX11_areAlike_6 (by decide) ?_
    refine lv_istore (lv' := [(6, .int (1 : Int32)), (5, .int x2), (4, .int x1), (0, .ref x0), (1, .int x1), (2, .int x2), (3, .int x3)]) hx hb dX11_areAlike_7 hl (by decide) rfl (fun ls hl => ?_)
    refine lv_iconst (v := (0 : Int32)) hx hb dX11_areAlike_9 (by decide) ?_
    refine lv_istore (lv' := [(7, .int (0 : Int32)), (6, .int (1 : Int32)), (5, .int x2), (4, .int x1), (0, .ref x0), (1, .int x1), (2, .int x2), (3, .int x3)]) hx hb dX11_areAlike_10 hl (by decide) rfl (fun ls hl => ?_)
    exact J12 mo_fu x0 x3 x1 x2 (1 : Int32) (0 : Int32) h H locs ls A (lv_sub hl [4, 7, 3, 2, 1, 0] rfl) hF
  exact E h0 s.heap [] hF A
