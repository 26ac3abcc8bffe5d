set_option maxHeartbeats 4000000 in
set_option maxRecDepth 100000 in
theorem c_X11_undisturbed (l : Launch) (D : va_G) (dA : Nat → ClassId) (b0 : Nat) (x0 : Nat) (x1 : Int32) : mo_Met l yX11_undisturbed [Cond.code yX11_undisturbed cX11_undisturbed 10 (some .int)] 6 163 D dA b0 [.ref x0, .int x1] (fun r : Int32 => some (.int r)) (F_X11_undisturbed x0 x1) := by
  refine mo_MetOf (own := RX11) (by decide) (Nat.le_of_ble_eq_true rfl) [(0, .ref x0), (1, .int x1)] rfl rfl ?_
  intro p e R s m args below meth c Q h0 h2 z ls hQ C hml hr hlocks hnm hfr hlo hF A hl
  have hx := C.1
  have hb := C.2.1
  have hown := C.2.2.1
  have hts := C.2.2.2.1
  have hK := C.2.2.2.2.1
  have iX11 := inlX11
  have J218 : ∀ (k134 : Nat → Int32 → Int32 → Int32 → Int32 → Int32 → mo_M Int32) (hk134 : ∀ (x0 : Nat) (x1 : Int32) (x3 : Int32) (x4 : Int32) (x5 : Int32) (x6 : Int32) (h : mo_H) (H : Heap) (locs : List Loc) (ls : Array Slot), mo_A D dA b0 s.heap h0 h H locs → lv_has ls 10 [(0, .ref x0), (1, .int x1), (3, .int x3), (4, .int x4), (5, .int x5), (6, .int x6)] → (k134 x0 x1 x3 x4 x5 x6).1 h = some (z, h2) → W p l e R s m args below meth c H locs (h.2.1 - h0.2.1) (h.2.2 - h0.2.2) Q (F0 m 134 ls [])) (x0 : Nat) (x1 : Int32) (x3 : Int32) (x4 : Int32) (x6 : Int32) (s0 : Int32) (h : mo_H) (H : Heap) (locs : List Loc) (ls : Array Slot), mo_A D dA b0 s.heap h0 h H locs → lv_has ls 10 [(0, .ref x0), (1, .int x1), (3, .int x3), (4, .int x4), (6, .int x6)] → (F_X11_undisturbed_218 k134 x0 x1 x3 x4 x6 s0).1 h = some (z, h2) → W p l e R s m args below meth c H locs (h.2.1 - h0.2.1) (h.2.2 - h0.2.2) Q (F0 m 218 ls [.int s0]) := by
    intro k134 hk134 x0 x1 x3 x4 x6 s0 h H locs ls A hl hF
    unfold F_X11_undisturbed_218 at hF
    refine lv_istore (lv' := [(5, .int s0), (0, .ref x0), (1, .int x1), (3, .int x3), (4, .int x4), (6, .int x6)]) hx hb dX11_undisturbed_218 hl (by decide) rfl (fun ls hl => ?_)
    refine lv_iinc (v := (x6 + (1 : Int32))) (lv' := [(6, .int (x6 + (1 : Int32))), (5, .int s0), (0, .ref x0), (1, .int x1), (3, .int x3), (4, .int x4)]) hx hb dX11_undisturbed_220 hl (k := 5) rfl rfl (by decide) rfl (fun ls hl => ?_)
    refine lv_goto (tgt := 134) hx hb dX11_undisturbed_223 (by decide) ?_
    exact hk134 x0 x1 x3 x4 s0 (x6 + (1 : Int32)) h H locs ls A (lv_sub hl [2, 3, 4, 5, 1, 0] rfl) hF
  have J213 : ∀ (k134 : Nat → Int32 → Int32 → Int32 → Int32 → Int32 → mo_M Int32) (hk134 : ∀ (x0 : Nat) (x1 : Int32) (x3 : Int32) (x4 : Int32) (x5 : Int32) (x6 : Int32) (h : mo_H) (H : Heap) (locs : List Loc) (ls : Array Slot), mo_A D dA b0 s.heap h0 h H locs → lv_has ls 10 [(0, .ref x0), (1, .int x1), (3, .int x3), (4, .int x4), (5, .int x5), (6, .int x6)] → (k134 x0 x1 x3 x4 x5 x6).1 h = some (z, h2) → W p l e R s m args below meth c H locs (h.2.1 - h0.2.1) (h.2.2 - h0.2.2) Q (F0 m 134 ls [])) (x0 : Nat) (x1 : Int32) (x3 : Int32) (x4 : Int32) (x6 : Int32) (h : mo_H) (H : Heap) (locs : List Loc) (ls : Array Slot), mo_A D dA b0 s.heap h0 h H locs → lv_has ls 10 [(0, .ref x0), (1, .int x1), (3, .int x3), (4, .int x4), (6, .int x6)] → (F_X11_undisturbed_213 k134 x0 x1 x3 x4 x6).1 h = some (z, h2) → W p l e R s m args below meth c H locs (h.2.1 - h0.2.1) (h.2.2 - h0.2.2) Q (F0 m 213 ls []) := by
    intro k134 hk134 x0 x1 x3 x4 x6 h H locs ls A hl hF
    unfold F_X11_undisturbed_213 at hF
    refine lv_iconst (v := (1 : Int32)) hx hb dX11_undisturbed_213 (by decide) ?_
    refine lv_goto (tgt := 218) hx hb dX11_undisturbed_214 (by decide) ?_
    exact J218 k134 hk134 x0 x1 x3 x4 x6 (1 : Int32) h H locs ls A (lv_sub hl [0, 1, 2, 3, 4] rfl) hF
  have J217 : ∀ (k134 : Nat → Int32 → Int32 → Int32 → Int32 → Int32 → mo_M Int32) (hk134 : ∀ (x0 : Nat) (x1 : Int32) (x3 : Int32) (x4 : Int32) (x5 : Int32) (x6 : Int32) (h : mo_H) (H : Heap) (locs : List Loc) (ls : Array Slot), mo_A D dA b0 s.heap h0 h H locs → lv_has ls 10 [(0, .ref x0), (1, .int x1), (3, .int x3), (4, .int x4), (5, .int x5), (6, .int x6)] → (k134 x0 x1 x3 x4 x5 x6).1 h = some (z, h2) → W p l e R s m args below meth c H locs (h.2.1 - h0.2.1) (h.2.2 - h0.2.2) Q (F0 m 134 ls [])) (x0 : Nat) (x1 : Int32) (x3 : Int32) (x4 : Int32) (x6 : Int32) (h : mo_H) (H : Heap) (locs : List Loc) (ls : Array Slot), mo_A D dA b0 s.heap h0 h H locs → lv_has ls 10 [(0, .ref x0), (1, .int x1), (3, .int x3), (4, .int x4), (6, .int x6)] → (F_X11_undisturbed_217 k134 x0 x1 x3 x4 x6).1 h = some (z, h2) → W p l e R s m args below meth c H locs (h.2.1 - h0.2.1) (h.2.2 - h0.2.2) Q (F0 m 217 ls []) := by
    intro k134 hk134 x0 x1 x3 x4 x6 h H locs ls A hl hF
    unfold F_X11_undisturbed_217 at hF
    refine lv_iconst (v := (0 : Int32)) hx hb dX11_undisturbed_217 (by decide) ?_
    exact J218 k134 hk134 x0 x1 x3 x4 x6 (0 : Int32) h H locs ls A (lv_sub hl [0, 1, 2, 3, 4] rfl) hF
  have J274 : ∀ (k229 : Nat → Int32 → Int32 → Int32 → Int32 → Int32 → mo_M Int32) (hk229 : ∀ (x0 : Nat) (x1 : Int32) (x3 : Int32) (x4 : Int32) (x5 : Int32) (x6 : Int32) (h : mo_H) (H : Heap) (locs : List Loc) (ls : Array Slot), mo_A D dA b0 s.heap h0 h H locs → lv_has ls 10 [(0, .ref x0), (1, .int x1), (3, .int x3), (4, .int x4), (5, .int x5), (6, .int x6)] → (k229 x0 x1 x3 x4 x5 x6).1 h = some (z, h2) → W p l e R s m args below meth c H locs (h.2.1 - h0.2.1) (h.2.2 - h0.2.2) Q (F0 m 229 ls [])) (x0 : Nat) (x1 : Int32) (x3 : Int32) (x4 : Int32) (x6 : Int32) (s0 : Int32) (h : mo_H) (H : Heap) (locs : List Loc) (ls : Array Slot), mo_A D dA b0 s.heap h0 h H locs → lv_has ls 10 [(0, .ref x0), (1, .int x1), (3, .int x3), (4, .int x4), (6, .int x6)] → (F_X11_undisturbed_274 k229 x0 x1 x3 x4 x6 s0).1 h = some (z, h2) → W p l e R s m args below meth c H locs (h.2.1 - h0.2.1) (h.2.2 - h0.2.2) Q (F0 m 274 ls [.int s0]) := by
    intro k229 hk229 x0 x1 x3 x4 x6 s0 h H locs ls A hl hF
    unfold F_X11_undisturbed_274 at hF
    refine lv_istore (lv' := [(5, .int s0), (0, .ref x0), (1, .int x1), (3, .int x3), (4, .int x4), (6, .int x6)]) hx hb dX11_undisturbed_274 hl (by decide) rfl (fun ls hl => ?_)
    refine lv_iinc (v := (x6 + (1 : Int32))) (lv' := [(6, .int (x6 + (1 : Int32))), (5, .int s0), (0, .ref x0), (1, .int x1), (3, .int x3), (4, .int x4)]) hx hb dX11_undisturbed_276 hl (k := 5) rfl rfl (by decide) rfl (fun ls hl => ?_)
    refine lv_goto (tgt := 229) hx hb dX11_undisturbed_279 (by decide) ?_
    exact hk229 x0 x1 x3 x4 s0 (x6 + (1 : Int32)) h H locs ls A (lv_sub hl [2, 3, 4, 5, 1, 0] rfl) hF
  have J273 : ∀ (k229 : Nat → Int32 → Int32 → Int32 → Int32 → Int32 → mo_M Int32) (hk229 : ∀ (x0 : Nat) (x1 : Int32) (x3 : Int32) (x4 : Int32) (x5 : Int32) (x6 : Int32) (h : mo_H) (H : Heap) (locs : List Loc) (ls : Array Slot), mo_A D dA b0 s.heap h0 h H locs → lv_has ls 10 [(0, .ref x0), (1, .int x1), (3, .int x3), (4, .int x4), (5, .int x5), (6, .int x6)] → (k229 x0 x1 x3 x4 x5 x6).1 h = some (z, h2) → W p l e R s m args below meth c H locs (h.2.1 - h0.2.1) (h.2.2 - h0.2.2) Q (F0 m 229 ls [])) (x0 : Nat) (x1 : Int32) (x3 : Int32) (x4 : Int32) (x6 : Int32) (h : mo_H) (H : Heap) (locs : List Loc) (ls : Array Slot), mo_A D dA b0 s.heap h0 h H locs → lv_has ls 10 [(0, .ref x0), (1, .int x1), (3, .int x3), (4, .int x4), (6, .int x6)] → (F_X11_undisturbed_273 k229 x0 x1 x3 x4 x6).1 h = some (z, h2) → W p l e R s m args below meth c H locs (h.2.1 - h0.2.1) (h.2.2 - h0.2.2) Q (F0 m 273 ls []) := by
    intro k229 hk229 x0 x1 x3 x4 x6 h H locs ls A hl hF
    unfold F_X11_undisturbed_273 at hF
    refine lv_iconst (v := (0 : Int32)) hx hb dX11_undisturbed_273 (by decide) ?_
    exact J274 k229 hk229 x0 x1 x3 x4 x6 (0 : Int32) h H locs ls A (lv_sub hl [0, 1, 2, 3, 4] rfl) hF
  have J336 : ∀ (k285 : Nat → Int32 → Int32 → Int32 → Int32 → Int32 → mo_M Int32) (hk285 : ∀ (x0 : Nat) (x1 : Int32) (x3 : Int32) (x4 : Int32) (x5 : Int32) (x6 : Int32) (h : mo_H) (H : Heap) (locs : List Loc) (ls : Array Slot), mo_A D dA b0 s.heap h0 h H locs → lv_has ls 10 [(0, .ref x0), (1, .int x1), (3, .int x3), (4, .int x4), (5, .int x5), (6, .int x6)] → (k285 x0 x1 x3 x4 x5 x6).1 h = some (z, h2) → W p l e R s m args below meth c H locs (h.2.1 - h0.2.1) (h.2.2 - h0.2.2) Q (F0 m 285 ls [])) (x0 : Nat) (x1 : Int32) (x3 : Int32) (x4 : Int32) (x6 : Int32) (s0 : Int32) (h : mo_H) (H : Heap) (locs : List Loc) (ls : Array Slot), mo_A D dA b0 s.heap h0 h H locs → lv_has ls 10 [(0, .ref x0), (1, .int x1), (3, .int x3), (4, .int x4), (6, .int x6)] → (F_X11_undisturbed_336 k285 x0 x1 x3 x4 x6 s0).1 h = some (z, h2) → W p l e R s m args below meth c H locs (h.2.1 - h0.2.1) (h.2.2 - h0.2.2) Q (F0 m 336 ls [.int s0]) := by
    intro k285 hk285 x0 x1 x3 x4 x6 s0 h H locs ls A hl hF
    unfold F_X11_undisturbed_336 at hF
    refine lv_istore (lv' := [(5, .int s0), (0, .ref x0), (1, .int x1), (3, .int x3), (4, .int x4), (6, .int x6)]) hx hb dX11_undisturbed_336 hl (by decide) rfl (fun ls hl => ?_)
    refine lv_iinc (v := (x6 + (1 : Int32))) (lv' := [(6, .int (x6 + (1 : Int32))), (5, .int s0), (0, .ref x0), (1, .int x1), (3, .int x3), (4, .int x4)]) hx hb dX11_undisturbed_338 hl (k := 5) rfl rfl (by decide) rfl (fun ls hl => ?_)
    refine lv_goto (tgt := 285) hx hb dX11_undisturbed_341 (by decide) ?_
    exact hk285 x0 x1 x3 x4 s0 (x6 + (1 : Int32)) h H locs ls A (lv_sub hl [2, 3, 4, 5, 1, 0] rfl) hF
  have J335 : ∀ (k285 : Nat → Int32 → Int32 → Int32 → Int32 → Int32 → mo_M Int32) (hk285 : ∀ (x0 : Nat) (x1 : Int32) (x3 : Int32) (x4 : Int32) (x5 : Int32) (x6 : Int32) (h : mo_H) (H : Heap) (locs : List Loc) (ls : Array Slot), mo_A D dA b0 s.heap h0 h H locs → lv_has ls 10 [(0, .ref x0), (1, .int x1), (3, .int x3), (4, .int x4), (5, .int x5), (6, .int x6)] → (k285 x0 x1 x3 x4 x5 x6).1 h = some (z, h2) → W p l e R s m args below meth c H locs (h.2.1 - h0.2.1) (h.2.2 - h0.2.2) Q (F0 m 285 ls [])) (x0 : Nat) (x1 : Int32) (x3 : Int32) (x4 : Int32) (x6 : Int32) (h : mo_H) (H : Heap) (locs : List Loc) (ls : Array Slot), mo_A D dA b0 s.heap h0 h H locs → lv_has ls 10 [(0, .ref x0), (1, .int x1), (3, .int x3), (4, .int x4), (6, .int x6)] → (F_X11_undisturbed_335 k285 x0 x1 x3 x4 x6).1 h = some (z, h2) → W p l e R s m args below meth c H locs (h.2.1 - h0.2.1) (h.2.2 - h0.2.2) Q (F0 m 335 ls []) := by
    intro k285 hk285 x0 x1 x3 x4 x6 h H locs ls A hl hF
    unfold F_X11_undisturbed_335 at hF
    refine lv_iconst (v := (0 : Int32)) hx hb dX11_undisturbed_335 (by decide) ?_
    exact J336 k285 hk285 x0 x1 x3 x4 x6 (0 : Int32) h H locs ls A (lv_sub hl [0, 1, 2, 3, 4] rfl) hF
  have J543 : ∀ (k347 : Nat → Int32 → Int32 → Int32 → mo_M Int32) (k500 : Nat → Int32 → Int32 → Int32 → Int32 → Int32 → Int32 → mo_M Int32) (hk347 : ∀ (x0 : Nat) (x1 : Int32) (x5 : Int32) (x6 : Int32) (h : mo_H) (H : Heap) (locs : List Loc) (ls : Array Slot), mo_A D dA b0 s.heap h0 h H locs → lv_has ls 10 [(0, .ref x0), (1, .int x1), (5, .int x5), (6, .int x6)] → (k347 x0 x1 x5 x6).1 h = some (z, h2) → W p l e R s m args below meth c H locs (h.2.1 - h0.2.1) (h.2.2 - h0.2.2) Q (F0 m 347 ls [])) (hk500 : ∀ (x0 : Nat) (x1 : Int32) (x5 : Int32) (x6 : Int32) (x7 : Int32) (x8 : Int32) (x9 : Int32) (h : mo_H) (H : Heap) (locs : List Loc) (ls : Array Slot), mo_A D dA b0 s.heap h0 h H locs → lv_has ls 10 [(0, .ref x0), (1, .int x1), (5, .int x5), (6, .int x6), (7, .int x7), (8, .int x8), (9, .int x9)] → (k500 x0 x1 x5 x6 x7 x8 x9).1 h = some (z, h2) → W p l e R s m args below meth c H locs (h.2.1 - h0.2.1) (h.2.2 - h0.2.2) Q (F0 m 500 ls [])) (x0 : Nat) (x1 : Int32) (x6 : Int32) (x7 : Int32) (x8 : Int32) (x9 : Int32) (s0 : Int32) (h : mo_H) (H : Heap) (locs : List Loc) (ls : Array Slot), mo_A D dA b0 s.heap h0 h H locs → lv_has ls 10 [(0, .ref x0), (1, .int x1), (6, .int x6), (7, .int x7), (8, .int x8), (9, .int x9)] → (F_X11_undisturbed_543 k347 k500 x0 x1 x6 x7 x8 x9 s0).1 h = some (z, h2) → W p l e R s m args below meth c H locs (h.2.1 - h0.2.1) (h.2.2 - h0.2.2) Q (F0 m 543 ls [.int s0]) := by
    intro k347 k500 hk347 hk500 x0 x1 x6 x7 x8 x9 s0 h H locs ls A hl hF
    unfold F_X11_undisturbed_543 at hF
    refine lv_istore (lv' := [(5, .int s0), (0, .ref x0), (1, .int x1), (6, .int x6), (7, .int x7), (8, .int x8), (9, .int x9)]) hx hb dX11_undisturbed_543 hl (by decide) rfl (fun ls hl => ?_)
    refine lv_iinc (v := (x9 + (1 : Int32))) (lv' := [(9, .int (x9 + (1 : Int32))), (5, .int s0), (0, .ref x0), (1, .int x1), (6, .int x6), (7, .int x7), (8, .int x8)]) hx hb dX11_undisturbed_545 hl (k := 6) rfl rfl (by decide) rfl (fun ls hl => ?_)
    refine lv_goto (tgt := 500) hx hb dX11_undisturbed_548 (by decide) ?_
    exact hk500 x0 x1 s0 x6 x7 x8 (x9 + (1 : Int32)) h H locs ls A (lv_sub hl [2, 3, 1, 4, 5, 6, 0] rfl) hF
  have J542 : ∀ (k347 : Nat → Int32 → Int32 → Int32 → mo_M Int32) (k500 : Nat → Int32 → Int32 → Int32 → Int32 → Int32 → Int32 → mo_M Int32) (hk347 : ∀ (x0 : Nat) (x1 : Int32) (x5 : Int32) (x6 : Int32) (h : mo_H) (H : Heap) (locs : List Loc) (ls : Array Slot), mo_A D dA b0 s.heap h0 h H locs → lv_has ls 10 [(0, .ref x0), (1, .int x1), (5, .int x5), (6, .int x6)] → (k347 x0 x1 x5 x6).1 h = some (z, h2) → W p l e R s m args below meth c H locs (h.2.1 - h0.2.1) (h.2.2 - h0.2.2) Q (F0 m 347 ls [])) (hk500 : ∀ (x0 : Nat) (x1 : Int32) (x5 : Int32) (x6 : Int32) (x7 : Int32) (x8 : Int32) (x9 : Int32) (h : mo_H) (H : Heap) (locs : List Loc) (ls : Array Slot), mo_A D dA b0 s.heap h0 h H locs → lv_has ls 10 [(0, .ref x0), (1, .int x1), (5, .int x5), (6, .int x6), (7, .int x7), (8, .int x8), (9, .int x9)] → (k500 x0 x1 x5 x6 x7 x8 x9).1 h = some (z, h2) → W p l e R s m args below meth c H locs (h.2.1 - h0.2.1) (h.2.2 - h0.2.2) Q (F0 m 500 ls [])) (x0 : Nat) (x1 : Int32) (x6 : Int32) (x7 : Int32) (x8 : Int32) (x9 : Int32) (h : mo_H) (H : Heap) (locs : List Loc) (ls : Array Slot), mo_A D dA b0 s.heap h0 h H locs → lv_has ls 10 [(0, .ref x0), (1, .int x1), (6, .int x6), (7, .int x7), (8, .int x8), (9, .int x9)] → (F_X11_undisturbed_542 k347 k500 x0 x1 x6 x7 x8 x9).1 h = some (z, h2) → W p l e R s m args below meth c H locs (h.2.1 - h0.2.1) (h.2.2 - h0.2.2) Q (F0 m 542 ls []) := by
    intro k347 k500 hk347 hk500 x0 x1 x6 x7 x8 x9 h H locs ls A hl hF
    unfold F_X11_undisturbed_542 at hF
    refine lv_iconst (v := (0 : Int32)) hx hb dX11_undisturbed_542 (by decide) ?_
    exact J543 k347 k500 hk347 hk500 x0 x1 x6 x7 x8 x9 (0 : Int32) h H locs ls A (lv_sub hl [0, 1, 2, 3, 4, 5] rfl) hF
  have J551 : ∀ (k347 : Nat → Int32 → Int32 → Int32 → mo_M Int32) (hk347 : ∀ (x0 : Nat) (x1 : Int32) (x5 : Int32) (x6 : Int32) (h : mo_H) (H : Heap) (locs : List Loc) (ls : Array Slot), mo_A D dA b0 s.heap h0 h H locs → lv_has ls 10 [(0, .ref x0), (1, .int x1), (5, .int x5), (6, .int x6)] → (k347 x0 x1 x5 x6).1 h = some (z, h2) → W p l e R s m args below meth c H locs (h.2.1 - h0.2.1) (h.2.2 - h0.2.2) Q (F0 m 347 ls [])) (x0 : Nat) (x1 : Int32) (x5 : Int32) (x6 : Int32) (h : mo_H) (H : Heap) (locs : List Loc) (ls : Array Slot), mo_A D dA b0 s.heap h0 h H locs → lv_has ls 10 [(0, .ref x0), (1, .int x1), (5, .int x5), (6, .int x6)] → (F_X11_undisturbed_551 k347 x0 x1 x5 x6).1 h = some (z, h2) → W p l e R s m args below meth c H locs (h.2.1 - h0.2.1) (h.2.2 - h0.2.2) Q (F0 m 551 ls []) := by
    intro k347 hk347 x0 x1 x5 x6 h H locs ls A hl hF
    unfold F_X11_undisturbed_551 at hF
    refine lv_iinc (v := (x6 + (1 : Int32))) (lv' := [(6, .int (x6 + (1 : Int32))), (0, .ref x0), (1, .int x1), (5, .int x5)]) hx hb dX11_undisturbed_551 hl (k := 3) rfl rfl (by decide) rfl (fun ls hl => ?_)
    refine lv_goto (tgt := 347) hx hb dX11_undisturbed_554 (by decide) ?_
    exact hk347 x0 x1 x5 (x6 + (1 : Int32)) h H locs ls A (lv_sub hl [1, 2, 3, 0] rfl) hF
  have J500 : ∀ (k347 : Nat → Int32 → Int32 → Int32 → mo_M Int32) (hk347 : ∀ (x0 : Nat) (x1 : Int32) (x5 : Int32) (x6 : Int32) (h : mo_H) (H : Heap) (locs : List Loc) (ls : Array Slot), mo_A D dA b0 s.heap h0 h H locs → lv_has ls 10 [(0, .ref x0), (1, .int x1), (5, .int x5), (6, .int x6)] → (k347 x0 x1 x5 x6).1 h = some (z, h2) → W p l e R s m args below meth c H locs (h.2.1 - h0.2.1) (h.2.2 - h0.2.2) Q (F0 m 347 ls [])) (fu : Nat) (x0 : Nat) (x1 : Int32) (x5 : Int32) (x6 : Int32) (x7 : Int32) (x8 : Int32) (x9 : Int32) (h : mo_H) (H : Heap) (locs : List Loc) (ls : Array Slot), mo_A D dA b0 s.heap h0 h H locs → lv_has ls 10 [(0, .ref x0), (1, .int x1), (5, .int x5), (6, .int x6), (7, .int x7), (8, .int x8), (9, .int x9)] → (F_X11_undisturbed_500 k347 fu x0 x1 x5 x6 x7 x8 x9).1 h = some (z, h2) → W p l e R s m args below meth c H locs (h.2.1 - h0.2.1) (h.2.2 - h0.2.2) Q (F0 m 500 ls []) := by
    intro k347 hk347 fu
    induction fu with
    | zero =>
      intro x0 x1 x5 x6 x7 x8 x9 h H locs ls A hl hF
      unfold F_X11_undisturbed_500 at hF
      cases hF
    | succ fu ih =>
      intro x0 x1 x5 x6 x7 x8 x9 h H locs ls A hl hF
      unfold F_X11_undisturbed_500 at hF
      refine lv_iload hx hb dX11_undisturbed_500 (lv_at hl 6 rfl) ?_
      refine lv_iconst (v := (4 : Int32)) hx hb dX11_undisturbed_502 (by decide) ?_
      refine lv_icmp_ge (tgt := 551) hx hb dX11_undisturbed_503 (by decide) (fun c1 => ?_) (fun c1 => ?_)
      · have hF := mo_ifT c1 hF
        exact J551 k347 hk347 x0 x1 x5 x6 h H locs ls A (lv_sub hl [0, 1, 2, 3] rfl) hF
      · have hF := mo_ifF c1 hF
        refine lv_iload hx hb dX11_undisturbed_506 (lv_at hl 2 rfl) ?_
        refine lv_if_eq (tgt := 542) hx hb dX11_undisturbed_508 (by decide) (fun c2 => ?_) (fun c2 => ?_)
        · have hF := mo_ifT c2 hF
          exact J542 k347 (F_X11_undisturbed_500 k347 fu) hk347 ih x0 x1 x6 x7 x8 x9 h H locs ls A (lv_sub hl [0, 1, 3, 4, 5, 6] rfl) hF
        · have hF := mo_ifF c2 hF
          refine lv_aload_n hx hb dX11_undisturbed_511 rfl (lv_at hl 0 rfl) ?_
          refine mo_wR C A (T := TX11) iX11 rfl 38 (by decide) tb_155 rfl dX11_undisturbed_512 hF (fun v3 hF => ?_)
          refine lv_iconst (v := (4 : Int32)) hx hb dX11_undisturbed_515 (by decide) ?_
          refine lv_iload hx hb dX11_undisturbed_516 (lv_at hl 4 rfl) ?_
          refine lv_imul hx hb dX11_undisturbed_518 ?_
          refine lv_iload hx hb dX11_undisturbed_519 (lv_at hl 6 rfl) ?_
          refine lv_iadd hx hb dX11_undisturbed_521 ?_
          refine mo_wla C A dX11_undisturbed_522 hF (fun v4 hF => ?_)
          refine lv_aload_n hx hb dX11_undisturbed_523 rfl (lv_at hl 0 rfl) ?_
          refine mo_wR C A (T := TX11) iX11 rfl 38 (by decide) tb_155 rfl dX11_undisturbed_524 hF (fun v5 hF => ?_)
          refine lv_iconst (v := (4 : Int32)) hx hb dX11_undisturbed_527 (by decide) ?_
          refine lv_iload hx hb dX11_undisturbed_528 (lv_at hl 5 rfl) ?_
          refine lv_imul hx hb dX11_undisturbed_530 ?_
          refine lv_iload hx hb dX11_undisturbed_531 (lv_at hl 6 rfl) ?_
          refine lv_iadd hx hb dX11_undisturbed_533 ?_
          refine mo_wla C A dX11_undisturbed_534 hF (fun v6 hF => ?_)
          refine lv_icmp_ne (tgt := 542) hx hb dX11_undisturbed_535 (by decide) (fun c7 => ?_) (fun c7 => ?_)
          · have hF := mo_ifF c7 hF
            exact J542 k347 (F_X11_undisturbed_500 k347 fu) hk347 ih x0 x1 x6 x7 x8 x9 h H locs ls A (lv_sub hl [0, 1, 3, 4, 5, 6] rfl) hF
          · have hF := mo_ifT c7 hF
            refine lv_iconst (v := (1 : Int32)) hx hb dX11_undisturbed_538 (by decide) ?_
            refine lv_goto (tgt := 543) hx hb dX11_undisturbed_539 (by decide) ?_
            exact J543 k347 (F_X11_undisturbed_500 k347 fu) hk347 ih x0 x1 x6 x7 x8 x9 (1 : Int32) h H locs ls A (lv_sub hl [0, 1, 3, 4, 5, 6] rfl) hF
  have J495 : ∀ (k347 : Nat → Int32 → Int32 → Int32 → mo_M Int32) (hk347 : ∀ (x0 : Nat) (x1 : Int32) (x5 : Int32) (x6 : Int32) (h : mo_H) (H : Heap) (locs : List Loc) (ls : Array Slot), mo_A D dA b0 s.heap h0 h H locs → lv_has ls 10 [(0, .ref x0), (1, .int x1), (5, .int x5), (6, .int x6)] → (k347 x0 x1 x5 x6).1 h = some (z, h2) → W p l e R s m args below meth c H locs (h.2.1 - h0.2.1) (h.2.2 - h0.2.2) Q (F0 m 347 ls [])) (x0 : Nat) (x1 : Int32) (x6 : Int32) (x7 : Int32) (x8 : Int32) (s0 : Int32) (h : mo_H) (H : Heap) (locs : List Loc) (ls : Array Slot), mo_A D dA b0 s.heap h0 h H locs → lv_has ls 10 [(0, .ref x0), (1, .int x1), (6, .int x6), (7, .int x7), (8, .int x8)] → (F_X11_undisturbed_495 k347 x0 x1 x6 x7 x8 s0).1 h = some (z, h2) → W p l e R s m args below meth c H locs (h.2.1 - h0.2.1) (h.2.2 - h0.2.2) Q (F0 m 495 ls [.int s0]) := by
    intro k347 hk347 x0 x1 x6 x7 x8 s0 h H locs ls A hl hF
    unfold F_X11_undisturbed_495 at hF
    refine lv_istore (lv' := [(5, .int s0), (0, .ref x0), (1, .int x1), (6, .int x6), (7, .int x7), (8, .int x8)]) hx hb dX11_undisturbed_495 hl (by decide) rfl (fun ls hl => ?_)
    refine lv_iconst (v := (0 : Int32)) hx hb dX11_undisturbed_497 (by decide) ?_
    refine lv_istore (lv' := [(9, .int (0 : Int32)), (5, .int s0), (0, .ref x0), (1, .int x1), (6, .int x6), (7, .int x7), (8, .int x8)]) hx hb dX11_undisturbed_498 hl (by decide) rfl (fun ls hl => ?_)
    exact J500 k347 hk347 mo_fu x0 x1 s0 x6 x7 x8 (0 : Int32) h H locs ls A (lv_sub hl [2, 3, 1, 4, 5, 6, 0] rfl) hF
  have J494 : ∀ (k347 : Nat → Int32 → Int32 → Int32 → mo_M Int32) (hk347 : ∀ (x0 : Nat) (x1 : Int32) (x5 : Int32) (x6 : Int32) (h : mo_H) (H : Heap) (locs : List Loc) (ls : Array Slot), mo_A D dA b0 s.heap h0 h H locs → lv_has ls 10 [(0, .ref x0), (1, .int x1), (5, .int x5), (6, .int x6)] → (k347 x0 x1 x5 x6).1 h = some (z, h2) → W p l e R s m args below meth c H locs (h.2.1 - h0.2.1) (h.2.2 - h0.2.2) Q (F0 m 347 ls [])) (x0 : Nat) (x1 : Int32) (x6 : Int32) (x7 : Int32) (x8 : Int32) (h : mo_H) (H : Heap) (locs : List Loc) (ls : Array Slot), mo_A D dA b0 s.heap h0 h H locs → lv_has ls 10 [(0, .ref x0), (1, .int x1), (6, .int x6), (7, .int x7), (8, .int x8)] → (F_X11_undisturbed_494 k347 x0 x1 x6 x7 x8).1 h = some (z, h2) → W p l e R s m args below meth c H locs (h.2.1 - h0.2.1) (h.2.2 - h0.2.2) Q (F0 m 494 ls []) := by
    intro k347 hk347 x0 x1 x6 x7 x8 h H locs ls A hl hF
    unfold F_X11_undisturbed_494 at hF
    refine lv_iconst (v := (0 : Int32)) hx hb dX11_undisturbed_494 (by decide) ?_
    exact J495 k347 hk347 x0 x1 x6 x7 x8 (0 : Int32) h H locs ls A (lv_sub hl [0, 1, 2, 3, 4] rfl) hF
  have J557 : ∀   (x5 : Int32) (h : mo_H) (H : Heap) (locs : List Loc) (ls : Array Slot), mo_A D dA b0 s.heap h0 h H locs → lv_has ls 10 [(5, .int x5)] → (F_X11_undisturbed_557 x5).1 h = some (z, h2) → W p l e R s m args below meth c H locs (h.2.1 - h0.2.1) (h.2.2 - h0.2.2) Q (F0 m 557 ls []) := by
    intro  x5 h H locs ls A hl hF
    unfold F_X11_undisturbed_557 at hF
    refine lv_iload hx hb dX11_undisturbed_557 (lv_at hl 0 rfl) ?_
    refine lv_if_eq (tgt := 566) hx hb dX11_undisturbed_559 (by decide) (fun c8 => ?_) (fun c8 => ?_)
    · have hF := mo_ifT c8 hF
      refine lv_iconst (v := (0 : Int32)) hx hb dX11_undisturbed_566 (by decide) ?_
      rw [hQ]
      exact mo_iret C A hr hlocks dX11_undisturbed_567 hF
    · have hF := mo_ifF c8 hF
      refine lv_iconst (v := (1 : Int32)) hx hb dX11_undisturbed_562 (by decide) ?_
      refine lv_goto (tgt := 567) hx hb dX11_undisturbed_563 (by decide) ?_
      rw [hQ]
      exact mo_iret C A hr hlocks dX11_undisturbed_567 hF
  have J347 : ∀   (fu : Nat) (x0 : Nat) (x1 : Int32) (x5 : Int32) (x6 : Int32) (h : mo_H) (H : Heap) (locs : List Loc) (ls : Array Slot), mo_A D dA b0 s.heap h0 h H locs → lv_has ls 10 [(0, .ref x0), (1, .int x1), (5, .int x5), (6, .int x6)] → (F_X11_undisturbed_347 fu x0 x1 x5 x6).1 h = some (z, h2) → W p l e R s m args below meth c H locs (h.2.1 - h0.2.1) (h.2.2 - h0.2.2) Q (F0 m 347 ls []) := by
    intro  fu
    induction fu with
    | zero =>
      intro x0 x1 x5 x6 h H locs ls A hl hF
      unfold F_X11_undisturbed_347 at hF
      cases hF
    | succ fu ih =>
      intro x0 x1 x5 x6 h H locs ls A hl hF
      unfold F_X11_undisturbed_347 at hF
      refine lv_iload hx hb dX11_undisturbed_347 (lv_at hl 3 rfl) ?_
      refine lv_aload_n hx hb dX11_undisturbed_349 rfl (lv_at hl 0 rfl) ?_
      refine mo_wI C A (T := TX11) iX11 rfl 2 (by decide) tb_197 rfl dX11_undisturbed_350 hF (fun v9 hF => ?_)
      refine lv_icmp_ge (tgt := 557) hx hb dX11_undisturbed_353 (by decide) (fun c10 => ?_) (fun c10 => ?_)
      · have hF := mo_ifT c10 hF
        exact J557 x5 h H locs ls A (lv_sub hl [2] rfl) hF
      · have hF := mo_ifF c10 hF
        refine lv_iload hx hb dX11_undisturbed_356 (lv_at hl 2 rfl) ?_
        refine lv_if_eq (tgt := 557) hx hb dX11_undisturbed_358 (by decide) (fun c11 => ?_) (fun c11 => ?_)
        · have hF := mo_ifT c11 hF
          exact J557 x5 h H locs ls A (lv_sub hl [2] rfl) hF
        · have hF := mo_ifF c11 hF
          refine lv_iload hx hb dX11_undisturbed_361 (lv_at hl 3 rfl) ?_
          refine lv_istore (lv' := [(7, .int x6), (0, .ref x0), (1, .int x1), (5, .int x5), (6, .int x6)]) hx hb dX11_undisturbed_363 hl (by decide) rfl (fun ls hl => ?_)
          refine lv_bipush (v := (24 : Int32)) hx hb dX11_undisturbed_365 (by decide) ?_
          refine lv_iload hx hb dX11_undisturbed_367 (lv_at hl 4 rfl) ?_
          refine lv_iadd hx hb dX11_undisturbed_369 ?_
          refine lv_istore (lv' := [(8, .int ((24 : Int32) + x6)), (7, .int x6), (0, .ref x0), (1, .int x1), (5, .int x5), (6, .int x6)]) hx hb dX11_undisturbed_370 hl (by decide) rfl (fun ls hl => ?_)
          refine lv_aload_n hx hb dX11_undisturbed_372 rfl (lv_at hl 2 rfl) ?_
          refine mo_wR C A (T := TX11) iX11 rfl 4 (by decide) tb_123 rfl dX11_undisturbed_373 hF (fun v12 hF => ?_)
          refine lv_iload hx hb dX11_undisturbed_376 (lv_at hl 5 rfl) ?_
          refine mo_wla C A dX11_undisturbed_378 hF (fun v13 hF => ?_)
          refine lv_iload_n hx hb dX11_undisturbed_379 rfl (lv_at hl 3 rfl) ?_
          refine lv_icmp_ne (tgt := 551) hx hb dX11_undisturbed_380 (by decide) (fun c14 => ?_) (fun c14 => ?_)
          · have hF := mo_ifF c14 hF
            exact J551 (F_X11_undisturbed_347  fu) ih x0 x1 x5 x6 h H locs ls A (lv_sub hl [2, 3, 4, 5] rfl) hF
          · have hF := mo_ifT c14 hF
            refine lv_aload_n hx hb dX11_undisturbed_383 rfl (lv_at hl 2 rfl) ?_
            refine mo_wR C A (T := TX11) iX11 rfl 32 (by decide) tb_149 rfl dX11_undisturbed_384 hF (fun v15 hF => ?_)
            refine lv_iload hx hb dX11_undisturbed_387 (lv_at hl 1 rfl) ?_
            refine mo_wla C A dX11_undisturbed_389 hF (fun v16 hF => ?_)
            refine lv_aload_n hx hb dX11_undisturbed_390 rfl (lv_at hl 2 rfl) ?_
            refine mo_wR C A (T := TX11) iX11 rfl 32 (by decide) tb_149 rfl dX11_undisturbed_391 hF (fun v17 hF => ?_)
            refine lv_iload hx hb dX11_undisturbed_394 (lv_at hl 0 rfl) ?_
            refine mo_wla C A dX11_undisturbed_396 hF (fun v18 hF => ?_)
            refine lv_icmp_ne (tgt := 494) hx hb dX11_undisturbed_397 (by decide) (fun c19 => ?_) (fun c19 => ?_)
            · have hF := mo_ifF c19 hF
              exact J494 (F_X11_undisturbed_347  fu) ih x0 x1 x6 x6 ((24 : Int32) + x6) h H locs ls A (lv_sub hl [2, 3, 5, 1, 0] rfl) hF
            · have hF := mo_ifT c19 hF
              refine lv_aload_n hx hb dX11_undisturbed_400 rfl (lv_at hl 2 rfl) ?_
              refine mo_wR C A (T := TX11) iX11 rfl 35 (by decide) tb_152 rfl dX11_undisturbed_401 hF (fun v20 hF => ?_)
              refine lv_iload hx hb dX11_undisturbed_404 (lv_at hl 1 rfl) ?_
              refine mo_wla C A dX11_undisturbed_406 hF (fun v21 hF => ?_)
              refine lv_aload_n hx hb dX11_undisturbed_407 rfl (lv_at hl 2 rfl) ?_
              refine mo_wR C A (T := TX11) iX11 rfl 35 (by decide) tb_152 rfl dX11_undisturbed_408 hF (fun v22 hF => ?_)
              refine lv_iload hx hb dX11_undisturbed_411 (lv_at hl 0 rfl) ?_
              refine mo_wla C A dX11_undisturbed_413 hF (fun v23 hF => ?_)
              refine lv_icmp_ne (tgt := 494) hx hb dX11_undisturbed_414 (by decide) (fun c24 => ?_) (fun c24 => ?_)
              · have hF := mo_ifF c24 hF
                exact J494 (F_X11_undisturbed_347  fu) ih x0 x1 x6 x6 ((24 : Int32) + x6) h H locs ls A (lv_sub hl [2, 3, 5, 1, 0] rfl) hF
              · have hF := mo_ifT c24 hF
                refine lv_aload_n hx hb dX11_undisturbed_417 rfl (lv_at hl 2 rfl) ?_
                refine lv_aload_n hx hb dX11_undisturbed_418 rfl (lv_at hl 2 rfl) ?_
                refine mo_wR C A (T := TX11) iX11 rfl 30 (by decide) tb_147 rfl dX11_undisturbed_419 hF (fun v25 hF => ?_)
                refine lv_iload hx hb dX11_undisturbed_422 (lv_at hl 1 rfl) ?_
                refine mo_wla C A dX11_undisturbed_424 hF (fun v26 hF => ?_)
                refine lv_aload_n hx hb dX11_undisturbed_425 rfl (lv_at hl 2 rfl) ?_
                refine mo_wR C A (T := TX11) iX11 rfl 30 (by decide) tb_147 rfl dX11_undisturbed_426 hF (fun v27 hF => ?_)
                refine lv_iload hx hb dX11_undisturbed_429 (lv_at hl 0 rfl) ?_
                refine mo_wla C A dX11_undisturbed_431 hF (fun v28 hF => ?_)
                refine lv_aload_n hx hb dX11_undisturbed_432 rfl (lv_at hl 2 rfl) ?_
                refine mo_wR C A (T := TX11) iX11 rfl 32 (by decide) tb_149 rfl dX11_undisturbed_433 hF (fun v29 hF => ?_)
                refine lv_iload hx hb dX11_undisturbed_436 (lv_at hl 1 rfl) ?_
                refine mo_wla C A dX11_undisturbed_438 hF (fun v30 hF => ?_)
                refine mo_cV (n := 3) (As := [.int v26, .int v28, .int v30]) (rest := []) C A hml hl.1 (c_X11_areAlike l D dA b0 x0 v26 v28 v30) (ci := 11) (q := (RX11, TX11, 56)) rfl (fun _ e => (mo_ckE e).1) (tb_v tb_777 tb_778 tb_779 tb_5 tb_780) rfl (by decide +kernel) ⟨Nat.le_trans (by decide) hfr, Nat.le_trans (Nat.le_of_ble_eq_true rfl) hlo⟩ rfl (Nat.le_of_ble_eq_true rfl) rfl dX11_undisturbed_439 hF (fun v31 h H locs hF A => ?_)
                show W _ _ _ _ _ _ _ _ _ _ _ _ _ _ _ (F0 m 442 ls [.int v31])
                refine lv_if_eq (tgt := 494) hx hb dX11_undisturbed_442 (by decide) (fun c32 => ?_) (fun c32 => ?_)
                · have hF := mo_ifT c32 hF
                  exact J494 (F_X11_undisturbed_347  fu) ih x0 x1 x6 x6 ((24 : Int32) + x6) h H locs ls A (lv_sub hl [2, 3, 5, 1, 0] rfl) hF
                · have hF := mo_ifF c32 hF
                  refine lv_aload_n hx hb dX11_undisturbed_445 rfl (lv_at hl 2 rfl) ?_
                  refine lv_aload_n hx hb dX11_undisturbed_446 rfl (lv_at hl 2 rfl) ?_
                  refine mo_wR C A (T := TX11) iX11 rfl 33 (by decide) tb_150 rfl dX11_undisturbed_447 hF (fun v33 hF => ?_)
                  refine lv_iload hx hb dX11_undisturbed_450 (lv_at hl 1 rfl) ?_
                  refine mo_wla C A dX11_undisturbed_452 hF (fun v34 hF => ?_)
                  refine lv_aload_n hx hb dX11_undisturbed_453 rfl (lv_at hl 2 rfl) ?_
                  refine mo_wR C A (T := TX11) iX11 rfl 33 (by decide) tb_150 rfl dX11_undisturbed_454 hF (fun v35 hF => ?_)
                  refine lv_iload hx hb dX11_undisturbed_457 (lv_at hl 0 rfl) ?_
                  refine mo_wla C A dX11_undisturbed_459 hF (fun v36 hF => ?_)
                  refine lv_aload_n hx hb dX11_undisturbed_460 rfl (lv_at hl 2 rfl) ?_
                  refine mo_wR C A (T := TX11) iX11 rfl 35 (by decide) tb_152 rfl dX11_undisturbed_461 hF (fun v37 hF => ?_)
                  refine lv_iload hx hb dX11_undisturbed_464 (lv_at hl 1 rfl) ?_
                  refine mo_wla C A dX11_undisturbed_466 hF (fun v38 hF => ?_)
                  refine mo_cV (n := 3) (As := [.int v34, .int v36, .int v38]) (rest := []) C A hml hl.1 (c_X11_areAlike l D dA b0 x0 v34 v36 v38) (ci := 11) (q := (RX11, TX11, 56)) rfl (fun _ e => (mo_ckE e).1) (tb_v tb_777 tb_778 tb_779 tb_5 tb_780) rfl (by decide +kernel) ⟨Nat.le_trans (by decide) hfr, Nat.le_trans (Nat.le_of_ble_eq_true rfl) hlo⟩ rfl (Nat.le_of_ble_eq_true rfl) rfl dX11_undisturbed_467 hF (fun v39 h H locs hF A => ?_)
                  show W _ _ _ _ _ _ _ _ _ _ _ _ _ _ _ (F0 m 470 ls [.int v39])
                  refine lv_if_eq (tgt := 494) hx hb dX11_undisturbed_470 (by decide) (fun c40 => ?_) (fun c40 => ?_)
                  · have hF := mo_ifT c40 hF
                    exact J494 (F_X11_undisturbed_347  fu) ih x0 x1 x6 x6 ((24 : Int32) + x6) h H locs ls A (lv_sub hl [2, 3, 5, 1, 0] rfl) hF
                  · have hF := mo_ifF c40 hF
                    refine lv_aload_n hx hb dX11_undisturbed_473 rfl (lv_at hl 2 rfl) ?_
                    refine lv_iconst (v := (0 : Int32)) hx hb dX11_undisturbed_474 (by decide) ?_
                    refine lv_iload hx hb dX11_undisturbed_475 (lv_at hl 1 rfl) ?_
                    refine mo_cV (n := 2) (As := [.int (0 : Int32), .int x6]) (rest := []) C A hml hl.1 (c_X11_ageOf l D dA b0 x0 (0 : Int32) x6) (ci := 11) (q := (RX11, TX11, 56)) rfl (fun _ e => (mo_ckE e).1) (tb_v tb_572 tb_573 tb_574 tb_5 tb_575) rfl (by decide +kernel) ⟨Nat.le_trans (by decide) hfr, Nat.le_trans (Nat.le_of_ble_eq_true rfl) hlo⟩ rfl (Nat.le_of_ble_eq_true rfl) rfl dX11_undisturbed_477 hF (fun v41 h H locs hF A => ?_)
                    show W _ _ _ _ _ _ _ _ _ _ _ _ _ _ _ (F0 m 480 ls [.int v41])
                    refine lv_aload_n hx hb dX11_undisturbed_480 rfl (lv_at hl 2 rfl) ?_
                    refine lv_iconst (v := (2 : Int32)) hx hb dX11_undisturbed_481 (by decide) ?_
                    refine lv_iload hx hb dX11_undisturbed_482 (lv_at hl 0 rfl) ?_
                    refine mo_cV (n := 2) (As := [.int (2 : Int32), .int ((24 : Int32) + x6)]) (rest := [.int v41]) C A hml hl.1 (c_X11_ageOf l D dA b0 x0 (2 : Int32) ((24 : Int32) + x6)) (ci := 11) (q := (RX11, TX11, 56)) rfl (fun _ e => (mo_ckE e).1) (tb_v tb_572 tb_573 tb_574 tb_5 tb_575) rfl (by decide +kernel) ⟨Nat.le_trans (by decide) hfr, Nat.le_trans (Nat.le_of_ble_eq_true rfl) hlo⟩ rfl (Nat.le_of_ble_eq_true rfl) rfl dX11_undisturbed_484 hF (fun v42 h H locs hF A => ?_)
                    show W _ _ _ _ _ _ _ _ _ _ _ _ _ _ _ (F0 m 487 ls [.int v42, .int v41])
                    refine lv_icmp_ne (tgt := 494) hx hb dX11_undisturbed_487 (by decide) (fun c43 => ?_) (fun c43 => ?_)
                    · have hF := mo_ifF c43 hF
                      exact J494 (F_X11_undisturbed_347  fu) ih x0 x1 x6 x6 ((24 : Int32) + x6) h H locs ls A (lv_sub hl [2, 3, 5, 1, 0] rfl) hF
                    · have hF := mo_ifT c43 hF
                      refine lv_iconst (v := (1 : Int32)) hx hb dX11_undisturbed_490 (by decide) ?_
                      refine lv_goto (tgt := 495) hx hb dX11_undisturbed_491 (by decide) ?_
                      exact J495 (F_X11_undisturbed_347  fu) ih x0 x1 x6 x6 ((24 : Int32) + x6) (1 : Int32) h H locs ls A (lv_sub hl [2, 3, 5, 1, 0] rfl) hF
  have J344 : ∀   (x0 : Nat) (x1 : Int32) (x5 : Int32) (h : mo_H) (H : Heap) (locs : List Loc) (ls : Array Slot), mo_A D dA b0 s.heap h0 h H locs → lv_has ls 10 [(0, .ref x0), (1, .int x1), (5, .int x5)] → (F_X11_undisturbed_344 x0 x1 x5).1 h = some (z, h2) → W p l e R s m args below meth c H locs (h.2.1 - h0.2.1) (h.2.2 - h0.2.2) Q (F0 m 344 ls []) := by
    intro  x0 x1 x5 h H locs ls A hl hF
    unfold F_X11_undisturbed_344 at hF
    refine lv_iconst (v := (0 : Int32)) hx hb dX11_undisturbed_344 (by decide) ?_
    refine lv_istore (lv' := [(6, .int (0 : Int32)), (0, .ref x0), (1, .int x1), (5, .int x5)]) hx hb dX11_undisturbed_345 hl (by decide) rfl (fun ls hl => ?_)
    exact J347 mo_fu x0 x1 x5 (0 : Int32) h H locs ls A (lv_sub hl [1, 2, 3, 0] rfl) hF
  have J285 : ∀   (fu : Nat) (x0 : Nat) (x1 : Int32) (x3 : Int32) (x4 : Int32) (x5 : Int32) (x6 : Int32) (h : mo_H) (H : Heap) (locs : List Loc) (ls : Array Slot), mo_A D dA b0 s.heap h0 h H locs → lv_has ls 10 [(0, .ref x0), (1, .int x1), (3, .int x3), (4, .int x4), (5, .int x5), (6, .int x6)] → (F_X11_undisturbed_285 fu x0 x1 x3 x4 x5 x6).1 h = some (z, h2) → W p l e R s m args below meth c H locs (h.2.1 - h0.2.1) (h.2.2 - h0.2.2) Q (F0 m 285 ls []) := by
    intro  fu
    induction fu with
    | zero =>
      intro x0 x1 x3 x4 x5 x6 h H locs ls A hl hF
      unfold F_X11_undisturbed_285 at hF
      cases hF
    | succ fu ih =>
      intro x0 x1 x3 x4 x5 x6 h H locs ls A hl hF
      unfold F_X11_undisturbed_285 at hF
      refine lv_iload hx hb dX11_undisturbed_285 (lv_at hl 5 rfl) ?_
      refine lv_aload_n hx hb dX11_undisturbed_287 rfl (lv_at hl 0 rfl) ?_
      refine mo_wR C A (T := TX11) iX11 rfl 26 (by decide) tb_143 rfl dX11_undisturbed_288 hF (fun v44 hF => ?_)
      refine lv_iload_n hx hb dX11_undisturbed_291 rfl (lv_at hl 2 rfl) ?_
      refine mo_wla C A dX11_undisturbed_292 hF (fun v45 hF => ?_)
      refine lv_icmp_ge (tgt := 344) hx hb dX11_undisturbed_293 (by decide) (fun c46 => ?_) (fun c46 => ?_)
      · have hF := mo_ifT c46 hF
        exact J344 x0 x1 x5 h H locs ls A (lv_sub hl [0, 1, 4] rfl) hF
      · have hF := mo_ifF c46 hF
        refine lv_iload hx hb dX11_undisturbed_296 (lv_at hl 4 rfl) ?_
        refine lv_if_eq (tgt := 335) hx hb dX11_undisturbed_298 (by decide) (fun c47 => ?_) (fun c47 => ?_)
        · have hF := mo_ifT c47 hF
          exact J335 (F_X11_undisturbed_285  fu) ih x0 x1 x3 x4 x6 h H locs ls A (lv_sub hl [0, 1, 2, 3, 5] rfl) hF
        · have hF := mo_ifF c47 hF
          refine lv_aload_n hx hb dX11_undisturbed_301 rfl (lv_at hl 0 rfl) ?_
          refine mo_wR C A (T := TX11) iX11 rfl 25 (by decide) tb_142 rfl dX11_undisturbed_302 hF (fun v48 hF => ?_)
          refine lv_sipush (v := (200 : Int32)) hx hb dX11_undisturbed_305 (by decide) ?_
          refine lv_iload_n hx hb dX11_undisturbed_308 rfl (lv_at hl 2 rfl) ?_
          refine lv_imul hx hb dX11_undisturbed_309 ?_
          refine lv_iload hx hb dX11_undisturbed_310 (lv_at hl 5 rfl) ?_
          refine lv_iadd hx hb dX11_undisturbed_312 ?_
          refine mo_wla C A dX11_undisturbed_313 hF (fun v49 hF => ?_)
          refine lv_aload_n hx hb dX11_undisturbed_314 rfl (lv_at hl 0 rfl) ?_
          refine mo_wR C A (T := TX11) iX11 rfl 25 (by decide) tb_142 rfl dX11_undisturbed_315 hF (fun v50 hF => ?_)
          refine lv_sipush (v := (200 : Int32)) hx hb dX11_undisturbed_318 (by decide) ?_
          refine lv_iload hx hb dX11_undisturbed_321 (lv_at hl 3 rfl) ?_
          refine lv_imul hx hb dX11_undisturbed_323 ?_
          refine lv_iload hx hb dX11_undisturbed_324 (lv_at hl 5 rfl) ?_
          refine lv_iadd hx hb dX11_undisturbed_326 ?_
          refine mo_wla C A dX11_undisturbed_327 hF (fun v51 hF => ?_)
          refine lv_icmp_ne (tgt := 335) hx hb dX11_undisturbed_328 (by decide) (fun c52 => ?_) (fun c52 => ?_)
          · have hF := mo_ifF c52 hF
            exact J335 (F_X11_undisturbed_285  fu) ih x0 x1 x3 x4 x6 h H locs ls A (lv_sub hl [0, 1, 2, 3, 5] rfl) hF
          · have hF := mo_ifT c52 hF
            refine lv_iconst (v := (1 : Int32)) hx hb dX11_undisturbed_331 (by decide) ?_
            refine lv_goto (tgt := 336) hx hb dX11_undisturbed_332 (by decide) ?_
            exact J336 (F_X11_undisturbed_285  fu) ih x0 x1 x3 x4 x6 (1 : Int32) h H locs ls A (lv_sub hl [0, 1, 2, 3, 5] rfl) hF
  have J282 : ∀   (x0 : Nat) (x1 : Int32) (x3 : Int32) (x4 : Int32) (x5 : Int32) (h : mo_H) (H : Heap) (locs : List Loc) (ls : Array Slot), mo_A D dA b0 s.heap h0 h H locs → lv_has ls 10 [(0, .ref x0), (1, .int x1), (3, .int x3), (4, .int x4), (5, .int x5)] → (F_X11_undisturbed_282 x0 x1 x3 x4 x5).1 h = some (z, h2) → W p l e R s m args below meth c H locs (h.2.1 - h0.2.1) (h.2.2 - h0.2.2) Q (F0 m 282 ls []) := by
    intro  x0 x1 x3 x4 x5 h H locs ls A hl hF
    unfold F_X11_undisturbed_282 at hF
    refine lv_iconst (v := (0 : Int32)) hx hb dX11_undisturbed_282 (by decide) ?_
    refine lv_istore (lv' := [(6, .int (0 : Int32)), (0, .ref x0), (1, .int x1), (3, .int x3), (4, .int x4), (5, .int x5)]) hx hb dX11_undisturbed_283 hl (by decide) rfl (fun ls hl => ?_)
    exact J285 mo_fu x0 x1 x3 x4 x5 (0 : Int32) h H locs ls A (lv_sub hl [1, 2, 3, 4, 5, 0] rfl) hF
  have J229 : ∀   (fu : Nat) (x0 : Nat) (x1 : Int32) (x3 : Int32) (x4 : Int32) (x5 : Int32) (x6 : Int32) (h : mo_H) (H : Heap) (locs : List Loc) (ls : Array Slot), mo_A D dA b0 s.heap h0 h H locs → lv_has ls 10 [(0, .ref x0), (1, .int x1), (3, .int x3), (4, .int x4), (5, .int x5), (6, .int x6)] → (F_X11_undisturbed_229 fu x0 x1 x3 x4 x5 x6).1 h = some (z, h2) → W p l e R s m args below meth c H locs (h.2.1 - h0.2.1) (h.2.2 - h0.2.2) Q (F0 m 229 ls []) := by
    intro  fu
    induction fu with
    | zero =>
      intro x0 x1 x3 x4 x5 x6 h H locs ls A hl hF
      unfold F_X11_undisturbed_229 at hF
      cases hF
    | succ fu ih =>
      intro x0 x1 x3 x4 x5 x6 h H locs ls A hl hF
      unfold F_X11_undisturbed_229 at hF
      refine lv_iload hx hb dX11_undisturbed_229 (lv_at hl 5 rfl) ?_
      refine lv_bipush (v := (32 : Int32)) hx hb dX11_undisturbed_231 (by decide) ?_
      refine lv_icmp_ge (tgt := 282) hx hb dX11_undisturbed_233 (by decide) (fun c53 => ?_) (fun c53 => ?_)
      · have hF := mo_ifT c53 hF
        exact J282 x0 x1 x3 x4 x5 h H locs ls A (lv_sub hl [0, 1, 2, 3, 4] rfl) hF
      · have hF := mo_ifF c53 hF
        refine lv_iload hx hb dX11_undisturbed_236 (lv_at hl 4 rfl) ?_
        refine lv_if_eq (tgt := 273) hx hb dX11_undisturbed_238 (by decide) (fun c54 => ?_) (fun c54 => ?_)
        · have hF := mo_ifT c54 hF
          exact J273 (F_X11_undisturbed_229  fu) ih x0 x1 x3 x4 x6 h H locs ls A (lv_sub hl [0, 1, 2, 3, 5] rfl) hF
        · have hF := mo_ifF c54 hF
          refine lv_aload_n hx hb dX11_undisturbed_241 rfl (lv_at hl 0 rfl) ?_
          refine mo_wR C A (T := TX11) iX11 rfl 20 (by decide) tb_137 rfl dX11_undisturbed_242 hF (fun v55 hF => ?_)
          refine lv_bipush (v := (32 : Int32)) hx hb dX11_undisturbed_245 (by decide) ?_
          refine lv_iload_n hx hb dX11_undisturbed_247 rfl (lv_at hl 2 rfl) ?_
          refine lv_imul hx hb dX11_undisturbed_248 ?_
          refine lv_iload hx hb dX11_undisturbed_249 (lv_at hl 5 rfl) ?_
          refine lv_iadd hx hb dX11_undisturbed_251 ?_
          refine mo_wla C A dX11_undisturbed_252 hF (fun v56 hF => ?_)
          refine lv_aload_n hx hb dX11_undisturbed_253 rfl (lv_at hl 0 rfl) ?_
          refine mo_wR C A (T := TX11) iX11 rfl 20 (by decide) tb_137 rfl dX11_undisturbed_254 hF (fun v57 hF => ?_)
          refine lv_bipush (v := (32 : Int32)) hx hb dX11_undisturbed_257 (by decide) ?_
          refine lv_iload hx hb dX11_undisturbed_259 (lv_at hl 3 rfl) ?_
          refine lv_imul hx hb dX11_undisturbed_261 ?_
          refine lv_iload hx hb dX11_undisturbed_262 (lv_at hl 5 rfl) ?_
          refine lv_iadd hx hb dX11_undisturbed_264 ?_
          refine mo_wla C A dX11_undisturbed_265 hF (fun v58 hF => ?_)
          refine lv_icmp_ne (tgt := 273) hx hb dX11_undisturbed_266 (by decide) (fun c59 => ?_) (fun c59 => ?_)
          · have hF := mo_ifF c59 hF
            exact J273 (F_X11_undisturbed_229  fu) ih x0 x1 x3 x4 x6 h H locs ls A (lv_sub hl [0, 1, 2, 3, 5] rfl) hF
          · have hF := mo_ifT c59 hF
            refine lv_iconst (v := (1 : Int32)) hx hb dX11_undisturbed_269 (by decide) ?_
            refine lv_goto (tgt := 274) hx hb dX11_undisturbed_270 (by decide) ?_
            exact J274 (F_X11_undisturbed_229  fu) ih x0 x1 x3 x4 x6 (1 : Int32) h H locs ls A (lv_sub hl [0, 1, 2, 3, 5] rfl) hF
  have J226 : ∀   (x0 : Nat) (x1 : Int32) (x3 : Int32) (x4 : Int32) (x5 : Int32) (h : mo_H) (H : Heap) (locs : List Loc) (ls : Array Slot), mo_A D dA b0 s.heap h0 h H locs → lv_has ls 10 [(0, .ref x0), (1, .int x1), (3, .int x3), (4, .int x4), (5, .int x5)] → (F_X11_undisturbed_226 x0 x1 x3 x4 x5).1 h = some (z, h2) → W p l e R s m args below meth c H locs (h.2.1 - h0.2.1) (h.2.2 - h0.2.2) Q (F0 m 226 ls []) := by
    intro  x0 x1 x3 x4 x5 h H locs ls A hl hF
    unfold F_X11_undisturbed_226 at hF
    refine lv_iconst (v := (0 : Int32)) hx hb dX11_undisturbed_226 (by decide) ?_
    refine lv_istore (lv' := [(6, .int (0 : Int32)), (0, .ref x0), (1, .int x1), (3, .int x3), (4, .int x4), (5, .int x5)]) hx hb dX11_undisturbed_227 hl (by decide) rfl (fun ls hl => ?_)
    exact J229 mo_fu x0 x1 x3 x4 x5 (0 : Int32) h H locs ls A (lv_sub hl [1, 2, 3, 4, 5, 0] rfl) hF
  have J134 : ∀   (fu : Nat) (x0 : Nat) (x1 : Int32) (x3 : Int32) (x4 : Int32) (x5 : Int32) (x6 : Int32) (h : mo_H) (H : Heap) (locs : List Loc) (ls : Array Slot), mo_A D dA b0 s.heap h0 h H locs → lv_has ls 10 [(0, .ref x0), (1, .int x1), (3, .int x3), (4, .int x4), (5, .int x5), (6, .int x6)] → (F_X11_undisturbed_134 fu x0 x1 x3 x4 x5 x6).1 h = some (z, h2) → W p l e R s m args below meth c H locs (h.2.1 - h0.2.1) (h.2.2 - h0.2.2) Q (F0 m 134 ls []) := by
    intro  fu
    induction fu with
    | zero =>
      intro x0 x1 x3 x4 x5 x6 h H locs ls A hl hF
      unfold F_X11_undisturbed_134 at hF
      cases hF
    | succ fu ih =>
      intro x0 x1 x3 x4 x5 x6 h H locs ls A hl hF
      unfold F_X11_undisturbed_134 at hF
      refine lv_iload hx hb dX11_undisturbed_134 (lv_at hl 5 rfl) ?_
      refine lv_bipush (v := (8 : Int32)) hx hb dX11_undisturbed_136 (by decide) ?_
      refine lv_icmp_ge (tgt := 226) hx hb dX11_undisturbed_138 (by decide) (fun c60 => ?_) (fun c60 => ?_)
      · have hF := mo_ifT c60 hF
        exact J226 x0 x1 x3 x4 x5 h H locs ls A (lv_sub hl [0, 1, 2, 3, 4] rfl) hF
      · have hF := mo_ifF c60 hF
        refine lv_iload hx hb dX11_undisturbed_141 (lv_at hl 4 rfl) ?_
        refine lv_if_eq (tgt := 217) hx hb dX11_undisturbed_143 (by decide) (fun c61 => ?_) (fun c61 => ?_)
        · have hF := mo_ifT c61 hF
          exact J217 (F_X11_undisturbed_134  fu) ih x0 x1 x3 x4 x6 h H locs ls A (lv_sub hl [0, 1, 2, 3, 5] rfl) hF
        · have hF := mo_ifF c61 hF
          refine lv_aload_n hx hb dX11_undisturbed_146 rfl (lv_at hl 0 rfl) ?_
          refine mo_wR C A (T := TX11) iX11 rfl 19 (by decide) tb_136 rfl dX11_undisturbed_147 hF (fun v62 hF => ?_)
          refine lv_bipush (v := (8 : Int32)) hx hb dX11_undisturbed_150 (by decide) ?_
          refine lv_iload_n hx hb dX11_undisturbed_152 rfl (lv_at hl 2 rfl) ?_
          refine lv_imul hx hb dX11_undisturbed_153 ?_
          refine lv_iload hx hb dX11_undisturbed_154 (lv_at hl 5 rfl) ?_
          refine lv_iadd hx hb dX11_undisturbed_156 ?_
          refine mo_wla C A dX11_undisturbed_157 hF (fun v63 hF => ?_)
          refine lv_aload_n hx hb dX11_undisturbed_158 rfl (lv_at hl 0 rfl) ?_
          refine mo_wR C A (T := TX11) iX11 rfl 19 (by decide) tb_136 rfl dX11_undisturbed_159 hF (fun v64 hF => ?_)
          refine lv_bipush (v := (8 : Int32)) hx hb dX11_undisturbed_162 (by decide) ?_
          refine lv_iload hx hb dX11_undisturbed_164 (lv_at hl 3 rfl) ?_
          refine lv_imul hx hb dX11_undisturbed_166 ?_
          refine lv_iload hx hb dX11_undisturbed_167 (lv_at hl 5 rfl) ?_
          refine lv_iadd hx hb dX11_undisturbed_169 ?_
          refine mo_wla C A dX11_undisturbed_170 hF (fun v65 hF => ?_)
          refine lv_icmp_ne (tgt := 217) hx hb dX11_undisturbed_171 (by decide) (fun c66 => ?_) (fun c66 => ?_)
          · have hF := mo_ifF c66 hF
            exact J217 (F_X11_undisturbed_134  fu) ih x0 x1 x3 x4 x6 h H locs ls A (lv_sub hl [0, 1, 2, 3, 5] rfl) hF
          · have hF := mo_ifT c66 hF
            refine lv_iload hx hb dX11_undisturbed_174 (lv_at hl 5 rfl) ?_
            refine lv_aload_n hx hb dX11_undisturbed_176 rfl (lv_at hl 0 rfl) ?_
            refine mo_wR C A (T := TX11) iX11 rfl 24 (by decide) tb_141 rfl dX11_undisturbed_177 hF (fun v67 hF => ?_)
            refine lv_iload_n hx hb dX11_undisturbed_180 rfl (lv_at hl 2 rfl) ?_
            refine mo_wla C A dX11_undisturbed_181 hF (fun v68 hF => ?_)
            refine lv_icmp_ge (tgt := 213) hx hb dX11_undisturbed_182 (by decide) (fun c69 => ?_) (fun c69 => ?_)
            · have hF := mo_ifT c69 hF
              exact J213 (F_X11_undisturbed_134  fu) ih x0 x1 x3 x4 x6 h H locs ls A (lv_sub hl [0, 1, 2, 3, 5] rfl) hF
            · have hF := mo_ifF c69 hF
              refine lv_aload_n hx hb dX11_undisturbed_185 rfl (lv_at hl 0 rfl) ?_
              refine mo_wR C A (T := TX11) iX11 rfl 23 (by decide) tb_140 rfl dX11_undisturbed_186 hF (fun v70 hF => ?_)
              refine lv_bipush (v := (8 : Int32)) hx hb dX11_undisturbed_189 (by decide) ?_
              refine lv_iload_n hx hb dX11_undisturbed_191 rfl (lv_at hl 2 rfl) ?_
              refine lv_imul hx hb dX11_undisturbed_192 ?_
              refine lv_iload hx hb dX11_undisturbed_193 (lv_at hl 5 rfl) ?_
              refine lv_iadd hx hb dX11_undisturbed_195 ?_
              refine mo_wla C A dX11_undisturbed_196 hF (fun v71 hF => ?_)
              refine lv_aload_n hx hb dX11_undisturbed_197 rfl (lv_at hl 0 rfl) ?_
              refine mo_wR C A (T := TX11) iX11 rfl 23 (by decide) tb_140 rfl dX11_undisturbed_198 hF (fun v72 hF => ?_)
              refine lv_bipush (v := (8 : Int32)) hx hb dX11_undisturbed_201 (by decide) ?_
              refine lv_iload hx hb dX11_undisturbed_203 (lv_at hl 3 rfl) ?_
              refine lv_imul hx hb dX11_undisturbed_205 ?_
              refine lv_iload hx hb dX11_undisturbed_206 (lv_at hl 5 rfl) ?_
              refine lv_iadd hx hb dX11_undisturbed_208 ?_
              refine mo_wla C A dX11_undisturbed_209 hF (fun v73 hF => ?_)
              refine lv_icmp_ne (tgt := 217) hx hb dX11_undisturbed_210 (by decide) (fun c74 => ?_) (fun c74 => ?_)
              · have hF := mo_ifF c74 hF
                exact J217 (F_X11_undisturbed_134  fu) ih x0 x1 x3 x4 x6 h H locs ls A (lv_sub hl [0, 1, 2, 3, 5] rfl) hF
              · have hF := mo_ifT c74 hF
                exact J213 (F_X11_undisturbed_134  fu) ih x0 x1 x3 x4 x6 h H locs ls A (lv_sub hl [0, 1, 2, 3, 5] rfl) hF
  have J129 : ∀   (x0 : Nat) (x1 : Int32) (x3 : Int32) (x4 : Int32) (s0 : Int32) (h : mo_H) (H : Heap) (locs : List Loc) (ls : Array Slot), mo_A D dA b0 s.heap h0 h H locs → lv_has ls 10 [(0, .ref x0), (1, .int x1), (3, .int x3), (4, .int x4)] → (F_X11_undisturbed_129 x0 x1 x3 x4 s0).1 h = some (z, h2) → W p l e R s m args below meth c H locs (h.2.1 - h0.2.1) (h.2.2 - h0.2.2) Q (F0 m 129 ls [.int s0]) := by
    intro  x0 x1 x3 x4 s0 h H locs ls A hl hF
    unfold F_X11_undisturbed_129 at hF
    refine lv_istore (lv' := [(5, .int s0), (0, .ref x0), (1, .int x1), (3, .int x3), (4, .int x4)]) hx hb dX11_undisturbed_129 hl (by decide) rfl (fun ls hl => ?_)
    refine lv_iconst (v := (0 : Int32)) hx hb dX11_undisturbed_131 (by decide) ?_
    refine lv_istore (lv' := [(6, .int (0 : Int32)), (5, .int s0), (0, .ref x0), (1, .int x1), (3, .int x3), (4, .int x4)]) hx hb dX11_undisturbed_132 hl (by decide) rfl (fun ls hl => ?_)
    exact J134 mo_fu x0 x1 x3 x4 s0 (0 : Int32) h H locs ls A (lv_sub hl [2, 3, 4, 5, 1, 0] rfl) hF
  have J128 : ∀   (x0 : Nat) (x1 : Int32) (x3 : Int32) (x4 : Int32) (h : mo_H) (H : Heap) (locs : List Loc) (ls : Array Slot), mo_A D dA b0 s.heap h0 h H locs → lv_has ls 10 [(0, .ref x0), (1, .int x1), (3, .int x3), (4, .int x4)] → (F_X11_undisturbed_128 x0 x1 x3 x4).1 h = some (z, h2) → W p l e R s m args below meth c H locs (h.2.1 - h0.2.1) (h.2.2 - h0.2.2) Q (F0 m 128 ls []) := by
    intro  x0 x1 x3 x4 h H locs ls A hl hF
    unfold F_X11_undisturbed_128 at hF
    refine lv_iconst (v := (0 : Int32)) hx hb dX11_undisturbed_128 (by decide) ?_
    exact J129 x0 x1 x3 x4 (0 : Int32) h H locs ls A (lv_sub hl [0, 1, 2, 3] rfl) hF
  unfold F_X11_undisturbed at hF
  obtain ⟨-, hF⟩ := mo_ckE hF
  have E : ∀ (h : mo_H) (H : Heap) (locs : List Loc), (mo_b (mo_gI x0 11 13) fun v75 => (if v75 = 0 then mo_ret (-1 : Int32) else mo_b (F_X11_isDomain x0 x1) fun v77 => (if v77 = 0 then mo_ret (-1 : Int32) else mo_b (mo_gR x0 11 53) fun v79 => mo_b (F_X11_choose x0 x1 v79) fun v80 => mo_b (mo_gR x0 11 53) fun v81 => mo_b (F_X11_again x0 (2 : Int32) v81) fun v82 => mo_b (mo_gR x0 11 21) fun v83 => mo_b (mo_la 0 v83 x1) fun v84 => mo_b (mo_gR x0 11 21) fun v85 => mo_b (mo_la 0 v85 ((12 : Int32) + x1)) fun v86 => (if v84 = v86 then mo_b (mo_gR x0 11 22) fun v88 => mo_b (mo_la 0 v88 x1) fun v89 => mo_b (mo_gR x0 11 22) fun v90 => mo_b (mo_la 0 v90 ((12 : Int32) + x1)) fun v91 => (if v89 = v91 then mo_b (mo_gR x0 11 24) fun v93 => mo_b (mo_la 0 v93 x1) fun v94 => mo_b (mo_gR x0 11 24) fun v95 => mo_b (mo_la 0 v95 ((12 : Int32) + x1)) fun v96 => (if v94 = v96 then mo_b (mo_gR x0 11 26) fun v98 => mo_b (mo_la 0 v98 x1) fun v99 => mo_b (mo_gR x0 11 26) fun v100 => mo_b (mo_la 0 v100 ((12 : Int32) + x1)) fun v101 => (if v99 = v101 then mo_b (mo_gR x0 11 27) fun v103 => mo_b (mo_la 0 v103 x1) fun v104 => mo_b (mo_gR x0 11 27) fun v105 => mo_b (mo_la 0 v105 ((12 : Int32) + x1)) fun v106 => (if v104 = v106 then F_X11_undisturbed_129 x0 x1 x1 ((12 : Int32) + x1) (1 : Int32) else F_X11_undisturbed_128 x0 x1 x1 ((12 : Int32) + x1)) else F_X11_undisturbed_128 x0 x1 x1 ((12 : Int32) + x1)) else F_X11_undisturbed_128 x0 x1 x1 ((12 : Int32) + x1)) else F_X11_undisturbed_128 x0 x1 x1 ((12 : Int32) + x1)) else F_X11_undisturbed_128 x0 x1 x1 ((12 : Int32) + x1))))).1 h = some (z, h2) → mo_A D dA b0 s.heap h0 h H locs → W p l e R s m args below meth c H locs (h.2.1 - h0.2.1) (h.2.2 - h0.2.2) Q (F0 m 0 ls []) := by
    intro h H locs hF A
    refine lv_aload_n hx hb dX11_undisturbed_0 rfl (lv_at hl 0 rfl) ?_
    refine mo_wI C A (T := TX11) iX11 rfl 13 (by decide) tb_196 rfl dX11_undisturbed_1 hF (fun v75 hF => ?_)
    refine lv_if_eq (tgt := 15) hx hb dX11_undisturbed_4 (by decide) (fun c76 => ?_) (fun c76 => ?_)
    · have hF := mo_ifT c76 hF
      refine lv_iconst (v := (-1 : Int32)) hx hb dX11_undisturbed_15 (by decide) ?_
      rw [hQ]
      exact mo_iret C A hr hlocks dX11_undisturbed_16 hF
    · have hF := mo_ifF c76 hF
      refine lv_aload_n hx hb dX11_undisturbed_7 rfl (lv_at hl 0 rfl) ?_
      refine lv_iload_n hx hb dX11_undisturbed_8 rfl (lv_at hl 1 rfl) ?_
      refine mo_cV (n := 1) (As := [.int x1]) (rest := []) C A hml hl.1 (c_X11_isDomain l D dA b0 x0 x1) (ci := 11) (q := (RX11, TX11, 56)) rfl (fun _ e => (mo_ckE e).1) (tb_v tb_198 tb_199 tb_200 tb_5 tb_201) rfl (by decide +kernel) ⟨Nat.le_trans (by decide) hfr, Nat.le_trans (Nat.le_of_ble_eq_true rfl) hlo⟩ rfl (Nat.le_of_ble_eq_true rfl) rfl dX11_undisturbed_9 hF (fun v77 h H locs hF A => ?_)
      show W _ _ _ _ _ _ _ _ _ _ _ _ _ _ _ (F0 m 12 ls [.int v77])
      refine lv_if_ne (tgt := 17) hx hb dX11_undisturbed_12 (by decide) (fun c78 => ?_) (fun c78 => ?_)
      · have hF := mo_ifF c78 hF
        refine lv_aload_n hx hb dX11_undisturbed_17 rfl (lv_at hl 0 rfl) ?_
        refine lv_iload_n hx hb dX11_undisturbed_18 rfl (lv_at hl 1 rfl) ?_
        refine lv_aload_n hx hb dX11_undisturbed_19 rfl (lv_at hl 0 rfl) ?_
        refine mo_wR C A (T := TX11) iX11 rfl 53 (by decide) tb_171 rfl dX11_undisturbed_20 hF (fun v79 hF => ?_)
        refine mo_cV (n := 2) (As := [.int x1, .ref v79]) (rest := []) C A hml hl.1 (c_X11_choose l D dA b0 x0 x1 v79) (ci := 11) (q := (RX11, TX11, 56)) rfl (fun _ e => (mo_ckE e).1) (tb_v tb_718 tb_719 tb_720 tb_5 tb_721) rfl (by decide +kernel) ⟨Nat.le_trans (by decide) hfr, Nat.le_trans (Nat.le_of_ble_eq_true rfl) hlo⟩ rfl (Nat.le_of_ble_eq_true rfl) rfl dX11_undisturbed_23 hF (fun v80 h H locs hF A => ?_)
        show W _ _ _ _ _ _ _ _ _ _ _ _ _ _ _ (F0 m 26 ls [.int v80])
        refine lv_istore_n (lv' := [(2, .int v80), (0, .ref x0), (1, .int x1)]) hx hb dX11_undisturbed_26 rfl hl (by decide) rfl (fun ls hl => ?_)
        refine lv_aload_n hx hb dX11_undisturbed_27 rfl (lv_at hl 1 rfl) ?_
        refine lv_iconst (v := (2 : Int32)) hx hb dX11_undisturbed_28 (by decide) ?_
        refine lv_aload_n hx hb dX11_undisturbed_29 rfl (lv_at hl 1 rfl) ?_
        refine mo_wR C A (T := TX11) iX11 rfl 53 (by decide) tb_171 rfl dX11_undisturbed_30 hF (fun v81 hF => ?_)
        refine mo_cV (n := 2) (As := [.int (2 : Int32), .ref v81]) (rest := []) C A hml hl.1 (c_X11_again l D dA b0 x0 (2 : Int32) v81) (ci := 11) (q := (RX11, TX11, 56)) rfl (fun _ e => (mo_ckE e).1) (tb_v tb_722 tb_723 tb_724 tb_5 tb_725) rfl (by decide +kernel) ⟨Nat.le_trans (by decide) hfr, Nat.le_trans (Nat.le_of_ble_eq_true rfl) hlo⟩ rfl (Nat.le_of_ble_eq_true rfl) rfl dX11_undisturbed_33 hF (fun v82 h H locs hF A => ?_)
        show W _ _ _ _ _ _ _ _ _ _ _ _ _ _ _ (F0 m 36 ls [])
        refine lv_iload_n hx hb dX11_undisturbed_36 rfl (lv_at hl 2 rfl) ?_
        refine lv_istore_n (lv' := [(3, .int x1), (2, .int v80), (0, .ref x0), (1, .int x1)]) hx hb dX11_undisturbed_37 rfl hl (by decide) rfl (fun ls hl => ?_)
        refine lv_bipush (v := (12 : Int32)) hx hb dX11_undisturbed_38 (by decide) ?_
        refine lv_iload_n hx hb dX11_undisturbed_40 rfl (lv_at hl 3 rfl) ?_
        refine lv_iadd hx hb dX11_undisturbed_41 ?_
        refine lv_istore (lv' := [(4, .int ((12 : Int32) + x1)), (3, .int x1), (2, .int v80), (0, .ref x0), (1, .int x1)]) hx hb dX11_undisturbed_42 hl (by decide) rfl (fun ls hl => ?_)
        refine lv_aload_n hx hb dX11_undisturbed_44 rfl (lv_at hl 3 rfl) ?_
        refine mo_wR C A (T := TX11) iX11 rfl 21 (by decide) tb_138 rfl dX11_undisturbed_45 hF (fun v83 hF => ?_)
        refine lv_iload_n hx hb dX11_undisturbed_48 rfl (lv_at hl 1 rfl) ?_
        refine mo_wla C A dX11_undisturbed_49 hF (fun v84 hF => ?_)
        refine lv_aload_n hx hb dX11_undisturbed_50 rfl (lv_at hl 3 rfl) ?_
        refine mo_wR C A (T := TX11) iX11 rfl 21 (by decide) tb_138 rfl dX11_undisturbed_51 hF (fun v85 hF => ?_)
        refine lv_iload hx hb dX11_undisturbed_54 (lv_at hl 0 rfl) ?_
        refine mo_wla C A dX11_undisturbed_56 hF (fun v86 hF => ?_)
        refine lv_icmp_ne (tgt := 128) hx hb dX11_undisturbed_57 (by decide) (fun c87 => ?_) (fun c87 => ?_)
        · have hF := mo_ifF c87 hF
          exact J128 x0 x1 x1 ((12 : Int32) + x1) h H locs ls A (lv_sub hl [3, 4, 1, 0] rfl) hF
        · have hF := mo_ifT c87 hF
          refine lv_aload_n hx hb dX11_undisturbed_60 rfl (lv_at hl 3 rfl) ?_
          refine mo_wR C A (T := TX11) iX11 rfl 22 (by decide) tb_139 rfl dX11_undisturbed_61 hF (fun v88 hF => ?_)
          refine lv_iload_n hx hb dX11_undisturbed_64 rfl (lv_at hl 1 rfl) ?_
          refine mo_wla C A dX11_undisturbed_65 hF (fun v89 hF => ?_)
          refine lv_aload_n hx hb dX11_undisturbed_66 rfl (lv_at hl 3 rfl) ?_
          refine mo_wR C A (T := TX11) iX11 rfl 22 (by decide) tb_139 rfl dX11_undisturbed_67 hF (fun v90 hF => ?_)
          refine lv_iload hx hb dX11_undisturbed_70 (lv_at hl 0 rfl) ?_
          refine mo_wla C A dX11_undisturbed_72 hF (fun v91 hF => ?_)
          refine lv_icmp_ne (tgt := 128) hx hb dX11_undisturbed_73 (by decide) (fun c92 => ?_) (fun c92 => ?_)
          · have hF := mo_ifF c92 hF
            exact J128 x0 x1 x1 ((12 : Int32) + x1) h H locs ls A (lv_sub hl [3, 4, 1, 0] rfl) hF
          · have hF := mo_ifT c92 hF
            refine lv_aload_n hx hb dX11_undisturbed_76 rfl (lv_at hl 3 rfl) ?_
            refine mo_wR C A (T := TX11) iX11 rfl 24 (by decide) tb_141 rfl dX11_undisturbed_77 hF (fun v93 hF => ?_)
            refine lv_iload_n hx hb dX11_undisturbed_80 rfl (lv_at hl 1 rfl) ?_
            refine mo_wla C A dX11_undisturbed_81 hF (fun v94 hF => ?_)
            refine lv_aload_n hx hb dX11_undisturbed_82 rfl (lv_at hl 3 rfl) ?_
            refine mo_wR C A (T := TX11) iX11 rfl 24 (by decide) tb_141 rfl dX11_undisturbed_83 hF (fun v95 hF => ?_)
            refine lv_iload hx hb dX11_undisturbed_86 (lv_at hl 0 rfl) ?_
            refine mo_wla C A dX11_undisturbed_88 hF (fun v96 hF => ?_)
            refine lv_icmp_ne (tgt := 128) hx hb dX11_undisturbed_89 (by decide) (fun c97 => ?_) (fun c97 => ?_)
            · have hF := mo_ifF c97 hF
              exact J128 x0 x1 x1 ((12 : Int32) + x1) h H locs ls A (lv_sub hl [3, 4, 1, 0] rfl) hF
            · have hF := mo_ifT c97 hF
              refine lv_aload_n hx hb dX11_undisturbed_92 rfl (lv_at hl 3 rfl) ?_
              refine mo_wR C A (T := TX11) iX11 rfl 26 (by decide) tb_143 rfl dX11_undisturbed_93 hF (fun v98 hF => ?_)
              refine lv_iload_n hx hb dX11_undisturbed_96 rfl (lv_at hl 1 rfl) ?_
              refine mo_wla C A dX11_undisturbed_97 hF (fun v99 hF => ?_)
              refine lv_aload_n hx hb dX11_undisturbed_98 rfl (lv_at hl 3 rfl) ?_
              refine mo_wR C A (T := TX11) iX11 rfl 26 (by decide) tb_143 rfl dX11_undisturbed_99 hF (fun v100 hF => ?_)
              refine lv_iload hx hb dX11_undisturbed_102 (lv_at hl 0 rfl) ?_
              refine mo_wla C A dX11_undisturbed_104 hF (fun v101 hF => ?_)
              refine lv_icmp_ne (tgt := 128) hx hb dX11_undisturbed_105 (by decide) (fun c102 => ?_) (fun c102 => ?_)
              · have hF := mo_ifF c102 hF
                exact J128 x0 x1 x1 ((12 : Int32) + x1) h H locs ls A (lv_sub hl [3, 4, 1, 0] rfl) hF
              · have hF := mo_ifT c102 hF
                refine lv_aload_n hx hb dX11_undisturbed_108 rfl (lv_at hl 3 rfl) ?_
                refine mo_wR C A (T := TX11) iX11 rfl 27 (by decide) tb_144 rfl dX11_undisturbed_109 hF (fun v103 hF => ?_)
                refine lv_iload_n hx hb dX11_undisturbed_112 rfl (lv_at hl 1 rfl) ?_
                refine mo_wla C A dX11_undisturbed_113 hF (fun v104 hF => ?_)
                refine lv_aload_n hx hb dX11_undisturbed_114 rfl (lv_at hl 3 rfl) ?_
                refine mo_wR C A (T := TX11) iX11 rfl 27 (by decide) tb_144 rfl dX11_undisturbed_115 hF (fun v105 hF => ?_)
                refine lv_iload hx hb dX11_undisturbed_118 (lv_at hl 0 rfl) ?_
                refine mo_wla C A dX11_undisturbed_120 hF (fun v106 hF => ?_)
                refine lv_icmp_ne (tgt := 128) hx hb dX11_undisturbed_121 (by decide) (fun c107 => ?_) (fun c107 => ?_)
                · have hF := mo_ifF c107 hF
                  exact J128 x0 x1 x1 ((12 : Int32) + x1) h H locs ls A (lv_sub hl [3, 4, 1, 0] rfl) hF
                · have hF := mo_ifT c107 hF
                  refine lv_iconst (v := (1 : Int32)) hx hb dX11_undisturbed_124 (by decide) ?_
                  refine lv_goto (tgt := 129) hx hb dX11_undisturbed_125 (by decide) ?_
                  exact J129 x0 x1 x1 ((12 : Int32) + x1) (1 : Int32) h H locs ls A (lv_sub hl [3, 4, 1, 0] rfl) hF
      · have hF := mo_ifT c78 hF
        refine lv_iconst (v := (-1 : Int32)) hx hb dX11_undisturbed_15 (by decide) ?_
        rw [hQ]
        exact mo_iret C A hr hlocks dX11_undisturbed_16 hF
  exact E h0 s.heap [] hF A
