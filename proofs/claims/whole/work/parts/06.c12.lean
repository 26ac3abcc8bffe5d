set_option maxHeartbeats 4000000 in
set_option maxRecDepth 100000 in
theorem c_X11_step (l : Launch) (D : va_G) (dA : Nat → ClassId) (b0 : Nat) (x0 : Nat) (x1 : Int32) (x2 : Int32) : mo_Met l yX11_step [Cond.code yX11_step cX11_step 6 none] 3 90 D dA b0 [.ref x0, .int x1, .int x2] (fun _ : Unit => none) (F_X11_step x0 x1 x2) := by
  refine mo_MetOf (own := RX11) (by decide) (Nat.le_of_ble_eq_true rfl) [(0, .ref x0), (1, .int x1), (2, .int x2)] rfl rfl ?_
  intro p e R s m args below meth c Q h0 h2 z ls hQ C hml hr hlocks hnm hfr hlo hF A hl
  have hx := C.1
  have hb := C.2.1
  have hown := C.2.2.1
  have hts := C.2.2.2.1
  have hK := C.2.2.2.2.1
  have iX11 := inlX11
  have J174 : ∀    (h : mo_H) (H : Heap) (locs : List Loc) (ls : Array Slot), mo_A D dA b0 s.heap h0 h H locs → lv_has ls 6 [] → (F_X11_step_174).1 h = some (z, h2) → W p l e R s m args below meth c H locs (h.2.1 - h0.2.1) (h.2.2 - h0.2.2) Q (F0 m 174 ls []) := by
    intro   h H locs ls A hl hF
    unfold F_X11_step_174 at hF
    refine lv_goto (tgt := 187) hx hb dX11_step_174 (by decide) ?_
    rw [hQ]
    exact mo_vret C A hr hlocks dX11_step_187 hF
  have J148 : ∀   (fu : Nat) (x0 : Nat) (x3 : Int32) (x5 : Int32) (h : mo_H) (H : Heap) (locs : List Loc) (ls : Array Slot), mo_A D dA b0 s.heap h0 h H locs → lv_has ls 6 [(0, .ref x0), (3, .int x3), (5, .int x5)] → (F_X11_step_148 fu x0 x3 x5).1 h = some (z, h2) → W p l e R s m args below meth c H locs (h.2.1 - h0.2.1) (h.2.2 - h0.2.2) Q (F0 m 148 ls []) := by
    intro  fu
    induction fu with
    | zero =>
      intro x0 x3 x5 h H locs ls A hl hF
      unfold F_X11_step_148 at hF
      cases hF
    | succ fu ih =>
      intro x0 x3 x5 h H locs ls A hl hF
      unfold F_X11_step_148 at hF
      refine lv_iload hx hb dX11_step_148 (lv_at hl 2 rfl) ?_
      refine lv_bipush (v := (32 : Int32)) hx hb dX11_step_150 (by decide) ?_
      refine lv_icmp_ge (tgt := 174) hx hb dX11_step_152 (by decide) (fun c1 => ?_) (fun c1 => ?_)
      · have hF := mo_ifT c1 hF
        exact J174 h H locs ls A (lv_sub hl [] rfl) hF
      · have hF := mo_ifF c1 hF
        refine lv_aload_n hx hb dX11_step_155 rfl (lv_at hl 0 rfl) ?_
        refine mo_wR C A (T := TX11) iX11 rfl 20 (by decide) tb_137 rfl dX11_step_156 hF (fun v2 hF => ?_)
        refine lv_bipush (v := (32 : Int32)) hx hb dX11_step_159 (by decide) ?_
        refine lv_iload_n hx hb dX11_step_161 rfl (lv_at hl 1 rfl) ?_
        refine lv_imul hx hb dX11_step_162 ?_
        refine lv_iload hx hb dX11_step_163 (lv_at hl 2 rfl) ?_
        refine lv_iadd hx hb dX11_step_165 ?_
        refine lv_iconst (v := (0 : Int32)) hx hb dX11_step_166 (by decide) ?_
        refine mo_wsa C A dX11_step_167 hF (fun h H locs hF A => ?_)
        refine lv_iinc (v := (x5 + (1 : Int32))) (lv' := [(5, .int (x5 + (1 : Int32))), (0, .ref x0), (3, .int x3)]) hx hb dX11_step_168 hl (k := 2) rfl rfl (by decide) rfl (fun ls hl => ?_)
        refine lv_goto (tgt := 148) hx hb dX11_step_171 (by decide) ?_
        exact ih x0 x3 (x5 + (1 : Int32)) h H locs ls A (lv_sub hl [1, 2, 0] rfl) hF
  have J145 : ∀   (x0 : Nat) (x3 : Int32) (h : mo_H) (H : Heap) (locs : List Loc) (ls : Array Slot), mo_A D dA b0 s.heap h0 h H locs → lv_has ls 6 [(0, .ref x0), (3, .int x3)] → (F_X11_step_145 x0 x3).1 h = some (z, h2) → W p l e R s m args below meth c H locs (h.2.1 - h0.2.1) (h.2.2 - h0.2.2) Q (F0 m 145 ls []) := by
    intro  x0 x3 h H locs ls A hl hF
    unfold F_X11_step_145 at hF
    refine lv_iconst (v := (0 : Int32)) hx hb dX11_step_145 (by decide) ?_
    refine lv_istore (lv' := [(5, .int (0 : Int32)), (0, .ref x0), (3, .int x3)]) hx hb dX11_step_146 hl (by decide) rfl (fun ls hl => ?_)
    exact J148 mo_fu x0 x3 (0 : Int32) h H locs ls A (lv_sub hl [1, 2, 0] rfl) hF
  have J119 : ∀   (fu : Nat) (x0 : Nat) (x3 : Int32) (x5 : Int32) (h : mo_H) (H : Heap) (locs : List Loc) (ls : Array Slot), mo_A D dA b0 s.heap h0 h H locs → lv_has ls 6 [(0, .ref x0), (3, .int x3), (5, .int x5)] → (F_X11_step_119 fu x0 x3 x5).1 h = some (z, h2) → W p l e R s m args below meth c H locs (h.2.1 - h0.2.1) (h.2.2 - h0.2.2) Q (F0 m 119 ls []) := by
    intro  fu
    induction fu with
    | zero =>
      intro x0 x3 x5 h H locs ls A hl hF
      unfold F_X11_step_119 at hF
      cases hF
    | succ fu ih =>
      intro x0 x3 x5 h H locs ls A hl hF
      unfold F_X11_step_119 at hF
      refine lv_iload hx hb dX11_step_119 (lv_at hl 2 rfl) ?_
      refine lv_bipush (v := (8 : Int32)) hx hb dX11_step_121 (by decide) ?_
      refine lv_icmp_ge (tgt := 145) hx hb dX11_step_123 (by decide) (fun c3 => ?_) (fun c3 => ?_)
      · have hF := mo_ifT c3 hF
        exact J145 x0 x3 h H locs ls A (lv_sub hl [0, 1] rfl) hF
      · have hF := mo_ifF c3 hF
        refine lv_aload_n hx hb dX11_step_126 rfl (lv_at hl 0 rfl) ?_
        refine mo_wR C A (T := TX11) iX11 rfl 19 (by decide) tb_136 rfl dX11_step_127 hF (fun v4 hF => ?_)
        refine lv_bipush (v := (8 : Int32)) hx hb dX11_step_130 (by decide) ?_
        refine lv_iload_n hx hb dX11_step_132 rfl (lv_at hl 1 rfl) ?_
        refine lv_imul hx hb dX11_step_133 ?_
        refine lv_iload hx hb dX11_step_134 (lv_at hl 2 rfl) ?_
        refine lv_iadd hx hb dX11_step_136 ?_
        refine lv_iconst (v := (0 : Int32)) hx hb dX11_step_137 (by decide) ?_
        refine mo_wsa C A dX11_step_138 hF (fun h H locs hF A => ?_)
        refine lv_iinc (v := (x5 + (1 : Int32))) (lv' := [(5, .int (x5 + (1 : Int32))), (0, .ref x0), (3, .int x3)]) hx hb dX11_step_139 hl (k := 2) rfl rfl (by decide) rfl (fun ls hl => ?_)
        refine lv_goto (tgt := 119) hx hb dX11_step_142 (by decide) ?_
        exact ih x0 x3 (x5 + (1 : Int32)) h H locs ls A (lv_sub hl [1, 2, 0] rfl) hF
  have J62 : ∀   (x0 : Nat) (x2 : Int32) (x3 : Int32) (s0 : Int32) (h : mo_H) (H : Heap) (locs : List Loc) (ls : Array Slot), mo_A D dA b0 s.heap h0 h H locs → lv_has ls 6 [(0, .ref x0), (2, .int x2), (3, .int x3)] → (F_X11_step_62 x0 x2 x3 s0).1 h = some (z, h2) → W p l e R s m args below meth c H locs (h.2.1 - h0.2.1) (h.2.2 - h0.2.2) Q (F0 m 62 ls [.int s0]) := by
    intro  x0 x2 x3 s0 h H locs ls A hl hF
    unfold F_X11_step_62 at hF
    refine lv_istore (lv' := [(4, .int s0), (0, .ref x0), (2, .int x2), (3, .int x3)]) hx hb dX11_step_62 hl (by decide) rfl (fun ls hl => ?_)
    refine lv_iload hx hb dX11_step_64 (lv_at hl 0 rfl) ?_
    refine lv_if_eq (tgt := 70) hx hb dX11_step_66 (by decide) (fun c5 => ?_) (fun c5 => ?_)
    · have hF := mo_ifT c5 hF
      refine lv_aload_n hx hb dX11_step_70 rfl (lv_at hl 1 rfl) ?_
      refine mo_wR C A (T := TX11) iX11 rfl 27 (by decide) tb_144 rfl dX11_step_71 hF (fun v6 hF => ?_)
      refine lv_iload_n hx hb dX11_step_74 rfl (lv_at hl 3 rfl) ?_
      refine lv_dup2_11 hx hb dX11_step_75 rfl rfl ?_
      refine mo_wla C A dX11_step_76 hF (fun v7 hF => ?_)
      refine lv_iconst (v := (1 : Int32)) hx hb dX11_step_77 (by decide) ?_
      refine lv_iadd hx hb dX11_step_78 ?_
      refine mo_wsa C A dX11_step_79 hF (fun h H locs hF A => ?_)
      refine lv_aload_n hx hb dX11_step_80 rfl (lv_at hl 1 rfl) ?_
      refine mo_wR C A (T := TX11) iX11 rfl 9 (by decide) tb_128 rfl dX11_step_81 hF (fun v8 hF => ?_)
      refine lv_iload_n hx hb dX11_step_84 rfl (lv_at hl 2 rfl) ?_
      refine mo_wla C A dX11_step_85 hF (fun v9 hF => ?_)
      refine lv_if_ne (tgt := 99) hx hb dX11_step_86 (by decide) (fun c10 => ?_) (fun c10 => ?_)
      · have hF := mo_ifF c10 hF
        refine lv_aload_n hx hb dX11_step_99 rfl (lv_at hl 1 rfl) ?_
        refine mo_wR C A (T := TX11) iX11 rfl 9 (by decide) tb_128 rfl dX11_step_100 hF (fun v11 hF => ?_)
        refine lv_iload_n hx hb dX11_step_103 rfl (lv_at hl 2 rfl) ?_
        refine mo_wla C A dX11_step_104 hF (fun v12 hF => ?_)
        refine lv_iconst (v := (1 : Int32)) hx hb dX11_step_105 (by decide) ?_
        refine lv_icmp_ne (tgt := 177) hx hb dX11_step_106 (by decide) (fun c13 => ?_) (fun c13 => ?_)
        · have hF := mo_ifF c13 hF
          refine lv_aload_n hx hb dX11_step_177 rfl (lv_at hl 1 rfl) ?_
          refine mo_wR C A (T := TX11) iX11 rfl 21 (by decide) tb_138 rfl dX11_step_178 hF (fun v14 hF => ?_)
          refine lv_iload_n hx hb dX11_step_181 rfl (lv_at hl 3 rfl) ?_
          refine lv_dup2_11 hx hb dX11_step_182 rfl rfl ?_
          refine mo_wla C A dX11_step_183 hF (fun v15 hF => ?_)
          refine lv_iconst (v := (1 : Int32)) hx hb dX11_step_184 (by decide) ?_
          refine lv_iadd hx hb dX11_step_185 ?_
          refine mo_wsa C A dX11_step_186 hF (fun h H locs hF A => ?_)
          rw [hQ]
          exact mo_vret C A hr hlocks dX11_step_187 hF
        · have hF := mo_ifT c13 hF
          refine lv_aload_n hx hb dX11_step_109 rfl (lv_at hl 1 rfl) ?_
          refine mo_wR C A (T := TX11) iX11 rfl 21 (by decide) tb_138 rfl dX11_step_110 hF (fun v16 hF => ?_)
          refine lv_iload_n hx hb dX11_step_113 rfl (lv_at hl 3 rfl) ?_
          refine lv_iconst (v := (0 : Int32)) hx hb dX11_step_114 (by decide) ?_
          refine mo_wsa C A dX11_step_115 hF (fun h H locs hF A => ?_)
          refine lv_iconst (v := (0 : Int32)) hx hb dX11_step_116 (by decide) ?_
          refine lv_istore (lv' := [(5, .int (0 : Int32)), (4, .int s0), (0, .ref x0), (2, .int x2), (3, .int x3)]) hx hb dX11_step_117 hl (by decide) rfl (fun ls hl => ?_)
          exact J119 mo_fu x0 x3 (0 : Int32) h H locs ls A (lv_sub hl [2, 4, 0] rfl) hF
      · have hF := mo_ifT c10 hF
        refine lv_aload_n hx hb dX11_step_89 rfl (lv_at hl 1 rfl) ?_
        refine mo_wR C A (T := TX11) iX11 rfl 22 (by decide) tb_139 rfl dX11_step_90 hF (fun v17 hF => ?_)
        refine lv_iload_n hx hb dX11_step_93 rfl (lv_at hl 3 rfl) ?_
        refine lv_iconst (v := (2 : Int32)) hx hb dX11_step_94 (by decide) ?_
        refine mo_wsa C A dX11_step_95 hF (fun h H locs hF A => ?_)
        refine lv_goto (tgt := 187) hx hb dX11_step_96 (by decide) ?_
        rw [hQ]
        exact mo_vret C A hr hlocks dX11_step_187 hF
    · have hF := mo_ifF c5 hF
      rw [hQ]
      exact mo_vret C A hr hlocks dX11_step_69 hF
  have J61 : ∀   (x0 : Nat) (x2 : Int32) (x3 : Int32) (h : mo_H) (H : Heap) (locs : List Loc) (ls : Array Slot), mo_A D dA b0 s.heap h0 h H locs → lv_has ls 6 [(0, .ref x0), (2, .int x2), (3, .int x3)] → (F_X11_step_61 x0 x2 x3).1 h = some (z, h2) → W p l e R s m args below meth c H locs (h.2.1 - h0.2.1) (h.2.2 - h0.2.2) Q (F0 m 61 ls []) := by
    intro  x0 x2 x3 h H locs ls A hl hF
    unfold F_X11_step_61 at hF
    refine lv_iconst (v := (0 : Int32)) hx hb dX11_step_61 (by decide) ?_
    exact J62 x0 x2 x3 (0 : Int32) h H locs ls A (lv_sub hl [0, 1, 2] rfl) hF
  unfold F_X11_step at hF
  obtain ⟨-, hF⟩ := mo_ckE hF
  have E : ∀ (h : mo_H) (H : Heap) (locs : List Loc), (mo_b (mo_gR x0 11 28) fun v18 => mo_b (mo_la 0 v18 (((6 : Int32) * x1) + x2)) fun v19 => mo_b (mo_sa 0 v18 (((6 : Int32) * x1) + x2) (v19 + (1 : Int32))) fun _ => mo_b (mo_gR x0 11 21) fun v20 => mo_b (mo_la 0 v20 (((6 : Int32) * x1) + x2)) fun v21 => mo_b (mo_gR x0 11 8) fun v22 => mo_b (mo_la 0 v22 x2) fun v23 => (if v23 ≤ v21 then F_X11_step_61 x0 x2 (((6 : Int32) * x1) + x2) else mo_b (mo_gR x0 11 7) fun v25 => mo_b (mo_gR x0 11 21) fun v26 => mo_b (mo_la 0 v26 (((6 : Int32) * x1) + x2)) fun v27 => mo_b (mo_la 0 v25 (((64 : Int32) * x2) + v27)) fun v28 => mo_b (F_X11_does x0 x1 x2 v28) fun v29 => (if v29 = 0 then F_X11_step_61 x0 x2 (((6 : Int32) * x1) + x2) else F_X11_step_62 x0 x2 (((6 : Int32) * x1) + x2) (1 : Int32)))).1 h = some (z, h2) → mo_A D dA b0 s.heap h0 h H locs → W p l e R s m args below meth c H locs (h.2.1 - h0.2.1) (h.2.2 - h0.2.2) Q (F0 m 0 ls []) := by
    intro h H locs hF A
    refine lv_bipush (v := (6 : Int32)) hx hb dX11_step_0 (by decide) ?_
    refine lv_iload_n hx hb dX11_step_2 rfl (lv_at hl 1 rfl) ?_
    refine lv_imul hx hb dX11_step_3 ?_
    refine lv_iload_n hx hb dX11_step_4 rfl (lv_at hl 2 rfl) ?_
    refine lv_iadd hx hb dX11_step_5 ?_
    refine lv_istore_n (lv' := [(3, .int (((6 : Int32) * x1) + x2)), (0, .ref x0), (1, .int x1), (2, .int x2)]) hx hb dX11_step_6 rfl hl (by decide) rfl (fun ls hl => ?_)
    refine lv_aload_n hx hb dX11_step_7 rfl (lv_at hl 1 rfl) ?_
    refine mo_wR C A (T := TX11) iX11 rfl 28 (by decide) tb_145 rfl dX11_step_8 hF (fun v18 hF => ?_)
    refine lv_iload_n hx hb dX11_step_11 rfl (lv_at hl 0 rfl) ?_
    refine lv_dup2_11 hx hb dX11_step_12 rfl rfl ?_
    refine mo_wla C A dX11_step_13 hF (fun v19 hF => ?_)
    refine lv_iconst (v := (1 : Int32)) hx hb dX11_step_14 (by decide) ?_
    refine lv_iadd hx hb dX11_step_15 ?_
    refine mo_wsa C A dX11_step_16 hF (fun h H locs hF A => ?_)
    refine lv_aload_n hx hb dX11_step_17 rfl (lv_at hl 1 rfl) ?_
    refine mo_wR C A (T := TX11) iX11 rfl 21 (by decide) tb_138 rfl dX11_step_18 hF (fun v20 hF => ?_)
    refine lv_iload_n hx hb dX11_step_21 rfl (lv_at hl 0 rfl) ?_
    refine mo_wla C A dX11_step_22 hF (fun v21 hF => ?_)
    refine lv_aload_n hx hb dX11_step_23 rfl (lv_at hl 1 rfl) ?_
    refine mo_wR C A (T := TX11) iX11 rfl 8 (by decide) tb_127 rfl dX11_step_24 hF (fun v22 hF => ?_)
    refine lv_iload_n hx hb dX11_step_27 rfl (lv_at hl 3 rfl) ?_
    refine mo_wla C A dX11_step_28 hF (fun v23 hF => ?_)
    refine lv_icmp_ge (tgt := 61) hx hb dX11_step_29 (by decide) (fun c24 => ?_) (fun c24 => ?_)
    · have hF := mo_ifT c24 hF
      exact J61 x0 x2 (((6 : Int32) * x1) + x2) h H locs ls A (lv_sub hl [1, 3, 0] rfl) hF
    · have hF := mo_ifF c24 hF
      refine lv_aload_n hx hb dX11_step_32 rfl (lv_at hl 1 rfl) ?_
      refine lv_iload_n hx hb dX11_step_33 rfl (lv_at hl 2 rfl) ?_
      refine lv_iload_n hx hb dX11_step_34 rfl (lv_at hl 3 rfl) ?_
      refine lv_aload_n hx hb dX11_step_35 rfl (lv_at hl 1 rfl) ?_
      refine mo_wR C A (T := TX11) iX11 rfl 7 (by decide) tb_126 rfl dX11_step_36 hF (fun v25 hF => ?_)
      refine lv_bipush (v := (64 : Int32)) hx hb dX11_step_39 (by decide) ?_
      refine lv_iload_n hx hb dX11_step_41 rfl (lv_at hl 3 rfl) ?_
      refine lv_imul hx hb dX11_step_42 ?_
      refine lv_aload_n hx hb dX11_step_43 rfl (lv_at hl 1 rfl) ?_
      refine mo_wR C A (T := TX11) iX11 rfl 21 (by decide) tb_138 rfl dX11_step_44 hF (fun v26 hF => ?_)
      refine lv_iload_n hx hb dX11_step_47 rfl (lv_at hl 0 rfl) ?_
      refine mo_wla C A dX11_step_48 hF (fun v27 hF => ?_)
      refine lv_iadd hx hb dX11_step_49 ?_
      refine mo_wla C A dX11_step_50 hF (fun v28 hF => ?_)
      refine mo_cV (n := 3) (As := [.int x1, .int x2, .int v28]) (rest := []) C A hml hl.1 (c_X11_does l D dA b0 x0 x1 x2 v28) (ci := 11) (q := (RX11, TX11, 56)) rfl (fun _ e => (mo_ckE e).1) (tb_v tb_555 tb_556 tb_557 tb_5 tb_558) rfl (by decide +kernel) ⟨Nat.le_trans (by decide) hfr, Nat.le_trans (Nat.le_of_ble_eq_true rfl) hlo⟩ rfl (Nat.le_of_ble_eq_true rfl) rfl dX11_step_51 hF (fun v29 h H locs hF A => ?_)
      show W _ _ _ _ _ _ _ _ _ _ _ _ _ _ _ (F0 m 54 ls [.int v29])
      refine lv_if_eq (tgt := 61) hx hb dX11_step_54 (by decide) (fun c30 => ?_) (fun c30 => ?_)
      · have hF := mo_ifT c30 hF
        exact J61 x0 x2 (((6 : Int32) * x1) + x2) h H locs ls A (lv_sub hl [1, 3, 0] rfl) hF
      · have hF := mo_ifF c30 hF
        refine lv_iconst (v := (1 : Int32)) hx hb dX11_step_57 (by decide) ?_
        refine lv_goto (tgt := 62) hx hb dX11_step_58 (by decide) ?_
        exact J62 x0 x2 (((6 : Int32) * x1) + x2) (1 : Int32) h H locs ls A (lv_sub hl [1, 3, 0] rfl) hF
  exact E h0 s.heap [] hF A
set_option maxHeartbeats 4000000 in
set_option maxRecDepth 100000 in
theorem c_X11_pass (l : Launch) (D : va_G) (dA : Nat → ClassId) (b0 : Nat) (x0 : Nat) (x1 : Int32) (x2 : Int32) : mo_Met l yX11_pass [Cond.code yX11_pass cX11_pass 4 none] 4 115 D dA b0 [.ref x0, .int x1, .int x2] (fun _ : Unit => none) (F_X11_pass x0 x1 x2) := by
  refine mo_MetOf (own := RX11) (by decide) (Nat.le_of_ble_eq_true rfl) [(0, .ref x0), (1, .int x1), (2, .int x2)] rfl rfl ?_
  intro p e R s m args below meth c Q h0 h2 z ls hQ C hml hr hlocks hnm hfr hlo hF A hl
  have hx := C.1
  have hb := C.2.1
  have hown := C.2.2.1
  have hts := C.2.2.2.1
  have hK := C.2.2.2.2.1
  have iX11 := inlX11
  have J142 : ∀   (x0 : Nat) (x1 : Int32) (h : mo_H) (H : Heap) (locs : List Loc) (ls : Array Slot), mo_A D dA b0 s.heap h0 h H locs → lv_has ls 4 [(0, .ref x0), (1, .int x1)] → (F_X11_pass_142 x0 x1).1 h = some (z, h2) → W p l e R s m args below meth c H locs (h.2.1 - h0.2.1) (h.2.2 - h0.2.2) Q (F0 m 142 ls []) := by
    intro  x0 x1 h H locs ls A hl hF
    unfold F_X11_pass_142 at hF
    refine lv_aload_n hx hb dX11_pass_142 rfl (lv_at hl 0 rfl) ?_
    refine mo_wR C A (T := TX11) iX11 rfl 48 (by decide) tb_166 rfl dX11_pass_143 hF (fun v1 hF => ?_)
    refine lv_iload_n hx hb dX11_pass_146 rfl (lv_at hl 1 rfl) ?_
    refine lv_aload_n hx hb dX11_pass_147 rfl (lv_at hl 0 rfl) ?_
    refine mo_wR C A (T := TX11) iX11 rfl 11 (by decide) tb_130 rfl dX11_pass_148 hF (fun v2 hF => ?_)
    refine lv_bipush (v := (12 : Int32)) hx hb dX11_pass_151 (by decide) ?_
    refine lv_aload_n hx hb dX11_pass_153 rfl (lv_at hl 0 rfl) ?_
    refine mo_wR C A (T := TX11) iX11 rfl 46 (by decide) tb_164 rfl dX11_pass_154 hF (fun v3 hF => ?_)
    refine lv_iload_n hx hb dX11_pass_157 rfl (lv_at hl 1 rfl) ?_
    refine mo_wla C A dX11_pass_158 hF (fun v4 hF => ?_)
    refine lv_imul hx hb dX11_pass_159 ?_
    refine lv_aload_n hx hb dX11_pass_160 rfl (lv_at hl 0 rfl) ?_
    refine mo_wR C A (T := TX11) iX11 rfl 47 (by decide) tb_165 rfl dX11_pass_161 hF (fun v5 hF => ?_)
    refine lv_iload_n hx hb dX11_pass_164 rfl (lv_at hl 1 rfl) ?_
    refine mo_wla C A dX11_pass_165 hF (fun v6 hF => ?_)
    refine lv_iadd hx hb dX11_pass_166 ?_
    refine mo_wla C A dX11_pass_167 hF (fun v7 hF => ?_)
    refine mo_wsa C A dX11_pass_168 hF (fun h H locs hF A => ?_)
    refine lv_aload_n hx hb dX11_pass_169 rfl (lv_at hl 0 rfl) ?_
    refine mo_wR C A (T := TX11) iX11 rfl 50 (by decide) tb_168 rfl dX11_pass_170 hF (fun v8 hF => ?_)
    refine lv_iload_n hx hb dX11_pass_173 rfl (lv_at hl 1 rfl) ?_
    refine lv_iconst (v := (1 : Int32)) hx hb dX11_pass_174 (by decide) ?_
    refine mo_wsz C A dX11_pass_175 hF (fun h H locs hF A => ?_)
    rw [hQ]
    exact mo_vret C A hr hlocks dX11_pass_176 hF
  have J134 : ∀   (x0 : Nat) (x1 : Int32) (s0 : Nat) (s1 : Int32) (s2 : Int32) (h : mo_H) (H : Heap) (locs : List Loc) (ls : Array Slot), mo_A D dA b0 s.heap h0 h H locs → lv_has ls 4 [(0, .ref x0), (1, .int x1)] → (F_X11_pass_134 x0 x1 s0 s1 s2).1 h = some (z, h2) → W p l e R s m args below meth c H locs (h.2.1 - h0.2.1) (h.2.2 - h0.2.2) Q (F0 m 134 ls [.int s2, .int s1, .ref s0]) := by
    intro  x0 x1 s0 s1 s2 h H locs ls A hl hF
    unfold F_X11_pass_134 at hF
    refine mo_wsa C A dX11_pass_134 hF (fun h H locs hF A => ?_)
    refine lv_aload_n hx hb dX11_pass_135 rfl (lv_at hl 0 rfl) ?_
    refine mo_wR C A (T := TX11) iX11 rfl 47 (by decide) tb_165 rfl dX11_pass_136 hF (fun v9 hF => ?_)
    refine lv_iload_n hx hb dX11_pass_139 rfl (lv_at hl 1 rfl) ?_
    refine lv_iconst (v := (0 : Int32)) hx hb dX11_pass_140 (by decide) ?_
    refine mo_wsa C A dX11_pass_141 hF (fun h H locs hF A => ?_)
    exact J142 x0 x1 h H locs ls A (lv_sub hl [0, 1] rfl) hF
  have J46 : ∀   (x0 : Nat) (x1 : Int32) (h : mo_H) (H : Heap) (locs : List Loc) (ls : Array Slot), mo_A D dA b0 s.heap h0 h H locs → lv_has ls 4 [(0, .ref x0), (1, .int x1)] → (F_X11_pass_46 x0 x1).1 h = some (z, h2) → W p l e R s m args below meth c H locs (h.2.1 - h0.2.1) (h.2.2 - h0.2.2) Q (F0 m 46 ls []) := by
    intro  x0 x1 h H locs ls A hl hF
    unfold F_X11_pass_46 at hF
    refine lv_aload_n hx hb dX11_pass_46 rfl (lv_at hl 0 rfl) ?_
    refine mo_wR C A (T := TX11) iX11 rfl 45 (by decide) tb_163 rfl dX11_pass_47 hF (fun v10 hF => ?_)
    refine lv_iload_n hx hb dX11_pass_50 rfl (lv_at hl 1 rfl) ?_
    refine lv_dup2_11 hx hb dX11_pass_51 rfl rfl ?_
    refine mo_wla C A dX11_pass_52 hF (fun v11 hF => ?_)
    refine lv_iconst (v := (1 : Int32)) hx hb dX11_pass_53 (by decide) ?_
    refine lv_iadd hx hb dX11_pass_54 ?_
    refine mo_wsa C A dX11_pass_55 hF (fun h H locs hF A => ?_)
    refine lv_aload_n hx hb dX11_pass_56 rfl (lv_at hl 0 rfl) ?_
    refine mo_wR C A (T := TX11) iX11 rfl 48 (by decide) tb_166 rfl dX11_pass_57 hF (fun v12 hF => ?_)
    refine lv_iload_n hx hb dX11_pass_60 rfl (lv_at hl 1 rfl) ?_
    refine lv_dup2_11 hx hb dX11_pass_61 rfl rfl ?_
    refine mo_wla C A dX11_pass_62 hF (fun v13 hF => ?_)
    refine lv_iconst (v := (1 : Int32)) hx hb dX11_pass_63 (by decide) ?_
    refine lv_isub hx hb dX11_pass_64 ?_
    refine mo_wsa C A dX11_pass_65 hF (fun h H locs hF A => ?_)
    refine lv_aload_n hx hb dX11_pass_66 rfl (lv_at hl 0 rfl) ?_
    refine mo_wR C A (T := TX11) iX11 rfl 48 (by decide) tb_166 rfl dX11_pass_67 hF (fun v14 hF => ?_)
    refine lv_iload_n hx hb dX11_pass_70 rfl (lv_at hl 1 rfl) ?_
    refine mo_wla C A dX11_pass_71 hF (fun v15 hF => ?_)
    refine lv_if_ne (tgt := 176) hx hb dX11_pass_72 (by decide) (fun c16 => ?_) (fun c16 => ?_)
    · have hF := mo_ifF c16 hF
      rw [hQ]
      exact mo_vret C A hr hlocks dX11_pass_176 hF
    · have hF := mo_ifT c16 hF
      refine lv_aload_n hx hb dX11_pass_75 rfl (lv_at hl 0 rfl) ?_
      refine mo_wR C A (T := TX11) iX11 rfl 47 (by decide) tb_165 rfl dX11_pass_76 hF (fun v17 hF => ?_)
      refine lv_iload_n hx hb dX11_pass_79 rfl (lv_at hl 1 rfl) ?_
      refine lv_dup2_11 hx hb dX11_pass_80 rfl rfl ?_
      refine mo_wla C A dX11_pass_81 hF (fun v18 hF => ?_)
      refine lv_iconst (v := (1 : Int32)) hx hb dX11_pass_82 (by decide) ?_
      refine lv_iadd hx hb dX11_pass_83 ?_
      refine mo_wsa C A dX11_pass_84 hF (fun h H locs hF A => ?_)
      refine lv_aload_n hx hb dX11_pass_85 rfl (lv_at hl 0 rfl) ?_
      refine mo_wR C A (T := TX11) iX11 rfl 47 (by decide) tb_165 rfl dX11_pass_86 hF (fun v19 hF => ?_)
      refine lv_iload_n hx hb dX11_pass_89 rfl (lv_at hl 1 rfl) ?_
      refine mo_wla C A dX11_pass_90 hF (fun v20 hF => ?_)
      refine lv_aload_n hx hb dX11_pass_91 rfl (lv_at hl 0 rfl) ?_
      refine mo_wR C A (T := TX11) iX11 rfl 12 (by decide) tb_131 rfl dX11_pass_92 hF (fun v21 hF => ?_)
      refine lv_aload_n hx hb dX11_pass_95 rfl (lv_at hl 0 rfl) ?_
      refine mo_wR C A (T := TX11) iX11 rfl 46 (by decide) tb_164 rfl dX11_pass_96 hF (fun v22 hF => ?_)
      refine lv_iload_n hx hb dX11_pass_99 rfl (lv_at hl 1 rfl) ?_
      refine mo_wla C A dX11_pass_100 hF (fun v23 hF => ?_)
      refine mo_wla C A dX11_pass_101 hF (fun v24 hF => ?_)
      refine lv_icmp_ne (tgt := 142) hx hb dX11_pass_102 (by decide) (fun c25 => ?_) (fun c25 => ?_)
      · have hF := mo_ifF c25 hF
        exact J142 x0 x1 h H locs ls A (lv_sub hl [0, 1] rfl) hF
      · have hF := mo_ifT c25 hF
        refine lv_aload_n hx hb dX11_pass_105 rfl (lv_at hl 0 rfl) ?_
        refine mo_wR C A (T := TX11) iX11 rfl 46 (by decide) tb_164 rfl dX11_pass_106 hF (fun v26 hF => ?_)
        refine lv_iload_n hx hb dX11_pass_109 rfl (lv_at hl 1 rfl) ?_
        refine lv_aload_n hx hb dX11_pass_110 rfl (lv_at hl 0 rfl) ?_
        refine mo_wR C A (T := TX11) iX11 rfl 12 (by decide) tb_131 rfl dX11_pass_111 hF (fun v27 hF => ?_)
        refine lv_aload_n hx hb dX11_pass_114 rfl (lv_at hl 0 rfl) ?_
        refine mo_wR C A (T := TX11) iX11 rfl 49 (by decide) tb_167 rfl dX11_pass_115 hF (fun v28 hF => ?_)
        refine lv_iload_n hx hb dX11_pass_118 rfl (lv_at hl 1 rfl) ?_
        refine mo_wla C A dX11_pass_119 hF (fun v29 hF => ?_)
        refine mo_wla C A dX11_pass_120 hF (fun v30 hF => ?_)
        refine lv_if_ne (tgt := 128) hx hb dX11_pass_121 (by decide) (fun c31 => ?_) (fun c31 => ?_)
        · have hF := mo_ifF c31 hF
          refine lv_aload_n hx hb dX11_pass_128 rfl (lv_at hl 0 rfl) ?_
          refine mo_wR C A (T := TX11) iX11 rfl 49 (by decide) tb_167 rfl dX11_pass_129 hF (fun v32 hF => ?_)
          refine lv_iload_n hx hb dX11_pass_132 rfl (lv_at hl 1 rfl) ?_
          refine mo_wla C A dX11_pass_133 hF (fun v33 hF => ?_)
          exact J134 x0 x1 v26 x1 v33 h H locs ls A (lv_sub hl [0, 1] rfl) hF
        · have hF := mo_ifT c31 hF
          refine lv_iconst (v := (0 : Int32)) hx hb dX11_pass_124 (by decide) ?_
          refine lv_goto (tgt := 134) hx hb dX11_pass_125 (by decide) ?_
          exact J134 x0 x1 v26 x1 (0 : Int32) h H locs ls A (lv_sub hl [0, 1] rfl) hF
  have J21 : ∀   (x0 : Nat) (x1 : Int32) (x2 : Int32) (x3 : Int32) (h : mo_H) (H : Heap) (locs : List Loc) (ls : Array Slot), mo_A D dA b0 s.heap h0 h H locs → lv_has ls 4 [(0, .ref x0), (1, .int x1), (2, .int x2), (3, .int x3)] → (F_X11_pass_21 x0 x1 x2 x3).1 h = some (z, h2) → W p l e R s m args below meth c H locs (h.2.1 - h0.2.1) (h.2.2 - h0.2.2) Q (F0 m 21 ls []) := by
    intro  x0 x1 x2 x3 h H locs ls A hl hF
    unfold F_X11_pass_21 at hF
    refine lv_aload_n hx hb dX11_pass_21 rfl (lv_at hl 0 rfl) ?_
    refine mo_wR C A (T := TX11) iX11 rfl 29 (by decide) tb_146 rfl dX11_pass_22 hF (fun v34 hF => ?_)
    refine lv_bipush (v := (6 : Int32)) hx hb dX11_pass_25 (by decide) ?_
    refine lv_iload_n hx hb dX11_pass_27 rfl (lv_at hl 1 rfl) ?_
    refine lv_imul hx hb dX11_pass_28 ?_
    refine lv_iload_n hx hb dX11_pass_29 rfl (lv_at hl 3 rfl) ?_
    refine lv_iadd hx hb dX11_pass_30 ?_
    refine lv_dup2_11 hx hb dX11_pass_31 rfl rfl ?_
    refine mo_wla C A dX11_pass_32 hF (fun v35 hF => ?_)
    refine lv_iconst (v := (1 : Int32)) hx hb dX11_pass_33 (by decide) ?_
    refine lv_iadd hx hb dX11_pass_34 ?_
    refine mo_wsa C A dX11_pass_35 hF (fun h H locs hF A => ?_)
    refine lv_iload_n hx hb dX11_pass_36 rfl (lv_at hl 2 rfl) ?_
    refine lv_if_eq (tgt := 46) hx hb dX11_pass_37 (by decide) (fun c36 => ?_) (fun c36 => ?_)
    · have hF := mo_ifT c36 hF
      exact J46 x0 x1 h H locs ls A (lv_sub hl [0, 1] rfl) hF
    · have hF := mo_ifF c36 hF
      refine lv_aload_n hx hb dX11_pass_40 rfl (lv_at hl 0 rfl) ?_
      refine lv_iload_n hx hb dX11_pass_41 rfl (lv_at hl 1 rfl) ?_
      refine lv_iload_n hx hb dX11_pass_42 rfl (lv_at hl 3 rfl) ?_
      refine mo_cV (n := 2) (As := [.int x1, .int x3]) (rest := []) C A hml hl.1 (c_X11_step l D dA b0 x0 x1 x3) (ci := 11) (q := (RX11, TX11, 56)) rfl (fun _ e => (mo_ckE e).1) (tb_v tb_551 tb_552 tb_553 tb_5 tb_554) rfl (by decide +kernel) ⟨Nat.le_trans (by decide) hfr, Nat.le_trans (Nat.le_of_ble_eq_true rfl) hlo⟩ rfl (Nat.le_of_ble_eq_true rfl) rfl dX11_pass_43 hF (fun v37 h H locs hF A => ?_)
      show W _ _ _ _ _ _ _ _ _ _ _ _ _ _ _ (F0 m 46 ls [])
      exact J46 x0 x1 h H locs ls A (lv_sub hl [0, 1] rfl) hF
  unfold F_X11_pass at hF
  obtain ⟨-, hF⟩ := mo_ckE hF
  have E : ∀ (h : mo_H) (H : Heap) (locs : List Loc), (mo_b (F_X11_slotDomain x0 x1) fun v38 => mo_b (mo_gR x0 11 50) fun v39 => mo_b (mo_la 1 v39 x1) fun v40 => (if v40 = 0 then F_X11_pass_21 x0 x1 x2 v38 else mo_b (F_X11_beginSlot x0 x1 v38) fun v42 => F_X11_pass_21 x0 x1 x2 v38)).1 h = some (z, h2) → mo_A D dA b0 s.heap h0 h H locs → W p l e R s m args below meth c H locs (h.2.1 - h0.2.1) (h.2.2 - h0.2.2) Q (F0 m 0 ls []) := by
    intro h H locs hF A
    refine lv_aload_n hx hb dX11_pass_0 rfl (lv_at hl 0 rfl) ?_
    refine lv_iload_n hx hb dX11_pass_1 rfl (lv_at hl 1 rfl) ?_
    refine mo_cV (n := 1) (As := [.int x1]) (rest := []) C A hml hl.1 (c_X11_slotDomain l D dA b0 x0 x1) (ci := 11) (q := (RX11, TX11, 56)) rfl (fun _ e => (mo_ckE e).1) (tb_v tb_535 tb_536 tb_537 tb_5 tb_538) rfl (by decide +kernel) ⟨Nat.le_trans (by decide) hfr, Nat.le_trans (Nat.le_of_ble_eq_true rfl) hlo⟩ rfl (Nat.le_of_ble_eq_true rfl) rfl dX11_pass_2 hF (fun v38 h H locs hF A => ?_)
    show W _ _ _ _ _ _ _ _ _ _ _ _ _ _ _ (F0 m 5 ls [.int v38])
    refine lv_istore_n (lv' := [(3, .int v38), (0, .ref x0), (1, .int x1), (2, .int x2)]) hx hb dX11_pass_5 rfl hl (by decide) rfl (fun ls hl => ?_)
    refine lv_aload_n hx hb dX11_pass_6 rfl (lv_at hl 1 rfl) ?_
    refine mo_wR C A (T := TX11) iX11 rfl 50 (by decide) tb_168 rfl dX11_pass_7 hF (fun v39 hF => ?_)
    refine lv_iload_n hx hb dX11_pass_10 rfl (lv_at hl 2 rfl) ?_
    refine mo_wlz C A dX11_pass_11 hF (fun v40 hF => ?_)
    refine lv_if_eq (tgt := 21) hx hb dX11_pass_12 (by decide) (fun c41 => ?_) (fun c41 => ?_)
    · have hF := mo_ifT c41 hF
      exact J21 x0 x1 x2 v38 h H locs ls A (lv_sub hl [1, 2, 3, 0] rfl) hF
    · have hF := mo_ifF c41 hF
      refine lv_aload_n hx hb dX11_pass_15 rfl (lv_at hl 1 rfl) ?_
      refine lv_iload_n hx hb dX11_pass_16 rfl (lv_at hl 2 rfl) ?_
      refine lv_iload_n hx hb dX11_pass_17 rfl (lv_at hl 0 rfl) ?_
      refine mo_cV (n := 2) (As := [.int x1, .int v38]) (rest := []) C A hml hl.1 (c_X11_beginSlot l D dA b0 x0 x1 v38) (ci := 11) (q := (RX11, TX11, 56)) rfl (fun _ e => (mo_ckE e).1) (tb_v tb_547 tb_548 tb_549 tb_5 tb_550) rfl (by decide +kernel) ⟨Nat.le_trans (by decide) hfr, Nat.le_trans (Nat.le_of_ble_eq_true rfl) hlo⟩ rfl (Nat.le_of_ble_eq_true rfl) rfl dX11_pass_18 hF (fun v42 h H locs hF A => ?_)
      show W _ _ _ _ _ _ _ _ _ _ _ _ _ _ _ (F0 m 21 ls [])
      exact J21 x0 x1 x2 v38 h H locs ls A (lv_sub hl [1, 2, 3, 0] rfl) hF
  exact E h0 s.heap [] hF A
set_option maxHeartbeats 4000000 in
set_option maxRecDepth 100000 in
theorem c_X11_instructionAt (l : Launch) (D : va_G) (dA : Nat → ClassId) (b0 : Nat) (x0 : Nat) (x1 : Int32) (x2 : Int32) : mo_Met l yX11_instructionAt [Cond.code yX11_instructionAt cX11_instructionAt 4 (some .int)] 0 0 D dA b0 [.ref x0, .int x1, .int x2] (fun r : Int32 => some (.int r)) (F_X11_instructionAt x0 x1 x2) := by
  refine mo_MetOf (own := RX11) (by decide) (Nat.le_of_ble_eq_true rfl) [(0, .ref x0), (1, .int x1), (2, .int x2)] rfl rfl ?_
  intro p e R s m args below meth c Q h0 h2 z ls hQ C hml hr hlocks hnm hfr hlo hF A hl
  have hx := C.1
  have hb := C.2.1
  have hown := C.2.2.1
  have hts := C.2.2.2.1
  have hK := C.2.2.2.2.1
  have iX11 := inlX11
  unfold F_X11_instructionAt at hF
  obtain ⟨-, hF⟩ := mo_ckE hF
  have E : ∀ (h : mo_H) (H : Heap) (locs : List Loc), (mo_b (mo_gR x0 11 21) fun v1 => mo_b (mo_la 0 v1 (((6 : Int32) * x1) + x2)) fun v2 => mo_b (mo_gR x0 11 8) fun v3 => mo_b (mo_la 0 v3 x2) fun v4 => (if v4 ≤ v2 then mo_ret (0 : Int32) else mo_b (mo_gR x0 11 7) fun v6 => mo_b (mo_la 0 v6 (((64 : Int32) * x2) + v2)) fun v7 => mo_ret v7)).1 h = some (z, h2) → mo_A D dA b0 s.heap h0 h H locs → W p l e R s m args below meth c H locs (h.2.1 - h0.2.1) (h.2.2 - h0.2.2) Q (F0 m 0 ls []) := by
    intro h H locs hF A
    refine lv_aload_n hx hb dX11_instructionAt_0 rfl (lv_at hl 0 rfl) ?_
    refine mo_wR C A (T := TX11) iX11 rfl 21 (by decide) tb_138 rfl dX11_instructionAt_1 hF (fun v1 hF => ?_)
    refine lv_bipush (v := (6 : Int32)) hx hb dX11_instructionAt_4 (by decide) ?_
    refine lv_iload_n hx hb dX11_instructionAt_6 rfl (lv_at hl 1 rfl) ?_
    refine lv_imul hx hb dX11_instructionAt_7 ?_
    refine lv_iload_n hx hb dX11_instructionAt_8 rfl (lv_at hl 2 rfl) ?_
    refine lv_iadd hx hb dX11_instructionAt_9 ?_
    refine mo_wla C A dX11_instructionAt_10 hF (fun v2 hF => ?_)
    refine lv_istore_n (lv' := [(3, .int v2), (0, .ref x0), (1, .int x1), (2, .int x2)]) hx hb dX11_instructionAt_11 rfl hl (by decide) rfl (fun ls hl => ?_)
    refine lv_iload_n hx hb dX11_instructionAt_12 rfl (lv_at hl 0 rfl) ?_
    refine lv_aload_n hx hb dX11_instructionAt_13 rfl (lv_at hl 1 rfl) ?_
    refine mo_wR C A (T := TX11) iX11 rfl 8 (by decide) tb_127 rfl dX11_instructionAt_14 hF (fun v3 hF => ?_)
    refine lv_iload_n hx hb dX11_instructionAt_17 rfl (lv_at hl 3 rfl) ?_
    refine mo_wla C A dX11_instructionAt_18 hF (fun v4 hF => ?_)
    refine lv_icmp_ge (tgt := 36) hx hb dX11_instructionAt_19 (by decide) (fun c5 => ?_) (fun c5 => ?_)
    · have hF := mo_ifT c5 hF
      refine lv_iconst (v := (0 : Int32)) hx hb dX11_instructionAt_36 (by decide) ?_
      rw [hQ]
      exact mo_iret C A hr hlocks dX11_instructionAt_37 hF
    · have hF := mo_ifF c5 hF
      refine lv_aload_n hx hb dX11_instructionAt_22 rfl (lv_at hl 1 rfl) ?_
      refine mo_wR C A (T := TX11) iX11 rfl 7 (by decide) tb_126 rfl dX11_instructionAt_23 hF (fun v6 hF => ?_)
      refine lv_bipush (v := (64 : Int32)) hx hb dX11_instructionAt_26 (by decide) ?_
      refine lv_iload_n hx hb dX11_instructionAt_28 rfl (lv_at hl 3 rfl) ?_
      refine lv_imul hx hb dX11_instructionAt_29 ?_
      refine lv_iload_n hx hb dX11_instructionAt_30 rfl (lv_at hl 0 rfl) ?_
      refine lv_iadd hx hb dX11_instructionAt_31 ?_
      refine mo_wla C A dX11_instructionAt_32 hF (fun v7 hF => ?_)
      refine lv_goto (tgt := 37) hx hb dX11_instructionAt_33 (by decide) ?_
      rw [hQ]
      exact mo_iret C A hr hlocks dX11_instructionAt_37 hF
  exact E h0 s.heap [] hF A
set_option maxHeartbeats 4000000 in
set_option maxRecDepth 100000 in
theorem c_X11_note (l : Launch) (D : va_G) (dA : Nat → ClassId) (b0 : Nat) (x0 : Nat) (x1 : Int32) (x2 : Int32) (x3 : Int32) : mo_Met l yX11_note [Cond.code yX11_note cX11_note 4 none] 0 0 D dA b0 [.ref x0, .int x1, .int x2, .int x3] (fun _ : Unit => none) (F_X11_note x0 x1 x2 x3) := by
  refine mo_MetOf (own := RX11) (by decide) (Nat.le_of_ble_eq_true rfl) [(0, .ref x0), (1, .int x1), (2, .int x2), (3, .int x3)] rfl rfl ?_
  intro p e R s m args below meth c Q h0 h2 z ls hQ C hml hr hlocks hnm hfr hlo hF A hl
  have hx := C.1
  have hb := C.2.1
  have hown := C.2.2.1
  have hts := C.2.2.2.1
  have hK := C.2.2.2.2.1
  have iX11 := inlX11
  unfold F_X11_note at hF
  obtain ⟨-, hF⟩ := mo_ckE hF
  have E : ∀ (h : mo_H) (H : Heap) (locs : List Loc), (mo_b (mo_gR x0 11 15) fun v1 => mo_b (mo_gI x0 11 14) fun v2 => mo_b (mo_sa 0 v1 v2 x1) fun _ => mo_b (mo_gR x0 11 16) fun v3 => mo_b (mo_gI x0 11 14) fun v4 => mo_b (mo_sz v3 v4 x2) fun _ => mo_b (mo_gR x0 11 17) fun v5 => mo_b (mo_gI x0 11 14) fun v6 => mo_b (mo_gR x0 11 45) fun v7 => mo_b (mo_la 0 v7 (0 : Int32)) fun v8 => mo_b (mo_sa 0 v5 v6 v8) fun _ => mo_b (mo_gR x0 11 18) fun v9 => mo_b (mo_gI x0 11 14) fun v10 => mo_b (mo_sa 0 v9 v10 x3) fun _ => mo_b (mo_gI x0 11 14) fun v11 => mo_b (mo_pV x0 11 14 (.int (v11 + (1 : Int32)))) fun _ => mo_ret ()).1 h = some (z, h2) → mo_A D dA b0 s.heap h0 h H locs → W p l e R s m args below meth c H locs (h.2.1 - h0.2.1) (h.2.2 - h0.2.2) Q (F0 m 0 ls []) := by
    intro h H locs hF A
    refine lv_aload_n hx hb dX11_note_0 rfl (lv_at hl 0 rfl) ?_
    refine mo_wR C A (T := TX11) iX11 rfl 15 (by decide) tb_132 rfl dX11_note_1 hF (fun v1 hF => ?_)
    refine lv_aload_n hx hb dX11_note_4 rfl (lv_at hl 0 rfl) ?_
    refine mo_wI C A (T := TX11) iX11 rfl 14 (by decide) tb_316 rfl dX11_note_5 hF (fun v2 hF => ?_)
    refine lv_iload_n hx hb dX11_note_8 rfl (lv_at hl 1 rfl) ?_
    refine mo_wsa C A dX11_note_9 hF (fun h H locs hF A => ?_)
    refine lv_aload_n hx hb dX11_note_10 rfl (lv_at hl 0 rfl) ?_
    refine mo_wR C A (T := TX11) iX11 rfl 16 (by decide) tb_133 rfl dX11_note_11 hF (fun v3 hF => ?_)
    refine lv_aload_n hx hb dX11_note_14 rfl (lv_at hl 0 rfl) ?_
    refine mo_wI C A (T := TX11) iX11 rfl 14 (by decide) tb_316 rfl dX11_note_15 hF (fun v4 hF => ?_)
    refine lv_iload_n hx hb dX11_note_18 rfl (lv_at hl 2 rfl) ?_
    refine mo_wsz C A dX11_note_19 hF (fun h H locs hF A => ?_)
    refine lv_aload_n hx hb dX11_note_20 rfl (lv_at hl 0 rfl) ?_
    refine mo_wR C A (T := TX11) iX11 rfl 17 (by decide) tb_134 rfl dX11_note_21 hF (fun v5 hF => ?_)
    refine lv_aload_n hx hb dX11_note_24 rfl (lv_at hl 0 rfl) ?_
    refine mo_wI C A (T := TX11) iX11 rfl 14 (by decide) tb_316 rfl dX11_note_25 hF (fun v6 hF => ?_)
    refine lv_aload_n hx hb dX11_note_28 rfl (lv_at hl 0 rfl) ?_
    refine mo_wR C A (T := TX11) iX11 rfl 45 (by decide) tb_163 rfl dX11_note_29 hF (fun v7 hF => ?_)
    refine lv_iconst (v := (0 : Int32)) hx hb dX11_note_32 (by decide) ?_
    refine mo_wla C A dX11_note_33 hF (fun v8 hF => ?_)
    refine mo_wsa C A dX11_note_34 hF (fun h H locs hF A => ?_)
    refine lv_aload_n hx hb dX11_note_35 rfl (lv_at hl 0 rfl) ?_
    refine mo_wR C A (T := TX11) iX11 rfl 18 (by decide) tb_135 rfl dX11_note_36 hF (fun v9 hF => ?_)
    refine lv_aload_n hx hb dX11_note_39 rfl (lv_at hl 0 rfl) ?_
    refine mo_wI C A (T := TX11) iX11 rfl 14 (by decide) tb_316 rfl dX11_note_40 hF (fun v10 hF => ?_)
    refine lv_iload_n hx hb dX11_note_43 rfl (lv_at hl 3 rfl) ?_
    refine mo_wsa C A dX11_note_44 hF (fun h H locs hF A => ?_)
    refine lv_aload_n hx hb dX11_note_45 rfl (lv_at hl 0 rfl) ?_
    refine lv_dup hx hb dX11_note_46 rfl ?_
    refine mo_wI C A (T := TX11) iX11 rfl 14 (by decide) tb_316 rfl dX11_note_47 hF (fun v11 hF => ?_)
    refine lv_iconst (v := (1 : Int32)) hx hb dX11_note_50 (by decide) ?_
    refine lv_iadd hx hb dX11_note_51 ?_
    refine mo_wpV C A (T := TX11) iX11 tyX11 tyX11_ok nmX11 rfl 14 (by decide) tb_316 rfl rfl rfl rfl dX11_note_52 hF (fun h H locs hF A => ?_)
    rw [hQ]
    exact mo_vret C A hr hlocks dX11_note_55 hF
  exact E h0 s.heap [] hF A
set_option maxHeartbeats 4000000 in
set_option maxRecDepth 100000 in
theorem c_X11_give (l : Launch) (D : va_G) (dA : Nat → ClassId) (b0 : Nat) (x0 : Nat) (x1 : Int32) (x2 : Int32) (x3 : Int32) : mo_Met l yX11_give [Cond.code yX11_give cX11_give 5 none] 0 0 D dA b0 [.ref x0, .int x1, .int x2, .int x3] (fun _ : Unit => none) (F_X11_give x0 x1 x2 x3) := by
  refine mo_MetOf (own := RX11) (by decide) (Nat.le_of_ble_eq_true rfl) [(0, .ref x0), (1, .int x1), (2, .int x2), (3, .int x3)] rfl rfl ?_
  intro p e R s m args below meth c Q h0 h2 z ls hQ C hml hr hlocks hnm hfr hlo hF A hl
  have hx := C.1
  have hb := C.2.1
  have hown := C.2.2.1
  have hts := C.2.2.2.1
  have hK := C.2.2.2.2.1
  have iX11 := inlX11
  unfold F_X11_give at hF
  obtain ⟨-, hF⟩ := mo_ckE hF
  have E : ∀ (h : mo_H) (H : Heap) (locs : List Loc), (mo_b (mo_gR x0 11 23) fun v1 => mo_b (mo_gR x0 11 24) fun v2 => mo_b (mo_la 0 v2 (((6 : Int32) * x1) + x2)) fun v3 => mo_b (mo_sa 0 v1 (((8 : Int32) * (((6 : Int32) * x1) + x2)) + v3) x3) fun _ => mo_b (mo_gR x0 11 24) fun v4 => mo_b (mo_la 0 v4 (((6 : Int32) * x1) + x2)) fun v5 => mo_b (mo_sa 0 v4 (((6 : Int32) * x1) + x2) (v5 + (1 : Int32))) fun _ => mo_ret ()).1 h = some (z, h2) → mo_A D dA b0 s.heap h0 h H locs → W p l e R s m args below meth c H locs (h.2.1 - h0.2.1) (h.2.2 - h0.2.2) Q (F0 m 0 ls []) := by
    intro h H locs hF A
    refine lv_bipush (v := (6 : Int32)) hx hb dX11_give_0 (by decide) ?_
    refine lv_iload_n hx hb dX11_give_2 rfl (lv_at hl 1 rfl) ?_
    refine lv_imul hx hb dX11_give_3 ?_
    refine lv_iload_n hx hb dX11_give_4 rfl (lv_at hl 2 rfl) ?_
    refine lv_iadd hx hb dX11_give_5 ?_
    refine lv_istore (lv' := [(4, .int (((6 : Int32) * x1) + x2)), (0, .ref x0), (1, .int x1), (2, .int x2), (3, .int x3)]) hx hb dX11_give_6 hl (by decide) rfl (fun ls hl => ?_)
    refine lv_aload_n hx hb dX11_give_8 rfl (lv_at hl 1 rfl) ?_
    refine mo_wR C A (T := TX11) iX11 rfl 23 (by decide) tb_140 rfl dX11_give_9 hF (fun v1 hF => ?_)
    refine lv_bipush (v := (8 : Int32)) hx hb dX11_give_12 (by decide) ?_
    refine lv_iload hx hb dX11_give_14 (lv_at hl 0 rfl) ?_
    refine lv_imul hx hb dX11_give_16 ?_
    refine lv_aload_n hx hb dX11_give_17 rfl (lv_at hl 1 rfl) ?_
    refine mo_wR C A (T := TX11) iX11 rfl 24 (by decide) tb_141 rfl dX11_give_18 hF (fun v2 hF => ?_)
    refine lv_iload hx hb dX11_give_21 (lv_at hl 0 rfl) ?_
    refine mo_wla C A dX11_give_23 hF (fun v3 hF => ?_)
    refine lv_iadd hx hb dX11_give_24 ?_
    refine lv_iload_n hx hb dX11_give_25 rfl (lv_at hl 4 rfl) ?_
    refine mo_wsa C A dX11_give_26 hF (fun h H locs hF A => ?_)
    refine lv_aload_n hx hb dX11_give_27 rfl (lv_at hl 1 rfl) ?_
    refine mo_wR C A (T := TX11) iX11 rfl 24 (by decide) tb_141 rfl dX11_give_28 hF (fun v4 hF => ?_)
    refine lv_iload hx hb dX11_give_31 (lv_at hl 0 rfl) ?_
    refine lv_dup2_11 hx hb dX11_give_33 rfl rfl ?_
    refine mo_wla C A dX11_give_34 hF (fun v5 hF => ?_)
    refine lv_iconst (v := (1 : Int32)) hx hb dX11_give_35 (by decide) ?_
    refine lv_iadd hx hb dX11_give_36 ?_
    refine mo_wsa C A dX11_give_37 hF (fun h H locs hF A => ?_)
    rw [hQ]
    exact mo_vret C A hr hlocks dX11_give_38 hF
  exact E h0 s.heap [] hF A
set_option maxHeartbeats 4000000 in
set_option maxRecDepth 100000 in
theorem c_X11_input (l : Launch) (D : va_G) (dA : Nat → ClassId) (b0 : Nat) (x0 : Nat) (x1 : Int32) (x2 : Int32) : mo_Met l yX11_input [Cond.code yX11_input cX11_input 3 (some .int)] 1 24 D dA b0 [.ref x0, .int x1, .int x2] (fun r : Int32 => some (.int r)) (F_X11_input x0 x1 x2) := by
  refine mo_MetOf (own := RX11) (by decide) (Nat.le_of_ble_eq_true rfl) [(0, .ref x0), (1, .int x1), (2, .int x2)] rfl rfl ?_
  intro p e R s m args below meth c Q h0 h2 z ls hQ C hml hr hlocks hnm hfr hlo hF A hl
  have hx := C.1
  have hb := C.2.1
  have hown := C.2.2.1
  have hts := C.2.2.2.1
  have hK := C.2.2.2.2.1
  have iX11 := inlX11
  unfold F_X11_input at hF
  obtain ⟨-, hF⟩ := mo_ckE hF
  have E : ∀ (h : mo_H) (H : Heap) (locs : List Loc), (mo_b (mo_gI x0 11 13) fun v1 => (if v1 = 0 then mo_ret (-1 : Int32) else mo_b (F_X11_isDomain x0 x1) fun v3 => (if v3 = 0 then mo_ret (-1 : Int32) else mo_b (mo_gR x0 11 24) fun v5 => mo_b (mo_la 0 v5 x1) fun v6 => (if v6 = (8 : Int32) then mo_ret (-1 : Int32) else mo_b (mo_gI x0 11 14) fun v8 => (if v8 = (3000 : Int32) then mo_ret (-1 : Int32) else mo_b (F_X11_note x0 x1 (1 : Int32) x2) fun v10 => mo_b (F_X11_give x0 (0 : Int32) x1 x2) fun v11 => mo_b (mo_gR x0 11 24) fun v12 => mo_b (mo_la 0 v12 x1) fun v13 => mo_ret v13))))).1 h = some (z, h2) → mo_A D dA b0 s.heap h0 h H locs → W p l e R s m args below meth c H locs (h.2.1 - h0.2.1) (h.2.2 - h0.2.2) Q (F0 m 0 ls []) := by
    intro h H locs hF A
    refine lv_aload_n hx hb dX11_input_0 rfl (lv_at hl 0 rfl) ?_
    refine mo_wI C A (T := TX11) iX11 rfl 13 (by decide) tb_196 rfl dX11_input_1 hF (fun v1 hF => ?_)
    refine lv_if_eq (tgt := 36) hx hb dX11_input_4 (by decide) (fun c2 => ?_) (fun c2 => ?_)
    · have hF := mo_ifT c2 hF
      refine lv_iconst (v := (-1 : Int32)) hx hb dX11_input_36 (by decide) ?_
      rw [hQ]
      exact mo_iret C A hr hlocks dX11_input_37 hF
    · have hF := mo_ifF c2 hF
      refine lv_aload_n hx hb dX11_input_7 rfl (lv_at hl 0 rfl) ?_
      refine lv_iload_n hx hb dX11_input_8 rfl (lv_at hl 1 rfl) ?_
      refine mo_cV (n := 1) (As := [.int x1]) (rest := []) C A hml hl.1 (c_X11_isDomain l D dA b0 x0 x1) (ci := 11) (q := (RX11, TX11, 56)) rfl (fun _ e => (mo_ckE e).1) (tb_v tb_198 tb_199 tb_200 tb_5 tb_201) rfl (by decide +kernel) ⟨Nat.le_trans (by decide) hfr, Nat.le_trans (Nat.le_of_ble_eq_true rfl) hlo⟩ rfl (Nat.le_of_ble_eq_true rfl) rfl dX11_input_9 hF (fun v3 h H locs hF A => ?_)
      show W _ _ _ _ _ _ _ _ _ _ _ _ _ _ _ (F0 m 12 ls [.int v3])
      refine lv_if_eq (tgt := 36) hx hb dX11_input_12 (by decide) (fun c4 => ?_) (fun c4 => ?_)
      · have hF := mo_ifT c4 hF
        refine lv_iconst (v := (-1 : Int32)) hx hb dX11_input_36 (by decide) ?_
        rw [hQ]
        exact mo_iret C A hr hlocks dX11_input_37 hF
      · have hF := mo_ifF c4 hF
        refine lv_aload_n hx hb dX11_input_15 rfl (lv_at hl 0 rfl) ?_
        refine mo_wR C A (T := TX11) iX11 rfl 24 (by decide) tb_141 rfl dX11_input_16 hF (fun v5 hF => ?_)
        refine lv_iload_n hx hb dX11_input_19 rfl (lv_at hl 1 rfl) ?_
        refine mo_wla C A dX11_input_20 hF (fun v6 hF => ?_)
        refine lv_bipush (v := (8 : Int32)) hx hb dX11_input_21 (by decide) ?_
        refine lv_icmp_eq (tgt := 36) hx hb dX11_input_23 (by decide) (fun c7 => ?_) (fun c7 => ?_)
        · have hF := mo_ifT c7 hF
          refine lv_iconst (v := (-1 : Int32)) hx hb dX11_input_36 (by decide) ?_
          rw [hQ]
          exact mo_iret C A hr hlocks dX11_input_37 hF
        · have hF := mo_ifF c7 hF
          refine lv_aload_n hx hb dX11_input_26 rfl (lv_at hl 0 rfl) ?_
          refine mo_wI C A (T := TX11) iX11 rfl 14 (by decide) tb_316 rfl dX11_input_27 hF (fun v8 hF => ?_)
          refine lv_sipush (v := (3000 : Int32)) hx hb dX11_input_30 (by decide) ?_
          refine lv_icmp_ne (tgt := 38) hx hb dX11_input_33 (by decide) (fun c9 => ?_) (fun c9 => ?_)
          · have hF := mo_ifF c9 hF
            refine lv_aload_n hx hb dX11_input_38 rfl (lv_at hl 0 rfl) ?_
            refine lv_iload_n hx hb dX11_input_39 rfl (lv_at hl 1 rfl) ?_
            refine lv_iconst (v := (1 : Int32)) hx hb dX11_input_40 (by decide) ?_
            refine lv_iload_n hx hb dX11_input_41 rfl (lv_at hl 2 rfl) ?_
            refine mo_cV (n := 3) (As := [.int x1, .int (1 : Int32), .int x2]) (rest := []) C A hml hl.1 (c_X11_note l D dA b0 x0 x1 (1 : Int32) x2) (ci := 11) (q := (RX11, TX11, 56)) rfl (fun _ e => (mo_ckE e).1) (tb_v tb_317 tb_318 tb_319 tb_5 tb_320) rfl (by decide +kernel) ⟨Nat.le_trans (by decide) hfr, Nat.le_trans (Nat.le_of_ble_eq_true rfl) hlo⟩ rfl (Nat.le_of_ble_eq_true rfl) rfl dX11_input_42 hF (fun v10 h H locs hF A => ?_)
            show W _ _ _ _ _ _ _ _ _ _ _ _ _ _ _ (F0 m 45 ls [])
            refine lv_aload_n hx hb dX11_input_45 rfl (lv_at hl 0 rfl) ?_
            refine lv_iconst (v := (0 : Int32)) hx hb dX11_input_46 (by decide) ?_
            refine lv_iload_n hx hb dX11_input_47 rfl (lv_at hl 1 rfl) ?_
            refine lv_iload_n hx hb dX11_input_48 rfl (lv_at hl 2 rfl) ?_
            refine mo_cV (n := 3) (As := [.int (0 : Int32), .int x1, .int x2]) (rest := []) C A hml hl.1 (c_X11_give l D dA b0 x0 (0 : Int32) x1 x2) (ci := 11) (q := (RX11, TX11, 56)) rfl (fun _ e => (mo_ckE e).1) (tb_v tb_321 tb_322 tb_323 tb_5 tb_324) rfl (by decide +kernel) ⟨Nat.le_trans (by decide) hfr, Nat.le_trans (Nat.le_of_ble_eq_true rfl) hlo⟩ rfl (Nat.le_of_ble_eq_true rfl) rfl dX11_input_49 hF (fun v11 h H locs hF A => ?_)
            show W _ _ _ _ _ _ _ _ _ _ _ _ _ _ _ (F0 m 52 ls [])
            refine lv_aload_n hx hb dX11_input_52 rfl (lv_at hl 0 rfl) ?_
            refine mo_wR C A (T := TX11) iX11 rfl 24 (by decide) tb_141 rfl dX11_input_53 hF (fun v12 hF => ?_)
            refine lv_iload_n hx hb dX11_input_56 rfl (lv_at hl 1 rfl) ?_
            refine mo_wla C A dX11_input_57 hF (fun v13 hF => ?_)
            rw [hQ]
            exact mo_iret C A hr hlocks dX11_input_58 hF
          · have hF := mo_ifT c9 hF
            refine lv_iconst (v := (-1 : Int32)) hx hb dX11_input_36 (by decide) ?_
            rw [hQ]
            exact mo_iret C A hr hlocks dX11_input_37 hF
  exact E h0 s.heap [] hF A
set_option maxHeartbeats 4000000 in
set_option maxRecDepth 100000 in
theorem c_X11_tick (l : Launch) (D : va_G) (dA : Nat → ClassId) (b0 : Nat) (x0 : Nat) (x1 : Int32) : mo_Met l yX11_tick [Cond.code yX11_tick cX11_tick 6 (some .int)] 5 138 D dA b0 [.ref x0, .int x1] (fun r : Int32 => some (.int r)) (F_X11_tick x0 x1) := by
  refine mo_MetOf (own := RX11) (by decide) (Nat.le_of_ble_eq_true rfl) [(0, .ref x0), (1, .int x1)] rfl rfl ?_
  intro p e R s m args below meth c Q h0 h2 z ls hQ C hml hr hlocks hnm hfr hlo hF A hl
  have hx := C.1
  have hb := C.2.1
  have hown := C.2.2.1
  have hts := C.2.2.2.1
  have hK := C.2.2.2.2.1
  have iX11 := inlX11
  have J83 : ∀ (k25 : Nat → Int32 → Int32 → Int32 → mo_M Int32) (hk25 : ∀ (x0 : Nat) (x1 : Int32) (x2 : Int32) (x3 : Int32) (h : mo_H) (H : Heap) (locs : List Loc) (ls : Array Slot), mo_A D dA b0 s.heap h0 h H locs → lv_has ls 6 [(0, .ref x0), (1, .int x1), (2, .int x2), (3, .int x3)] → (k25 x0 x1 x2 x3).1 h = some (z, h2) → W p l e R s m args below meth c H locs (h.2.1 - h0.2.1) (h.2.2 - h0.2.2) Q (F0 m 25 ls [])) (x0 : Nat) (x1 : Int32) (x2 : Int32) (x3 : Int32) (x4 : Int32) (h : mo_H) (H : Heap) (locs : List Loc) (ls : Array Slot), mo_A D dA b0 s.heap h0 h H locs → lv_has ls 6 [(0, .ref x0), (1, .int x1), (2, .int x2), (3, .int x3), (4, .int x4)] → (F_X11_tick_83 k25 x0 x1 x2 x3 x4).1 h = some (z, h2) → W p l e R s m args below meth c H locs (h.2.1 - h0.2.1) (h.2.2 - h0.2.2) Q (F0 m 83 ls []) := by
    intro k25 hk25 x0 x1 x2 x3 x4 h H locs ls A hl hF
    unfold F_X11_tick_83 at hF
    refine lv_aload_n hx hb dX11_tick_83 rfl (lv_at hl 0 rfl) ?_
    refine lv_iconst (v := (0 : Int32)) hx hb dX11_tick_84 (by decide) ?_
    refine lv_iload hx hb dX11_tick_85 (lv_at hl 4 rfl) ?_
    refine mo_cV (n := 2) (As := [.int (0 : Int32), .int x4]) (rest := []) C A hml hl.1 (c_X11_pass l D dA b0 x0 (0 : Int32) x4) (ci := 11) (q := (RX11, TX11, 56)) rfl (fun _ e => (mo_ckE e).1) (tb_v tb_543 tb_544 tb_545 tb_5 tb_546) rfl (by decide +kernel) ⟨Nat.le_trans (by decide) hfr, Nat.le_trans (Nat.le_of_ble_eq_true rfl) hlo⟩ rfl (Nat.le_of_ble_eq_true rfl) rfl dX11_tick_87 hF (fun v1 h H locs hF A => ?_)
    show W _ _ _ _ _ _ _ _ _ _ _ _ _ _ _ (F0 m 90 ls [])
    refine lv_iinc (v := (x3 + (1 : Int32))) (lv' := [(3, .int (x3 + (1 : Int32))), (0, .ref x0), (1, .int x1), (2, .int x2), (4, .int x4)]) hx hb dX11_tick_90 hl (k := 3) rfl rfl (by decide) rfl (fun ls hl => ?_)
    refine lv_goto (tgt := 25) hx hb dX11_tick_93 (by decide) ?_
    exact hk25 x0 x1 x2 (x3 + (1 : Int32)) h H locs ls A (lv_sub hl [1, 2, 3, 0] rfl) hF
  have J54 : ∀ (k25 : Nat → Int32 → Int32 → Int32 → mo_M Int32) (hk25 : ∀ (x0 : Nat) (x1 : Int32) (x2 : Int32) (x3 : Int32) (h : mo_H) (H : Heap) (locs : List Loc) (ls : Array Slot), mo_A D dA b0 s.heap h0 h H locs → lv_has ls 6 [(0, .ref x0), (1, .int x1), (2, .int x2), (3, .int x3)] → (k25 x0 x1 x2 x3).1 h = some (z, h2) → W p l e R s m args below meth c H locs (h.2.1 - h0.2.1) (h.2.2 - h0.2.2) Q (F0 m 25 ls [])) (x0 : Nat) (x1 : Int32) (x2 : Int32) (x3 : Int32) (x4 : Int32) (h : mo_H) (H : Heap) (locs : List Loc) (ls : Array Slot), mo_A D dA b0 s.heap h0 h H locs → lv_has ls 6 [(0, .ref x0), (1, .int x1), (2, .int x2), (3, .int x3), (4, .int x4)] → (F_X11_tick_54 k25 x0 x1 x2 x3 x4).1 h = some (z, h2) → W p l e R s m args below meth c H locs (h.2.1 - h0.2.1) (h.2.2 - h0.2.2) Q (F0 m 54 ls []) := by
    intro k25 hk25 x0 x1 x2 x3 x4 h H locs ls A hl hF
    unfold F_X11_tick_54 at hF
    refine lv_iload hx hb dX11_tick_54 (lv_at hl 4 rfl) ?_
    refine lv_if_eq (tgt := 83) hx hb dX11_tick_56 (by decide) (fun c2 => ?_) (fun c2 => ?_)
    · have hF := mo_ifT c2 hF
      exact J83 k25 hk25 x0 x1 x2 x3 x4 h H locs ls A (lv_sub hl [0, 1, 2, 3, 4] rfl) hF
    · have hF := mo_ifF c2 hF
      refine lv_aload_n hx hb dX11_tick_59 rfl (lv_at hl 0 rfl) ?_
      refine lv_iconst (v := (0 : Int32)) hx hb dX11_tick_60 (by decide) ?_
      refine mo_cV (n := 1) (As := [.int (0 : Int32)]) (rest := []) C A hml hl.1 (c_X11_slotDomain l D dA b0 x0 (0 : Int32)) (ci := 11) (q := (RX11, TX11, 56)) rfl (fun _ e => (mo_ckE e).1) (tb_v tb_535 tb_536 tb_537 tb_5 tb_538) rfl (by decide +kernel) ⟨Nat.le_trans (by decide) hfr, Nat.le_trans (Nat.le_of_ble_eq_true rfl) hlo⟩ rfl (Nat.le_of_ble_eq_true rfl) rfl dX11_tick_61 hF (fun v3 h H locs hF A => ?_)
      show W _ _ _ _ _ _ _ _ _ _ _ _ _ _ _ (F0 m 64 ls [.int v3])
      refine lv_istore (lv' := [(5, .int v3), (0, .ref x0), (1, .int x1), (2, .int x2), (3, .int x3), (4, .int x4)]) hx hb dX11_tick_64 hl (by decide) rfl (fun ls hl => ?_)
      refine lv_aload_n hx hb dX11_tick_66 rfl (lv_at hl 1 rfl) ?_
      refine lv_iload hx hb dX11_tick_67 (lv_at hl 0 rfl) ?_
      refine lv_iconst (v := (0 : Int32)) hx hb dX11_tick_69 (by decide) ?_
      refine lv_aload_n hx hb dX11_tick_70 rfl (lv_at hl 1 rfl) ?_
      refine lv_iconst (v := (0 : Int32)) hx hb dX11_tick_71 (by decide) ?_
      refine lv_iload hx hb dX11_tick_72 (lv_at hl 0 rfl) ?_
      refine mo_cV (n := 2) (As := [.int (0 : Int32), .int v3]) (rest := [.int (0 : Int32), .int v3, .ref x0]) C A hml hl.1 (c_X11_instructionAt l D dA b0 x0 (0 : Int32) v3) (ci := 11) (q := (RX11, TX11, 56)) rfl (fun _ e => (mo_ckE e).1) (tb_v tb_539 tb_540 tb_541 tb_5 tb_542) rfl (by decide +kernel) ⟨Nat.le_trans (by decide) hfr, Nat.le_trans (Nat.le_of_ble_eq_true rfl) hlo⟩ rfl (Nat.le_of_ble_eq_true rfl) rfl dX11_tick_74 hF (fun v4 h H locs hF A => ?_)
      show W _ _ _ _ _ _ _ _ _ _ _ _ _ _ _ (F0 m 77 ls [.int v4, .int (0 : Int32), .int v3, .ref x0])
      refine mo_cV (n := 3) (As := [.int v3, .int (0 : Int32), .int v4]) (rest := []) C A hml hl.1 (c_X11_note l D dA b0 x0 v3 (0 : Int32) v4) (ci := 11) (q := (RX11, TX11, 56)) rfl (fun _ e => (mo_ckE e).1) (tb_v tb_317 tb_318 tb_319 tb_5 tb_320) rfl (by decide +kernel) ⟨Nat.le_trans (by decide) hfr, Nat.le_trans (Nat.le_of_ble_eq_true rfl) hlo⟩ rfl (Nat.le_of_ble_eq_true rfl) rfl dX11_tick_77 hF (fun v5 h H locs hF A => ?_)
      show W _ _ _ _ _ _ _ _ _ _ _ _ _ _ _ (F0 m 80 ls [])
      refine lv_iinc (v := (x2 + (1 : Int32))) (lv' := [(2, .int (x2 + (1 : Int32))), (5, .int v3), (0, .ref x0), (1, .int x1), (3, .int x3), (4, .int x4)]) hx hb dX11_tick_80 hl (k := 3) rfl rfl (by decide) rfl (fun ls hl => ?_)
      exact J83 k25 hk25 x0 x1 (x2 + (1 : Int32)) x3 x4 h H locs ls A (lv_sub hl [2, 3, 0, 4, 5] rfl) hF
  have J25 : ∀   (fu : Nat) (x0 : Nat) (x1 : Int32) (x2 : Int32) (x3 : Int32) (h : mo_H) (H : Heap) (locs : List Loc) (ls : Array Slot), mo_A D dA b0 s.heap h0 h H locs → lv_has ls 6 [(0, .ref x0), (1, .int x1), (2, .int x2), (3, .int x3)] → (F_X11_tick_25 fu x0 x1 x2 x3).1 h = some (z, h2) → W p l e R s m args below meth c H locs (h.2.1 - h0.2.1) (h.2.2 - h0.2.2) Q (F0 m 25 ls []) := by
    intro  fu
    induction fu with
    | zero =>
      intro x0 x1 x2 x3 h H locs ls A hl hF
      unfold F_X11_tick_25 at hF
      cases hF
    | succ fu ih =>
      intro x0 x1 x2 x3 h H locs ls A hl hF
      unfold F_X11_tick_25 at hF
      refine lv_iload_n hx hb dX11_tick_25 rfl (lv_at hl 3 rfl) ?_
      refine lv_iload_n hx hb dX11_tick_26 rfl (lv_at hl 1 rfl) ?_
      refine lv_icmp_ge (tgt := 96) hx hb dX11_tick_27 (by decide) (fun c6 => ?_) (fun c6 => ?_)
      · have hF := mo_ifT c6 hF
        refine lv_iload_n hx hb dX11_tick_96 rfl (lv_at hl 2 rfl) ?_
        rw [hQ]
        exact mo_iret C A hr hlocks dX11_tick_97 hF
      · have hF := mo_ifF c6 hF
        refine lv_aload_n hx hb dX11_tick_30 rfl (lv_at hl 0 rfl) ?_
        refine lv_iconst (v := (0 : Int32)) hx hb dX11_tick_31 (by decide) ?_
        refine mo_cV (n := 1) (As := [.int (0 : Int32)]) (rest := []) C A hml hl.1 (c_X11_isReady l D dA b0 x0 (0 : Int32)) (ci := 11) (q := (RX11, TX11, 56)) rfl (fun _ e => (mo_ckE e).1) (tb_v tb_531 tb_532 tb_533 tb_5 tb_534) rfl (by decide +kernel) ⟨Nat.le_trans (by decide) hfr, Nat.le_trans (Nat.le_of_ble_eq_true rfl) hlo⟩ rfl (Nat.le_of_ble_eq_true rfl) rfl dX11_tick_32 hF (fun v7 h H locs hF A => ?_)
        show W _ _ _ _ _ _ _ _ _ _ _ _ _ _ _ (F0 m 35 ls [.int v7])
        refine lv_istore (lv' := [(4, .int v7), (0, .ref x0), (1, .int x1), (2, .int x2), (3, .int x3)]) hx hb dX11_tick_35 hl (by decide) rfl (fun ls hl => ?_)
        refine lv_iload hx hb dX11_tick_37 (lv_at hl 0 rfl) ?_
        refine lv_if_eq (tgt := 54) hx hb dX11_tick_39 (by decide) (fun c8 => ?_) (fun c8 => ?_)
        · have hF := mo_ifT c8 hF
          exact J54 (F_X11_tick_25  fu) ih x0 x1 x2 x3 v7 h H locs ls A (lv_sub hl [1, 2, 3, 4, 0] rfl) hF
        · have hF := mo_ifF c8 hF
          refine lv_aload_n hx hb dX11_tick_42 rfl (lv_at hl 1 rfl) ?_
          refine mo_wI C A (T := TX11) iX11 rfl 14 (by decide) tb_316 rfl dX11_tick_43 hF (fun v9 hF => ?_)
          refine lv_sipush (v := (3000 : Int32)) hx hb dX11_tick_46 (by decide) ?_
          refine lv_icmp_ne (tgt := 54) hx hb dX11_tick_49 (by decide) (fun c10 => ?_) (fun c10 => ?_)
          · have hF := mo_ifF c10 hF
            exact J54 (F_X11_tick_25  fu) ih x0 x1 x2 x3 v7 h H locs ls A (lv_sub hl [1, 2, 3, 4, 0] rfl) hF
          · have hF := mo_ifT c10 hF
            refine lv_iload_n hx hb dX11_tick_52 rfl (lv_at hl 3 rfl) ?_
            rw [hQ]
            exact mo_iret C A hr hlocks dX11_tick_53 hF
  unfold F_X11_tick at hF
  obtain ⟨-, hF⟩ := mo_ckE hF
  have E : ∀ (h : mo_H) (H : Heap) (locs : List Loc), (mo_b (mo_gI x0 11 13) fun v11 => (if v11 = 0 then mo_ret (-1 : Int32) else (if x1 < (1 : Int32) then mo_ret (-1 : Int32) else (if x1 ≤ (200 : Int32) then F_X11_tick_25 mo_fu x0 x1 (0 : Int32) (0 : Int32) else mo_ret (-1 : Int32))))).1 h = some (z, h2) → mo_A D dA b0 s.heap h0 h H locs → W p l e R s m args below meth c H locs (h.2.1 - h0.2.1) (h.2.2 - h0.2.2) Q (F0 m 0 ls []) := by
    intro h H locs hF A
    refine lv_aload_n hx hb dX11_tick_0 rfl (lv_at hl 0 rfl) ?_
    refine mo_wI C A (T := TX11) iX11 rfl 13 (by decide) tb_196 rfl dX11_tick_1 hF (fun v11 hF => ?_)
    refine lv_if_eq (tgt := 19) hx hb dX11_tick_4 (by decide) (fun c12 => ?_) (fun c12 => ?_)
    · have hF := mo_ifT c12 hF
      refine lv_iconst (v := (-1 : Int32)) hx hb dX11_tick_19 (by decide) ?_
      rw [hQ]
      exact mo_iret C A hr hlocks dX11_tick_20 hF
    · have hF := mo_ifF c12 hF
      refine lv_iload_n hx hb dX11_tick_7 rfl (lv_at hl 1 rfl) ?_
      refine lv_iconst (v := (1 : Int32)) hx hb dX11_tick_8 (by decide) ?_
      refine lv_icmp_lt (tgt := 19) hx hb dX11_tick_9 (by decide) (fun c13 => ?_) (fun c13 => ?_)
      · have hF := mo_ifT c13 hF
        refine lv_iconst (v := (-1 : Int32)) hx hb dX11_tick_19 (by decide) ?_
        rw [hQ]
        exact mo_iret C A hr hlocks dX11_tick_20 hF
      · have hF := mo_ifF c13 hF
        refine lv_iload_n hx hb dX11_tick_12 rfl (lv_at hl 1 rfl) ?_
        refine lv_sipush (v := (200 : Int32)) hx hb dX11_tick_13 (by decide) ?_
        refine lv_icmp_le (tgt := 21) hx hb dX11_tick_16 (by decide) (fun c14 => ?_) (fun c14 => ?_)
        · have hF := mo_ifT c14 hF
          refine lv_iconst (v := (0 : Int32)) hx hb dX11_tick_21 (by decide) ?_
          refine lv_istore_n (lv' := [(2, .int (0 : Int32)), (0, .ref x0), (1, .int x1)]) hx hb dX11_tick_22 rfl hl (by decide) rfl (fun ls hl => ?_)
          refine lv_iconst (v := (0 : Int32)) hx hb dX11_tick_23 (by decide) ?_
          refine lv_istore_n (lv' := [(3, .int (0 : Int32)), (2, .int (0 : Int32)), (0, .ref x0), (1, .int x1)]) hx hb dX11_tick_24 rfl hl (by decide) rfl (fun ls hl => ?_)
          exact J25 mo_fu x0 x1 (0 : Int32) (0 : Int32) h H locs ls A (lv_sub hl [2, 3, 1, 0] rfl) hF
        · have hF := mo_ifF c14 hF
          refine lv_iconst (v := (-1 : Int32)) hx hb dX11_tick_19 (by decide) ?_
          rw [hQ]
          exact mo_iret C A hr hlocks dX11_tick_20 hF
  exact E h0 s.heap [] hF A
set_option maxHeartbeats 4000000 in
set_option maxRecDepth 100000 in
theorem c_X11_choose (l : Launch) (D : va_G) (dA : Nat → ClassId) (b0 : Nat) (x0 : Nat) (x1 : Int32) (x2 : Nat) : mo_Met l yX11_choose [Cond.code yX11_choose cX11_choose 9 (some .int)] 1 22 D dA b0 [.ref x0, .int x1, .ref x2] (fun r : Int32 => some (.int r)) (F_X11_choose x0 x1 x2) := by
  refine mo_MetOf (own := RX11) (by decide) (Nat.le_of_ble_eq_true rfl) [(0, .ref x0), (1, .int x1), (2, .ref x2)] rfl rfl ?_
  intro p e R s m args below meth c Q h0 h2 z ls hQ C hml hr hlocks hnm hfr hlo hF A hl
  have hx := C.1
  have hb := C.2.1
  have hown := C.2.2.1
  have hts := C.2.2.2.1
  have hK := C.2.2.2.2.1
  have iX11 := inlX11
  have J29 : ∀ (k8 : Nat → Int32 → Nat → Nat → Int32 → mo_M Int32) (hk8 : ∀ (x0 : Nat) (x1 : Int32) (x2 : Nat) (x3 : Nat) (x4 : Int32) (h : mo_H) (H : Heap) (locs : List Loc) (ls : Array Slot), mo_A D dA b0 s.heap h0 h H locs → lv_has ls 9 [(0, .ref x0), (1, .int x1), (2, .ref x2), (3, .ref x3), (4, .int x4)] → (k8 x0 x1 x2 x3 x4).1 h = some (z, h2) → W p l e R s m args below meth c H locs (h.2.1 - h0.2.1) (h.2.2 - h0.2.2) Q (F0 m 8 ls [])) (x0 : Nat) (x1 : Int32) (x2 : Nat) (x3 : Nat) (x4 : Int32) (s0 : Nat) (s1 : Int32) (s2 : Int32) (h : mo_H) (H : Heap) (locs : List Loc) (ls : Array Slot), mo_A D dA b0 s.heap h0 h H locs → lv_has ls 9 [(0, .ref x0), (1, .int x1), (2, .ref x2), (3, .ref x3), (4, .int x4)] → (F_X11_choose_29 k8 x0 x1 x2 x3 x4 s0 s1 s2).1 h = some (z, h2) → W p l e R s m args below meth c H locs (h.2.1 - h0.2.1) (h.2.2 - h0.2.2) Q (F0 m 29 ls [.int s2, .int s1, .ref s0]) := by
    intro k8 hk8 x0 x1 x2 x3 x4 s0 s1 s2 h H locs ls A hl hF
    unfold F_X11_choose_29 at hF
    refine mo_wsz C A dX11_choose_29 hF (fun h H locs hF A => ?_)
    refine lv_iinc (v := (x4 + (1 : Int32))) (lv' := [(4, .int (x4 + (1 : Int32))), (0, .ref x0), (1, .int x1), (2, .ref x2), (3, .ref x3)]) hx hb dX11_choose_30 hl (k := 4) rfl rfl (by decide) rfl (fun ls hl => ?_)
    refine lv_goto (tgt := 8) hx hb dX11_choose_33 (by decide) ?_
    exact hk8 x0 x1 x2 x3 (x4 + (1 : Int32)) h H locs ls A (lv_sub hl [1, 2, 3, 4, 0] rfl) hF
  have J104 : ∀ (k47 : Nat → Nat → Nat → Int32 → Int32 → mo_M Int32) (k67 : Nat → Nat → Nat → Int32 → Int32 → Int32 → Int32 → Int32 → mo_M Int32) (hk47 : ∀ (x0 : Nat) (x2 : Nat) (x3 : Nat) (x4 : Int32) (x5 : Int32) (h : mo_H) (H : Heap) (locs : List Loc) (ls : Array Slot), mo_A D dA b0 s.heap h0 h H locs → lv_has ls 9 [(0, .ref x0), (2, .ref x2), (3, .ref x3), (4, .int x4), (5, .int x5)] → (k47 x0 x2 x3 x4 x5).1 h = some (z, h2) → W p l e R s m args below meth c H locs (h.2.1 - h0.2.1) (h.2.2 - h0.2.2) Q (F0 m 47 ls [])) (hk67 : ∀ (x0 : Nat) (x2 : Nat) (x3 : Nat) (x4 : Int32) (x5 : Int32) (x6 : Int32) (x7 : Int32) (x8 : Int32) (h : mo_H) (H : Heap) (locs : List Loc) (ls : Array Slot), mo_A D dA b0 s.heap h0 h H locs → lv_has ls 9 [(0, .ref x0), (2, .ref x2), (3, .ref x3), (4, .int x4), (5, .int x5), (6, .int x6), (7, .int x7), (8, .int x8)] → (k67 x0 x2 x3 x4 x5 x6 x7 x8).1 h = some (z, h2) → W p l e R s m args below meth c H locs (h.2.1 - h0.2.1) (h.2.2 - h0.2.2) Q (F0 m 67 ls [])) (x0 : Nat) (x2 : Nat) (x3 : Nat) (x4 : Int32) (x5 : Int32) (x6 : Int32) (x8 : Int32) (s0 : Int32) (h : mo_H) (H : Heap) (locs : List Loc) (ls : Array Slot), mo_A D dA b0 s.heap h0 h H locs → lv_has ls 9 [(0, .ref x0), (2, .ref x2), (3, .ref x3), (4, .int x4), (5, .int x5), (6, .int x6), (8, .int x8)] → (F_X11_choose_104 k47 k67 x0 x2 x3 x4 x5 x6 x8 s0).1 h = some (z, h2) → W p l e R s m args below meth c H locs (h.2.1 - h0.2.1) (h.2.2 - h0.2.2) Q (F0 m 104 ls [.int s0]) := by
    intro k47 k67 hk47 hk67 x0 x2 x3 x4 x5 x6 x8 s0 h H locs ls A hl hF
    unfold F_X11_choose_104 at hF
    refine lv_istore (lv' := [(7, .int s0), (0, .ref x0), (2, .ref x2), (3, .ref x3), (4, .int x4), (5, .int x5), (6, .int x6), (8, .int x8)]) hx hb dX11_choose_104 hl (by decide) rfl (fun ls hl => ?_)
    refine lv_iinc (v := (x8 + (1 : Int32))) (lv' := [(8, .int (x8 + (1 : Int32))), (7, .int s0), (0, .ref x0), (2, .ref x2), (3, .ref x3), (4, .int x4), (5, .int x5), (6, .int x6)]) hx hb dX11_choose_106 hl (k := 7) rfl rfl (by decide) rfl (fun ls hl => ?_)
    refine lv_goto (tgt := 67) hx hb dX11_choose_109 (by decide) ?_
    exact hk67 x0 x2 x3 x4 x5 x6 s0 (x8 + (1 : Int32)) h H locs ls A (lv_sub hl [2, 3, 4, 5, 6, 7, 1, 0] rfl) hF
  have J99 : ∀ (k47 : Nat → Nat → Nat → Int32 → Int32 → mo_M Int32) (k67 : Nat → Nat → Nat → Int32 → Int32 → Int32 → Int32 → Int32 → mo_M Int32) (hk47 : ∀ (x0 : Nat) (x2 : Nat) (x3 : Nat) (x4 : Int32) (x5 : Int32) (h : mo_H) (H : Heap) (locs : List Loc) (ls : Array Slot), mo_A D dA b0 s.heap h0 h H locs → lv_has ls 9 [(0, .ref x0), (2, .ref x2), (3, .ref x3), (4, .int x4), (5, .int x5)] → (k47 x0 x2 x3 x4 x5).1 h = some (z, h2) → W p l e R s m args below meth c H locs (h.2.1 - h0.2.1) (h.2.2 - h0.2.2) Q (F0 m 47 ls [])) (hk67 : ∀ (x0 : Nat) (x2 : Nat) (x3 : Nat) (x4 : Int32) (x5 : Int32) (x6 : Int32) (x7 : Int32) (x8 : Int32) (h : mo_H) (H : Heap) (locs : List Loc) (ls : Array Slot), mo_A D dA b0 s.heap h0 h H locs → lv_has ls 9 [(0, .ref x0), (2, .ref x2), (3, .ref x3), (4, .int x4), (5, .int x5), (6, .int x6), (7, .int x7), (8, .int x8)] → (k67 x0 x2 x3 x4 x5 x6 x7 x8).1 h = some (z, h2) → W p l e R s m args below meth c H locs (h.2.1 - h0.2.1) (h.2.2 - h0.2.2) Q (F0 m 67 ls [])) (x0 : Nat) (x2 : Nat) (x3 : Nat) (x4 : Int32) (x5 : Int32) (x6 : Int32) (x8 : Int32) (h : mo_H) (H : Heap) (locs : List Loc) (ls : Array Slot), mo_A D dA b0 s.heap h0 h H locs → lv_has ls 9 [(0, .ref x0), (2, .ref x2), (3, .ref x3), (4, .int x4), (5, .int x5), (6, .int x6), (8, .int x8)] → (F_X11_choose_99 k47 k67 x0 x2 x3 x4 x5 x6 x8).1 h = some (z, h2) → W p l e R s m args below meth c H locs (h.2.1 - h0.2.1) (h.2.2 - h0.2.2) Q (F0 m 99 ls []) := by
    intro k47 k67 hk47 hk67 x0 x2 x3 x4 x5 x6 x8 h H locs ls A hl hF
    unfold F_X11_choose_99 at hF
    refine lv_iconst (v := (1 : Int32)) hx hb dX11_choose_99 (by decide) ?_
    refine lv_goto (tgt := 104) hx hb dX11_choose_100 (by decide) ?_
    exact J104 k47 k67 hk47 hk67 x0 x2 x3 x4 x5 x6 x8 (1 : Int32) h H locs ls A (lv_sub hl [0, 1, 2, 3, 4, 5, 6] rfl) hF
  have J103 : ∀ (k47 : Nat → Nat → Nat → Int32 → Int32 → mo_M Int32) (k67 : Nat → Nat → Nat → Int32 → Int32 → Int32 → Int32 → Int32 → mo_M Int32) (hk47 : ∀ (x0 : Nat) (x2 : Nat) (x3 : Nat) (x4 : Int32) (x5 : Int32) (h : mo_H) (H : Heap) (locs : List Loc) (ls : Array Slot), mo_A D dA b0 s.heap h0 h H locs → lv_has ls 9 [(0, .ref x0), (2, .ref x2), (3, .ref x3), (4, .int x4), (5, .int x5)] → (k47 x0 x2 x3 x4 x5).1 h = some (z, h2) → W p l e R s m args below meth c H locs (h.2.1 - h0.2.1) (h.2.2 - h0.2.2) Q (F0 m 47 ls [])) (hk67 : ∀ (x0 : Nat) (x2 : Nat) (x3 : Nat) (x4 : Int32) (x5 : Int32) (x6 : Int32) (x7 : Int32) (x8 : Int32) (h : mo_H) (H : Heap) (locs : List Loc) (ls : Array Slot), mo_A D dA b0 s.heap h0 h H locs → lv_has ls 9 [(0, .ref x0), (2, .ref x2), (3, .ref x3), (4, .int x4), (5, .int x5), (6, .int x6), (7, .int x7), (8, .int x8)] → (k67 x0 x2 x3 x4 x5 x6 x7 x8).1 h = some (z, h2) → W p l e R s m args below meth c H locs (h.2.1 - h0.2.1) (h.2.2 - h0.2.2) Q (F0 m 67 ls [])) (x0 : Nat) (x2 : Nat) (x3 : Nat) (x4 : Int32) (x5 : Int32) (x6 : Int32) (x8 : Int32) (h : mo_H) (H : Heap) (locs : List Loc) (ls : Array Slot), mo_A D dA b0 s.heap h0 h H locs → lv_has ls 9 [(0, .ref x0), (2, .ref x2), (3, .ref x3), (4, .int x4), (5, .int x5), (6, .int x6), (8, .int x8)] → (F_X11_choose_103 k47 k67 x0 x2 x3 x4 x5 x6 x8).1 h = some (z, h2) → W p l e R s m args below meth c H locs (h.2.1 - h0.2.1) (h.2.2 - h0.2.2) Q (F0 m 103 ls []) := by
    intro k47 k67 hk47 hk67 x0 x2 x3 x4 x5 x6 x8 h H locs ls A hl hF
    unfold F_X11_choose_103 at hF
    refine lv_iconst (v := (0 : Int32)) hx hb dX11_choose_103 (by decide) ?_
    exact J104 k47 k67 hk47 hk67 x0 x2 x3 x4 x5 x6 x8 (0 : Int32) h H locs ls A (lv_sub hl [0, 1, 2, 3, 4, 5, 6] rfl) hF
  have J131 : ∀ (k47 : Nat → Nat → Nat → Int32 → Int32 → mo_M Int32) (hk47 : ∀ (x0 : Nat) (x2 : Nat) (x3 : Nat) (x4 : Int32) (x5 : Int32) (h : mo_H) (H : Heap) (locs : List Loc) (ls : Array Slot), mo_A D dA b0 s.heap h0 h H locs → lv_has ls 9 [(0, .ref x0), (2, .ref x2), (3, .ref x3), (4, .int x4), (5, .int x5)] → (k47 x0 x2 x3 x4 x5).1 h = some (z, h2) → W p l e R s m args below meth c H locs (h.2.1 - h0.2.1) (h.2.2 - h0.2.2) Q (F0 m 47 ls [])) (x0 : Nat) (x2 : Nat) (x3 : Nat) (x4 : Int32) (x5 : Int32) (h : mo_H) (H : Heap) (locs : List Loc) (ls : Array Slot), mo_A D dA b0 s.heap h0 h H locs → lv_has ls 9 [(0, .ref x0), (2, .ref x2), (3, .ref x3), (4, .int x4), (5, .int x5)] → (F_X11_choose_131 k47 x0 x2 x3 x4 x5).1 h = some (z, h2) → W p l e R s m args below meth c H locs (h.2.1 - h0.2.1) (h.2.2 - h0.2.2) Q (F0 m 131 ls []) := by
    intro k47 hk47 x0 x2 x3 x4 x5 h H locs ls A hl hF
    unfold F_X11_choose_131 at hF
    refine lv_iinc (v := (x5 + (-1 : Int32))) (lv' := [(5, .int (x5 + (-1 : Int32))), (0, .ref x0), (2, .ref x2), (3, .ref x3), (4, .int x4)]) hx hb dX11_choose_131 hl (k := 4) rfl rfl (by decide) rfl (fun ls hl => ?_)
    refine lv_goto (tgt := 47) hx hb dX11_choose_134 (by decide) ?_
    exact hk47 x0 x2 x3 x4 (x5 + (-1 : Int32)) h H locs ls A (lv_sub hl [1, 2, 3, 4, 0] rfl) hF
  have J112 : ∀ (k47 : Nat → Nat → Nat → Int32 → Int32 → mo_M Int32) (hk47 : ∀ (x0 : Nat) (x2 : Nat) (x3 : Nat) (x4 : Int32) (x5 : Int32) (h : mo_H) (H : Heap) (locs : List Loc) (ls : Array Slot), mo_A D dA b0 s.heap h0 h H locs → lv_has ls 9 [(0, .ref x0), (2, .ref x2), (3, .ref x3), (4, .int x4), (5, .int x5)] → (k47 x0 x2 x3 x4 x5).1 h = some (z, h2) → W p l e R s m args below meth c H locs (h.2.1 - h0.2.1) (h.2.2 - h0.2.2) Q (F0 m 47 ls [])) (x0 : Nat) (x2 : Nat) (x3 : Nat) (x4 : Int32) (x5 : Int32) (x6 : Int32) (x7 : Int32) (h : mo_H) (H : Heap) (locs : List Loc) (ls : Array Slot), mo_A D dA b0 s.heap h0 h H locs → lv_has ls 9 [(0, .ref x0), (2, .ref x2), (3, .ref x3), (4, .int x4), (5, .int x5), (6, .int x6), (7, .int x7)] → (F_X11_choose_112 k47 x0 x2 x3 x4 x5 x6 x7).1 h = some (z, h2) → W p l e R s m args below meth c H locs (h.2.1 - h0.2.1) (h.2.2 - h0.2.2) Q (F0 m 112 ls []) := by
    intro k47 hk47 x0 x2 x3 x4 x5 x6 x7 h H locs ls A hl hF
    unfold F_X11_choose_112 at hF
    refine lv_aload_n hx hb dX11_choose_112 rfl (lv_at hl 1 rfl) ?_
    refine lv_iload hx hb dX11_choose_113 (lv_at hl 4 rfl) ?_
    refine lv_iload hx hb dX11_choose_115 (lv_at hl 6 rfl) ?_
    refine mo_wsz C A dX11_choose_117 hF (fun h H locs hF A => ?_)
    refine lv_iload hx hb dX11_choose_118 (lv_at hl 6 rfl) ?_
    refine lv_if_eq (tgt := 131) hx hb dX11_choose_120 (by decide) (fun c1 => ?_) (fun c1 => ?_)
    · have hF := mo_ifT c1 hF
      exact J131 k47 hk47 x0 x2 x3 x4 x5 h H locs ls A (lv_sub hl [0, 1, 2, 3, 4] rfl) hF
    · have hF := mo_ifF c1 hF
      refine lv_aload_n hx hb dX11_choose_123 rfl (lv_at hl 2 rfl) ?_
      refine lv_iload hx hb dX11_choose_124 (lv_at hl 5 rfl) ?_
      refine lv_iconst (v := (1 : Int32)) hx hb dX11_choose_126 (by decide) ?_
      refine mo_wsz C A dX11_choose_127 hF (fun h H locs hF A => ?_)
      refine lv_iinc (v := (x4 + (1 : Int32))) (lv' := [(4, .int (x4 + (1 : Int32))), (0, .ref x0), (2, .ref x2), (3, .ref x3), (5, .int x5), (6, .int x6), (7, .int x7)]) hx hb dX11_choose_128 hl (k := 3) rfl rfl (by decide) rfl (fun ls hl => ?_)
      exact J131 k47 hk47 x0 x2 x3 (x4 + (1 : Int32)) x5 h H locs ls A (lv_sub hl [1, 2, 3, 0, 4] rfl) hF
  have J67 : ∀ (k47 : Nat → Nat → Nat → Int32 → Int32 → mo_M Int32) (hk47 : ∀ (x0 : Nat) (x2 : Nat) (x3 : Nat) (x4 : Int32) (x5 : Int32) (h : mo_H) (H : Heap) (locs : List Loc) (ls : Array Slot), mo_A D dA b0 s.heap h0 h H locs → lv_has ls 9 [(0, .ref x0), (2, .ref x2), (3, .ref x3), (4, .int x4), (5, .int x5)] → (k47 x0 x2 x3 x4 x5).1 h = some (z, h2) → W p l e R s m args below meth c H locs (h.2.1 - h0.2.1) (h.2.2 - h0.2.2) Q (F0 m 47 ls [])) (fu : Nat) (x0 : Nat) (x2 : Nat) (x3 : Nat) (x4 : Int32) (x5 : Int32) (x6 : Int32) (x7 : Int32) (x8 : Int32) (h : mo_H) (H : Heap) (locs : List Loc) (ls : Array Slot), mo_A D dA b0 s.heap h0 h H locs → lv_has ls 9 [(0, .ref x0), (2, .ref x2), (3, .ref x3), (4, .int x4), (5, .int x5), (6, .int x6), (7, .int x7), (8, .int x8)] → (F_X11_choose_67 k47 fu x0 x2 x3 x4 x5 x6 x7 x8).1 h = some (z, h2) → W p l e R s m args below meth c H locs (h.2.1 - h0.2.1) (h.2.2 - h0.2.2) Q (F0 m 67 ls []) := by
    intro k47 hk47 fu
    induction fu with
    | zero =>
      intro x0 x2 x3 x4 x5 x6 x7 x8 h H locs ls A hl hF
      unfold F_X11_choose_67 at hF
      cases hF
    | succ fu ih =>
      intro x0 x2 x3 x4 x5 x6 x7 x8 h H locs ls A hl hF
      unfold F_X11_choose_67 at hF
      refine lv_iload hx hb dX11_choose_67 (lv_at hl 7 rfl) ?_
      refine lv_aload_n hx hb dX11_choose_69 rfl (lv_at hl 0 rfl) ?_
      refine mo_wI C A (T := TX11) iX11 rfl 0 (by decide) tb_173 rfl dX11_choose_70 hF (fun v2 hF => ?_)
      refine lv_icmp_ge (tgt := 112) hx hb dX11_choose_73 (by decide) (fun c3 => ?_) (fun c3 => ?_)
      · have hF := mo_ifT c3 hF
        exact J112 k47 hk47 x0 x2 x3 x4 x5 x6 x7 h H locs ls A (lv_sub hl [0, 1, 2, 3, 4, 5, 6] rfl) hF
      · have hF := mo_ifF c3 hF
        refine lv_iload hx hb dX11_choose_76 (lv_at hl 6 rfl) ?_
        refine lv_if_ne (tgt := 99) hx hb dX11_choose_78 (by decide) (fun c4 => ?_) (fun c4 => ?_)
        · have hF := mo_ifF c4 hF
          exact J99 k47 (F_X11_choose_67 k47 fu) hk47 ih x0 x2 x3 x4 x5 x6 x8 h H locs ls A (lv_sub hl [0, 1, 2, 3, 4, 5, 7] rfl) hF
        · have hF := mo_ifT c4 hF
          refine lv_aload_n hx hb dX11_choose_81 rfl (lv_at hl 2 rfl) ?_
          refine lv_iload hx hb dX11_choose_82 (lv_at hl 7 rfl) ?_
          refine mo_wlz C A dX11_choose_84 hF (fun v5 hF => ?_)
          refine lv_if_eq (tgt := 103) hx hb dX11_choose_85 (by decide) (fun c6 => ?_) (fun c6 => ?_)
          · have hF := mo_ifT c6 hF
            exact J103 k47 (F_X11_choose_67 k47 fu) hk47 ih x0 x2 x3 x4 x5 x6 x8 h H locs ls A (lv_sub hl [0, 1, 2, 3, 4, 5, 7] rfl) hF
          · have hF := mo_ifF c6 hF
            refine lv_aload_n hx hb dX11_choose_88 rfl (lv_at hl 0 rfl) ?_
            refine lv_iload hx hb dX11_choose_89 (lv_at hl 5 rfl) ?_
            refine lv_iload hx hb dX11_choose_91 (lv_at hl 7 rfl) ?_
            refine mo_cV (n := 2) (As := [.int x6, .int x8]) (rest := []) C A hml hl.1 (c_X11_flowsTo l D dA b0 x0 x6 x8) (ci := 11) (q := (RX11, TX11, 56)) rfl (fun _ e => (mo_ckE e).1) (tb_v tb_580 tb_581 tb_582 tb_5 tb_583) rfl (by decide +kernel) ⟨Nat.le_trans (by decide) hfr, Nat.le_trans (Nat.le_of_ble_eq_true rfl) hlo⟩ rfl (Nat.le_of_ble_eq_true rfl) rfl dX11_choose_93 hF (fun v7 h H locs hF A => ?_)
            show W _ _ _ _ _ _ _ _ _ _ _ _ _ _ _ (F0 m 96 ls [.int v7])
            refine lv_if_eq (tgt := 103) hx hb dX11_choose_96 (by decide) (fun c8 => ?_) (fun c8 => ?_)
            · have hF := mo_ifT c8 hF
              exact J103 k47 (F_X11_choose_67 k47 fu) hk47 ih x0 x2 x3 x4 x5 x6 x8 h H locs ls A (lv_sub hl [0, 1, 2, 3, 4, 5, 7] rfl) hF
            · have hF := mo_ifF c8 hF
              exact J99 k47 (F_X11_choose_67 k47 fu) hk47 ih x0 x2 x3 x4 x5 x6 x8 h H locs ls A (lv_sub hl [0, 1, 2, 3, 4, 5, 7] rfl) hF
  have J47 : ∀   (fu : Nat) (x0 : Nat) (x2 : Nat) (x3 : Nat) (x4 : Int32) (x5 : Int32) (h : mo_H) (H : Heap) (locs : List Loc) (ls : Array Slot), mo_A D dA b0 s.heap h0 h H locs → lv_has ls 9 [(0, .ref x0), (2, .ref x2), (3, .ref x3), (4, .int x4), (5, .int x5)] → (F_X11_choose_47 fu x0 x2 x3 x4 x5).1 h = some (z, h2) → W p l e R s m args below meth c H locs (h.2.1 - h0.2.1) (h.2.2 - h0.2.2) Q (F0 m 47 ls []) := by
    intro  fu
    induction fu with
    | zero =>
      intro x0 x2 x3 x4 x5 h H locs ls A hl hF
      unfold F_X11_choose_47 at hF
      cases hF
    | succ fu ih =>
      intro x0 x2 x3 x4 x5 h H locs ls A hl hF
      unfold F_X11_choose_47 at hF
      refine lv_iload hx hb dX11_choose_47 (lv_at hl 4 rfl) ?_
      refine lv_if_lt (tgt := 137) hx hb dX11_choose_49 (by decide) (fun c9 => ?_) (fun c9 => ?_)
      · have hF := mo_ifT c9 hF
        refine lv_iload hx hb dX11_choose_137 (lv_at hl 3 rfl) ?_
        rw [hQ]
        exact mo_iret C A hr hlocks dX11_choose_139 hF
      · have hF := mo_ifF c9 hF
        refine lv_aload_n hx hb dX11_choose_52 rfl (lv_at hl 0 rfl) ?_
        refine mo_wR C A (T := TX11) iX11 rfl 15 (by decide) tb_132 rfl dX11_choose_53 hF (fun v10 hF => ?_)
        refine lv_iload hx hb dX11_choose_56 (lv_at hl 4 rfl) ?_
        refine mo_wla C A dX11_choose_58 hF (fun v11 hF => ?_)
        refine lv_istore (lv' := [(6, .int v11), (0, .ref x0), (2, .ref x2), (3, .ref x3), (4, .int x4), (5, .int x5)]) hx hb dX11_choose_59 hl (by decide) rfl (fun ls hl => ?_)
        refine lv_iconst (v := (0 : Int32)) hx hb dX11_choose_61 (by decide) ?_
        refine lv_istore (lv' := [(7, .int (0 : Int32)), (6, .int v11), (0, .ref x0), (2, .ref x2), (3, .ref x3), (4, .int x4), (5, .int x5)]) hx hb dX11_choose_62 hl (by decide) rfl (fun ls hl => ?_)
        refine lv_iconst (v := (0 : Int32)) hx hb dX11_choose_64 (by decide) ?_
        refine lv_istore (lv' := [(8, .int (0 : Int32)), (7, .int (0 : Int32)), (6, .int v11), (0, .ref x0), (2, .ref x2), (3, .ref x3), (4, .int x4), (5, .int x5)]) hx hb dX11_choose_65 hl (by decide) rfl (fun ls hl => ?_)
        exact J67 (F_X11_choose_47  fu) ih mo_fu x0 x2 x3 x4 x5 v11 (0 : Int32) (0 : Int32) h H locs ls A (lv_sub hl [3, 4, 5, 6, 7, 2, 1, 0] rfl) hF
  have J36 : ∀   (x0 : Nat) (x2 : Nat) (x3 : Nat) (h : mo_H) (H : Heap) (locs : List Loc) (ls : Array Slot), mo_A D dA b0 s.heap h0 h H locs → lv_has ls 9 [(0, .ref x0), (2, .ref x2), (3, .ref x3)] → (F_X11_choose_36 x0 x2 x3).1 h = some (z, h2) → W p l e R s m args below meth c H locs (h.2.1 - h0.2.1) (h.2.2 - h0.2.2) Q (F0 m 36 ls []) := by
    intro  x0 x2 x3 h H locs ls A hl hF
    unfold F_X11_choose_36 at hF
    refine lv_iconst (v := (0 : Int32)) hx hb dX11_choose_36 (by decide) ?_
    refine lv_istore (lv' := [(4, .int (0 : Int32)), (0, .ref x0), (2, .ref x2), (3, .ref x3)]) hx hb dX11_choose_37 hl (by decide) rfl (fun ls hl => ?_)
    refine lv_aload_n hx hb dX11_choose_39 rfl (lv_at hl 1 rfl) ?_
    refine mo_wI C A (T := TX11) iX11 rfl 14 (by decide) tb_316 rfl dX11_choose_40 hF (fun v12 hF => ?_)
    refine lv_iconst (v := (1 : Int32)) hx hb dX11_choose_43 (by decide) ?_
    refine lv_isub hx hb dX11_choose_44 ?_
    refine lv_istore (lv' := [(5, .int (v12 - (1 : Int32))), (4, .int (0 : Int32)), (0, .ref x0), (2, .ref x2), (3, .ref x3)]) hx hb dX11_choose_45 hl (by decide) rfl (fun ls hl => ?_)
    exact J47 mo_fu x0 x2 x3 (0 : Int32) (v12 - (1 : Int32)) h H locs ls A (lv_sub hl [2, 3, 4, 1, 0] rfl) hF
  have J8 : ∀   (fu : Nat) (x0 : Nat) (x1 : Int32) (x2 : Nat) (x3 : Nat) (x4 : Int32) (h : mo_H) (H : Heap) (locs : List Loc) (ls : Array Slot), mo_A D dA b0 s.heap h0 h H locs → lv_has ls 9 [(0, .ref x0), (1, .int x1), (2, .ref x2), (3, .ref x3), (4, .int x4)] → (F_X11_choose_8 fu x0 x1 x2 x3 x4).1 h = some (z, h2) → W p l e R s m args below meth c H locs (h.2.1 - h0.2.1) (h.2.2 - h0.2.2) Q (F0 m 8 ls []) := by
    intro  fu
    induction fu with
    | zero =>
      intro x0 x1 x2 x3 x4 h H locs ls A hl hF
      unfold F_X11_choose_8 at hF
      cases hF
    | succ fu ih =>
      intro x0 x1 x2 x3 x4 h H locs ls A hl hF
      unfold F_X11_choose_8 at hF
      refine lv_iload hx hb dX11_choose_8 (lv_at hl 4 rfl) ?_
      refine lv_bipush (v := (6 : Int32)) hx hb dX11_choose_10 (by decide) ?_
      refine lv_icmp_ge (tgt := 36) hx hb dX11_choose_12 (by decide) (fun c13 => ?_) (fun c13 => ?_)
      · have hF := mo_ifT c13 hF
        exact J36 x0 x2 x3 h H locs ls A (lv_sub hl [0, 2, 3] rfl) hF
      · have hF := mo_ifF c13 hF
        refine lv_aload_n hx hb dX11_choose_15 rfl (lv_at hl 3 rfl) ?_
        refine lv_iload hx hb dX11_choose_16 (lv_at hl 4 rfl) ?_
        refine lv_iload hx hb dX11_choose_18 (lv_at hl 4 rfl) ?_
        refine lv_iload_n hx hb dX11_choose_20 rfl (lv_at hl 1 rfl) ?_
        refine lv_icmp_ne (tgt := 28) hx hb dX11_choose_21 (by decide) (fun c14 => ?_) (fun c14 => ?_)
        · have hF := mo_ifF c14 hF
          refine lv_iconst (v := (0 : Int32)) hx hb dX11_choose_28 (by decide) ?_
          exact J29 (F_X11_choose_8  fu) ih x0 x1 x2 x3 x4 x3 x4 (0 : Int32) h H locs ls A (lv_sub hl [0, 1, 2, 3, 4] rfl) hF
        · have hF := mo_ifT c14 hF
          refine lv_iconst (v := (1 : Int32)) hx hb dX11_choose_24 (by decide) ?_
          refine lv_goto (tgt := 29) hx hb dX11_choose_25 (by decide) ?_
          exact J29 (F_X11_choose_8  fu) ih x0 x1 x2 x3 x4 x3 x4 (1 : Int32) h H locs ls A (lv_sub hl [0, 1, 2, 3, 4] rfl) hF
  unfold F_X11_choose at hF
  obtain ⟨-, hF⟩ := mo_ckE hF
  have E : ∀ (h : mo_H) (H : Heap) (locs : List Loc), (mo_b (mo_gR x0 11 55) fun v15 => F_X11_choose_8 mo_fu x0 x1 x2 v15 (0 : Int32)).1 h = some (z, h2) → mo_A D dA b0 s.heap h0 h H locs → W p l e R s m args below meth c H locs (h.2.1 - h0.2.1) (h.2.2 - h0.2.2) Q (F0 m 0 ls []) := by
    intro h H locs hF A
    refine lv_aload_n hx hb dX11_choose_0 rfl (lv_at hl 0 rfl) ?_
    refine mo_wR C A (T := TX11) iX11 rfl 55 (by decide) tb_172 rfl dX11_choose_1 hF (fun v15 hF => ?_)
    refine lv_astore_n (lv' := [(3, .ref v15), (0, .ref x0), (1, .int x1), (2, .ref x2)]) hx hb dX11_choose_4 rfl hl (by decide) rfl (fun ls hl => ?_)
    refine lv_iconst (v := (0 : Int32)) hx hb dX11_choose_5 (by decide) ?_
    refine lv_istore (lv' := [(4, .int (0 : Int32)), (3, .ref v15), (0, .ref x0), (1, .int x1), (2, .ref x2)]) hx hb dX11_choose_6 hl (by decide) rfl (fun ls hl => ?_)
    exact J8 mo_fu x0 x1 x2 v15 (0 : Int32) h H locs ls A (lv_sub hl [2, 3, 4, 1, 0] rfl) hF
  exact E h0 s.heap [] hF A
