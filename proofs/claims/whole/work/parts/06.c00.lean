set_option maxHeartbeats 4000000 in
set_option maxRecDepth 100000 in
theorem c_X9_init (l : Launch) (D : va_G) (dA : Nat → ClassId) (b0 : Nat) (x0 : Nat) (x1 : Int32) : mo_Met l yX9_init [Cond.code yX9_init cX9_init 2 none] 1 14 D dA b0 [.ref x0, .int x1] (fun _ : Unit => none) (F_X9_init x0 x1) := by
  refine mo_MetOf (own := RX9) (by decide) (Nat.le_of_ble_eq_true rfl) [(0, .ref x0), (1, .int x1)] rfl rfl ?_
  intro p e R s m args below meth c Q h0 h2 z ls hQ C hml hr hlocks hnm hfr hlo hF A hl
  have hx := C.1
  have hb := C.2.1
  have hown := C.2.2.1
  have hts := C.2.2.2.1
  have hK := C.2.2.2.2.1
  have iX9 := inlX9
  unfold F_X9_init at hF
  have E : ∀ (h : mo_H) (H : Heap) (locs : List Loc), (mo_b (mo_na 0 (if (1 : Int32) < x1 then x1 else (1 : Int32))) fun v1 => mo_b (mo_pV x0 9 0 (.ref v1)) fun _ => mo_ret ()).1 h = some (z, h2) → mo_A D dA b0 s.heap h0 h H locs → W p l e R s m args below meth c H locs (h.2.1 - h0.2.1) (h.2.2 - h0.2.2) Q (F0 m 0 ls []) := by
    intro h H locs hF A
    refine lv_aload_n hx hb dX9_init_0 rfl (lv_at hl 0 rfl) ?_
    refine W.objInit hx hb hown (hts _ tb_54) (hts _ tb_14) (hts _ tb_15) rfl (by rw [hml]; exact hl.1) rfl dX9_init_1 (Nat.le_trans (by decide) hfr) (Nat.le_trans (Nat.le_of_ble_eq_true rfl) hlo) ?_
    refine W.eq (g2 := F0 m 4 ls []) rfl ?_
    refine lv_aload_n hx hb dX9_init_4 rfl (lv_at hl 0 rfl) ?_
    refine lv_iconst (v := (1 : Int32)) hx hb dX9_init_5 (by decide) ?_
    refine lv_iload_n hx hb dX9_init_6 rfl (lv_at hl 1 rfl) ?_
    refine mo_wmx C A (by rw [hml]; exact hl.1.symm) tb_55 tb_24 tb_21 tb_25 (Nat.le_trans (by decide) hfr) (Nat.le_trans (Nat.le_of_ble_eq_true rfl) hlo) dX9_init_7 hF ?_
    refine mo_wna C A (t := 0) (ty := .int) rfl (fun _ => rfl) (fun _ _ h => h) (by decide) rfl tb_40 dX9_init_10 hF (fun v1 h H hF A => ?_)
    refine mo_wpV C A (T := TX9) iX9 tyX9 tyX9_ok nmX9 rfl 0 (by decide) tb_56 rfl rfl rfl rfl dX9_init_12 hF (fun h H locs hF A => ?_)
    rw [hQ]
    exact mo_vret C A hr hlocks dX9_init_15 hF
  exact E h0 s.heap [] hF A
set_option maxHeartbeats 4000000 in
set_option maxRecDepth 100000 in
theorem c_X0_init (l : Launch) (D : va_G) (dA : Nat → ClassId) (b0 : Nat) (x0 : Nat) : mo_Met l yX0_init [Cond.code yX0_init cX0_init 1 none] 2 35 D dA b0 [.ref x0] (fun _ : Unit => none) (F_X0_init x0) := by
  refine mo_MetOf (own := RX0) (by decide) (Nat.le_of_ble_eq_true rfl) [(0, .ref x0)] rfl rfl ?_
  intro p e R s m args below meth c Q h0 h2 z ls hQ C hml hr hlocks hnm hfr hlo hF A hl
  have hx := C.1
  have hb := C.2.1
  have hown := C.2.2.1
  have hts := C.2.2.2.1
  have hK := C.2.2.2.2.1
  have iX0 := inlX0
  have iX9 := inlX9
  unfold F_X0_init at hF
  have E : ∀ (h : mo_H) (H : Heap) (locs : List Loc), (mo_b (mo_nc 9 dfX9) fun v1 => mo_b (F_X9_init v1 (32 : Int32)) fun v2 => mo_b (mo_pV x0 0 0 (.ref v1)) fun _ => mo_b (mo_nc 9 dfX9) fun v3 => mo_b (F_X9_init v3 (32 : Int32)) fun v4 => mo_b (mo_pV x0 0 1 (.ref v3)) fun _ => mo_b (mo_nc 9 dfX9) fun v5 => mo_b (F_X9_init v5 (32 : Int32)) fun v6 => mo_b (mo_pV x0 0 2 (.ref v5)) fun _ => mo_b (mo_nc 9 dfX9) fun v7 => mo_b (F_X9_init v7 (32 : Int32)) fun v8 => mo_b (mo_pV x0 0 3 (.ref v7)) fun _ => mo_ret ()).1 h = some (z, h2) → mo_A D dA b0 s.heap h0 h H locs → W p l e R s m args below meth c H locs (h.2.1 - h0.2.1) (h.2.2 - h0.2.2) Q (F0 m 0 ls []) := by
    intro h H locs hF A
    refine lv_aload_n hx hb dX0_init_0 rfl (lv_at hl 0 rfl) ?_
    refine W.objInit hx hb hown (hts _ tb_109) (hts _ tb_14) (hts _ tb_15) rfl (by rw [hml]; exact hl.1) rfl dX0_init_1 (Nat.le_trans (by decide) hfr) (Nat.le_trans (Nat.le_of_ble_eq_true rfl) hlo) ?_
    refine W.eq (g2 := F0 m 4 ls []) rfl ?_
    refine lv_aload_n hx hb dX0_init_4 rfl (lv_at hl 0 rfl) ?_
    refine mo_wnc C A (T := TX9) iX9 tyX9 tyX9_ok rfl tb_110 tb_45 tb_46 dfX9_ok rfl dX0_init_5 hF (fun v1 h H hF A => ?_)
    refine lv_dup hx hb dX0_init_8 rfl ?_
    refine lv_bipush (v := (32 : Int32)) hx hb dX0_init_9 (by decide) ?_
    refine mo_cI (n := 1) (As := [.int (32 : Int32)]) (rest := [.ref v1, .ref x0]) C A hml hl.1 (c_X9_init l D dA b0 v1 (32 : Int32)) (tb_o tb_53) rfl tb_46 tb_115 tb_52 rfl (by decide +kernel) ⟨Nat.le_trans (by decide) hfr, Nat.le_trans (Nat.le_of_ble_eq_true rfl) hlo⟩ rfl (Nat.le_of_ble_eq_true rfl) rfl dX0_init_11 hF (fun v2 h H locs hF A => ?_)
    show W _ _ _ _ _ _ _ _ _ _ _ _ _ _ _ (F0 m 14 ls [.ref v1, .ref x0])
    refine mo_wpF C A (T := TX0) iX0 tyX0 tyX0_ok nmX0 rfl 0 (by decide) tb_111 rfl rfl hnm rfl rfl rfl dX0_init_14 hF (fun h H locs hF A => ?_)
    refine lv_aload_n hx hb dX0_init_17 rfl (lv_at hl 0 rfl) ?_
    refine mo_wnc C A (T := TX9) iX9 tyX9 tyX9_ok rfl tb_110 tb_45 tb_46 dfX9_ok rfl dX0_init_18 hF (fun v3 h H hF A => ?_)
    refine lv_dup hx hb dX0_init_21 rfl ?_
    refine lv_bipush (v := (32 : Int32)) hx hb dX0_init_22 (by decide) ?_
    refine mo_cI (n := 1) (As := [.int (32 : Int32)]) (rest := [.ref v3, .ref x0]) C A hml hl.1 (c_X9_init l D dA b0 v3 (32 : Int32)) (tb_o tb_53) rfl tb_46 tb_115 tb_52 rfl (by decide +kernel) ⟨Nat.le_trans (by decide) hfr, Nat.le_trans (Nat.le_of_ble_eq_true rfl) hlo⟩ rfl (Nat.le_of_ble_eq_true rfl) rfl dX0_init_24 hF (fun v4 h H locs hF A => ?_)
    show W _ _ _ _ _ _ _ _ _ _ _ _ _ _ _ (F0 m 27 ls [.ref v3, .ref x0])
    refine mo_wpF C A (T := TX0) iX0 tyX0 tyX0_ok nmX0 rfl 1 (by decide) tb_112 rfl rfl hnm rfl rfl rfl dX0_init_27 hF (fun h H locs hF A => ?_)
    refine lv_aload_n hx hb dX0_init_30 rfl (lv_at hl 0 rfl) ?_
    refine mo_wnc C A (T := TX9) iX9 tyX9 tyX9_ok rfl tb_110 tb_45 tb_46 dfX9_ok rfl dX0_init_31 hF (fun v5 h H hF A => ?_)
    refine lv_dup hx hb dX0_init_34 rfl ?_
    refine lv_bipush (v := (32 : Int32)) hx hb dX0_init_35 (by decide) ?_
    refine mo_cI (n := 1) (As := [.int (32 : Int32)]) (rest := [.ref v5, .ref x0]) C A hml hl.1 (c_X9_init l D dA b0 v5 (32 : Int32)) (tb_o tb_53) rfl tb_46 tb_115 tb_52 rfl (by decide +kernel) ⟨Nat.le_trans (by decide) hfr, Nat.le_trans (Nat.le_of_ble_eq_true rfl) hlo⟩ rfl (Nat.le_of_ble_eq_true rfl) rfl dX0_init_37 hF (fun v6 h H locs hF A => ?_)
    show W _ _ _ _ _ _ _ _ _ _ _ _ _ _ _ (F0 m 40 ls [.ref v5, .ref x0])
    refine mo_wpF C A (T := TX0) iX0 tyX0 tyX0_ok nmX0 rfl 2 (by decide) tb_113 rfl rfl hnm rfl rfl rfl dX0_init_40 hF (fun h H locs hF A => ?_)
    refine lv_aload_n hx hb dX0_init_43 rfl (lv_at hl 0 rfl) ?_
    refine mo_wnc C A (T := TX9) iX9 tyX9 tyX9_ok rfl tb_110 tb_45 tb_46 dfX9_ok rfl dX0_init_44 hF (fun v7 h H hF A => ?_)
    refine lv_dup hx hb dX0_init_47 rfl ?_
    refine lv_bipush (v := (32 : Int32)) hx hb dX0_init_48 (by decide) ?_
    refine mo_cI (n := 1) (As := [.int (32 : Int32)]) (rest := [.ref v7, .ref x0]) C A hml hl.1 (c_X9_init l D dA b0 v7 (32 : Int32)) (tb_o tb_53) rfl tb_46 tb_115 tb_52 rfl (by decide +kernel) ⟨Nat.le_trans (by decide) hfr, Nat.le_trans (Nat.le_of_ble_eq_true rfl) hlo⟩ rfl (Nat.le_of_ble_eq_true rfl) rfl dX0_init_50 hF (fun v8 h H locs hF A => ?_)
    show W _ _ _ _ _ _ _ _ _ _ _ _ _ _ _ (F0 m 53 ls [.ref v7, .ref x0])
    refine mo_wpF C A (T := TX0) iX0 tyX0 tyX0_ok nmX0 rfl 3 (by decide) tb_114 rfl rfl hnm rfl rfl rfl dX0_init_53 hF (fun h H locs hF A => ?_)
    rw [hQ]
    exact mo_vret C A hr hlocks dX0_init_56 hF
  exact E h0 s.heap [] hF A
set_option maxHeartbeats 4000000 in
set_option maxRecDepth 100000 in
theorem c_X0_count (l : Launch) (D : va_G) (dA : Nat → ClassId) (b0 : Nat) (x0 : Nat) : mo_Met l yX0_count [Cond.code yX0_count cX0_count 1 (some .int)] 0 0 D dA b0 [.ref x0] (fun r : Int32 => some (.int r)) (F_X0_count x0) := by
  refine mo_MetOf (own := RX0) (by decide) (Nat.le_of_ble_eq_true rfl) [(0, .ref x0)] rfl rfl ?_
  intro p e R s m args below meth c Q h0 h2 z ls hQ C hml hr hlocks hnm hfr hlo hF A hl
  have hx := C.1
  have hb := C.2.1
  have hown := C.2.2.1
  have hts := C.2.2.2.1
  have hK := C.2.2.2.2.1
  have iX0 := inlX0
  have iX9 := inlX9
  unfold F_X0_count at hF
  obtain ⟨-, hF⟩ := mo_ckE hF
  have E : ∀ (h : mo_H) (H : Heap) (locs : List Loc), (mo_b (mo_gR x0 0 2) fun v1 => mo_b (mo_gI v1 9 1) fun v2 => mo_ret v2).1 h = some (z, h2) → mo_A D dA b0 s.heap h0 h H locs → W p l e R s m args below meth c H locs (h.2.1 - h0.2.1) (h.2.2 - h0.2.2) Q (F0 m 0 ls []) := by
    intro h H locs hF A
    refine lv_aload_n hx hb dX0_count_0 rfl (lv_at hl 0 rfl) ?_
    refine mo_wR C A (T := TX0) iX0 rfl 2 (by decide) tb_113 rfl dX0_count_1 hF (fun v1 hF => ?_)
    refine mo_wIN C A (T := TX9) iX9 rfl 1 (by decide) (List.mem_of_getElem? (i := 0) rfl) rfl dX0_count_4 hF (fun v2 hF => ?_)
    rw [hQ]
    exact mo_iret C A hr hlocks dX0_count_7 hF
  exact E h0 s.heap [] hF A
set_option maxHeartbeats 4000000 in
set_option maxRecDepth 100000 in
theorem c_J7_copyOf_59c91 (l : Launch) (D : va_G) (dA : Nat → ClassId) (b0 : Nat) (x0 : Nat) (x1 : Int32) : mo_Met l yJ7_copyOf_59c91 [Cond.code yJ7_copyOf_59c91 cJ7_copyOf_59c91 3 (some (.array .int))] 1 18 D dA b0 [.ref x0, .int x1] (fun r : Nat => some (.ref r)) (F_J7_copyOf_59c91 x0 x1) := by
  refine mo_MetOf (own := RJ7) (by decide) (Nat.le_of_ble_eq_true rfl) [(0, .ref x0), (1, .int x1)] rfl rfl ?_
  intro p e R s m args below meth c Q h0 h2 z ls hQ C hml hr hlocks hnm hfr hlo hF A hl
  have hx := C.1
  have hb := C.2.1
  have hown := C.2.2.1
  have hts := C.2.2.2.1
  have hK := C.2.2.2.2.1
  unfold F_J7_copyOf_59c91 at hF
  have E : ∀ (h : mo_H) (H : Heap) (locs : List Loc), (mo_b (mo_ln x0) fun v1 => (if x1 = v1 then mo_no else mo_b (mo_na 0 x1) fun v3 => mo_b (mo_ln x0) fun v4 => mo_b (mo_cp x0 (0 : Int32) v3 (0 : Int32) (if x1 < v4 then x1 else v4)) fun _ => mo_ret v3)).1 h = some (z, h2) → mo_A D dA b0 s.heap h0 h H locs → W p l e R s m args below meth c H locs (h.2.1 - h0.2.1) (h.2.2 - h0.2.2) Q (F0 m 0 ls []) := by
    intro h H locs hF A
    refine lv_iload_n hx hb dJ7_copyOf_59c91_0 rfl (lv_at hl 1 rfl) ?_
    refine lv_aload_n hx hb dJ7_copyOf_59c91_1 rfl (lv_at hl 0 rfl) ?_
    refine mo_wln C A dJ7_copyOf_59c91_2 hF (fun v1 hF => ?_)
    refine lv_icmp_ne (tgt := 14) hx hb dJ7_copyOf_59c91_3 (by decide) (fun c2 => ?_) (fun c2 => ?_)
    · have hF := mo_ifF c2 hF
      refine lv_iload_n hx hb dJ7_copyOf_59c91_14 rfl (lv_at hl 1 rfl) ?_
      refine mo_wna C A (t := 0) (ty := .int) rfl (fun _ => rfl) (fun _ _ h => h) (by decide) rfl tb_40 dJ7_copyOf_59c91_15 hF (fun v3 h H hF A => ?_)
      refine lv_astore_n (lv' := [(2, .ref v3), (0, .ref x0), (1, .int x1)]) hx hb dJ7_copyOf_59c91_17 rfl hl (by decide) rfl (fun ls hl => ?_)
      refine lv_aload_n hx hb dJ7_copyOf_59c91_18 rfl (lv_at hl 1 rfl) ?_
      refine lv_iconst (v := (0 : Int32)) hx hb dJ7_copyOf_59c91_19 (by decide) ?_
      refine lv_aload_n hx hb dJ7_copyOf_59c91_20 rfl (lv_at hl 0 rfl) ?_
      refine lv_iconst (v := (0 : Int32)) hx hb dJ7_copyOf_59c91_21 (by decide) ?_
      refine lv_aload_n hx hb dJ7_copyOf_59c91_22 rfl (lv_at hl 1 rfl) ?_
      refine mo_wln C A dJ7_copyOf_59c91_23 hF (fun v4 hF => ?_)
      refine lv_iload_n hx hb dJ7_copyOf_59c91_24 rfl (lv_at hl 2 rfl) ?_
      refine mo_wmn C A (by rw [hml]; exact hl.1.symm) tb_246 tb_20 tb_21 tb_22 (Nat.le_trans (by decide) hfr) (Nat.le_trans (Nat.le_of_ble_eq_true rfl) hlo) dJ7_copyOf_59c91_25 hF ?_
      refine mo_wcp C A (by rw [hml]; exact hl.1.symm) tb_247 tb_248 tb_249 tb_250 (Nat.le_trans (by decide) hfr) (Nat.le_trans (Nat.le_of_ble_eq_true rfl) hlo) dJ7_copyOf_59c91_28 hF (fun h H locs hF A => ?_)
      refine lv_aload_n hx hb dJ7_copyOf_59c91_31 rfl (lv_at hl 0 rfl) ?_
      rw [hQ]
      exact mo_rret C A hr (by first | exact Or.inl ⟨_, rfl⟩ | exact Or.inr ⟨_, rfl⟩) hlocks dJ7_copyOf_59c91_32 hF
    · have hF := mo_ifT c2 hF
      refine lv_aload_n hx hb dJ7_copyOf_59c91_6 rfl (lv_at hl 0 rfl) ?_
      cases hF
  exact E h0 s.heap [] hF A
set_option maxHeartbeats 4000000 in
set_option maxRecDepth 100000 in
theorem c_X9_add (l : Launch) (D : va_G) (dA : Nat → ClassId) (b0 : Nat) (x0 : Nat) (x1 : Int32) : mo_Met l yX9_add [Cond.code yX9_add cX9_add 2 none] 2 40 D dA b0 [.ref x0, .int x1] (fun _ : Unit => none) (F_X9_add x0 x1) := by
  refine mo_MetOf (own := RX9) (by decide) (Nat.le_of_ble_eq_true rfl) [(0, .ref x0), (1, .int x1)] rfl rfl ?_
  intro p e R s m args below meth c Q h0 h2 z ls hQ C hml hr hlocks hnm hfr hlo hF A hl
  have hx := C.1
  have hb := C.2.1
  have hown := C.2.2.1
  have hts := C.2.2.2.1
  have hK := C.2.2.2.2.1
  have iX9 := inlX9
  have J29 : ∀   (x0 : Nat) (x1 : Int32) (h : mo_H) (H : Heap) (locs : List Loc) (ls : Array Slot), mo_A D dA b0 s.heap h0 h H locs → lv_has ls 2 [(0, .ref x0), (1, .int x1)] → (F_X9_add_29 x0 x1).1 h = some (z, h2) → W p l e R s m args below meth c H locs (h.2.1 - h0.2.1) (h.2.2 - h0.2.2) Q (F0 m 29 ls []) := by
    intro  x0 x1 h H locs ls A hl hF
    unfold F_X9_add_29 at hF
    refine lv_aload_n hx hb dX9_add_29 rfl (lv_at hl 0 rfl) ?_
    refine mo_wR C A (T := TX9) iX9 rfl 0 (by decide) tb_56 rfl dX9_add_30 hF (fun v1 hF => ?_)
    refine lv_aload_n hx hb dX9_add_33 rfl (lv_at hl 0 rfl) ?_
    refine mo_wI C A (T := TX9) iX9 rfl 1 (by decide) tb_235 rfl dX9_add_34 hF (fun v2 hF => ?_)
    refine lv_iload_n hx hb dX9_add_37 rfl (lv_at hl 1 rfl) ?_
    refine mo_wsa C A dX9_add_38 hF (fun h H locs hF A => ?_)
    refine lv_aload_n hx hb dX9_add_39 rfl (lv_at hl 0 rfl) ?_
    refine lv_dup hx hb dX9_add_40 rfl ?_
    refine mo_wI C A (T := TX9) iX9 rfl 1 (by decide) tb_235 rfl dX9_add_41 hF (fun v3 hF => ?_)
    refine lv_iconst (v := (1 : Int32)) hx hb dX9_add_44 (by decide) ?_
    refine lv_iadd hx hb dX9_add_45 ?_
    refine mo_wpV C A (T := TX9) iX9 tyX9 tyX9_ok nmX9 rfl 1 (by decide) tb_235 rfl rfl rfl rfl dX9_add_46 hF (fun h H locs hF A => ?_)
    rw [hQ]
    exact mo_vret C A hr hlocks dX9_add_49 hF
  unfold F_X9_add at hF
  obtain ⟨-, hF⟩ := mo_ckE hF
  have E : ∀ (h : mo_H) (H : Heap) (locs : List Loc), (mo_b (mo_gI x0 9 1) fun v4 => mo_b (mo_gR x0 9 0) fun v5 => mo_b (mo_ln v5) fun v6 => (if v4 = v6 then mo_b (mo_gR x0 9 0) fun v8 => mo_b (mo_gI x0 9 1) fun v9 => mo_b (F_J7_copyOf_59c91 v8 ((2 : Int32) * v9)) fun v10 => mo_b (mo_pV x0 9 0 (.ref v10)) fun _ => F_X9_add_29 x0 x1 else F_X9_add_29 x0 x1)).1 h = some (z, h2) → mo_A D dA b0 s.heap h0 h H locs → W p l e R s m args below meth c H locs (h.2.1 - h0.2.1) (h.2.2 - h0.2.2) Q (F0 m 0 ls []) := by
    intro h H locs hF A
    refine lv_aload_n hx hb dX9_add_0 rfl (lv_at hl 0 rfl) ?_
    refine mo_wI C A (T := TX9) iX9 rfl 1 (by decide) tb_235 rfl dX9_add_1 hF (fun v4 hF => ?_)
    refine lv_aload_n hx hb dX9_add_4 rfl (lv_at hl 0 rfl) ?_
    refine mo_wR C A (T := TX9) iX9 rfl 0 (by decide) tb_56 rfl dX9_add_5 hF (fun v5 hF => ?_)
    refine mo_wln C A dX9_add_8 hF (fun v6 hF => ?_)
    refine lv_icmp_ne (tgt := 29) hx hb dX9_add_9 (by decide) (fun c7 => ?_) (fun c7 => ?_)
    · have hF := mo_ifF c7 hF
      exact J29 x0 x1 h H locs ls A (lv_sub hl [0, 1] rfl) hF
    · have hF := mo_ifT c7 hF
      refine lv_aload_n hx hb dX9_add_12 rfl (lv_at hl 0 rfl) ?_
      refine lv_aload_n hx hb dX9_add_13 rfl (lv_at hl 0 rfl) ?_
      refine mo_wR C A (T := TX9) iX9 rfl 0 (by decide) tb_56 rfl dX9_add_14 hF (fun v8 hF => ?_)
      refine lv_iconst (v := (2 : Int32)) hx hb dX9_add_17 (by decide) ?_
      refine lv_aload_n hx hb dX9_add_18 rfl (lv_at hl 0 rfl) ?_
      refine mo_wI C A (T := TX9) iX9 rfl 1 (by decide) tb_235 rfl dX9_add_19 hF (fun v9 hF => ?_)
      refine lv_imul hx hb dX9_add_22 ?_
      refine mo_cS (n := 2) (As := [.ref v8, .int ((2 : Int32) * v9)]) (rest := [.ref x0]) C A hml hl.1 (c_J7_copyOf_59c91 l D dA b0 v8 ((2 : Int32) * v9)) (tb_s tb_236 tb_237 tb_238 tb_239) rfl (by decide +kernel) ⟨Nat.le_trans (by decide) hfr, Nat.le_trans (Nat.le_of_ble_eq_true rfl) hlo⟩ rfl (Nat.le_of_ble_eq_true rfl) rfl dX9_add_23 hF (fun v10 h H locs hF A => ?_)
      show W _ _ _ _ _ _ _ _ _ _ _ _ _ _ _ (F0 m 26 ls [.ref v10, .ref x0])
      refine mo_wpV C A (T := TX9) iX9 tyX9 tyX9_ok nmX9 rfl 0 (by decide) tb_56 rfl rfl rfl rfl dX9_add_26 hF (fun h H locs hF A => ?_)
      exact J29 x0 x1 h H locs ls A (lv_sub hl [0, 1] rfl) hF
  exact E h0 s.heap [] hF A
set_option maxHeartbeats 4000000 in
set_option maxRecDepth 100000 in
theorem c_X0_add (l : Launch) (D : va_G) (dA : Nat → ClassId) (b0 : Nat) (x0 : Nat) (x1 : Int32) (x2 : Int32) (x3 : Int32) (x4 : Int32) : mo_Met l yX0_add [Cond.code yX0_add cX0_add 5 none] 3 61 D dA b0 [.ref x0, .int x1, .int x2, .int x3, .int x4] (fun _ : Unit => none) (F_X0_add x0 x1 x2 x3 x4) := by
  refine mo_MetOf (own := RX0) (by decide) (Nat.le_of_ble_eq_true rfl) [(0, .ref x0), (1, .int x1), (2, .int x2), (3, .int x3), (4, .int x4)] rfl rfl ?_
  intro p e R s m args below meth c Q h0 h2 z ls hQ C hml hr hlocks hnm hfr hlo hF A hl
  have hx := C.1
  have hb := C.2.1
  have hown := C.2.2.1
  have hts := C.2.2.2.1
  have hK := C.2.2.2.2.1
  have iX0 := inlX0
  have J21 : ∀   (x0 : Nat) (x3 : Int32) (x4 : Int32) (s0 : Nat) (s1 : Int32) (h : mo_H) (H : Heap) (locs : List Loc) (ls : Array Slot), mo_A D dA b0 s.heap h0 h H locs → lv_has ls 5 [(0, .ref x0), (3, .int x3), (4, .int x4)] → (F_X0_add_21 x0 x3 x4 s0 s1).1 h = some (z, h2) → W p l e R s m args below meth c H locs (h.2.1 - h0.2.1) (h.2.2 - h0.2.2) Q (F0 m 21 ls [.int s1, .ref s0]) := by
    intro  x0 x3 x4 s0 s1 h H locs ls A hl hF
    unfold F_X0_add_21 at hF
    refine mo_cV (n := 1) (As := [.int s1]) (rest := []) C A hml hl.1 (c_X9_add l D dA b0 s0 s1) (ci := 9) (q := (RX9, TX9, 2)) rfl (fun _ e => (mo_ckE e).1) (tb_v tb_311 tb_232 tb_233 tb_46 tb_234) rfl (by decide +kernel) ⟨Nat.le_trans (by decide) hfr, Nat.le_trans (Nat.le_of_ble_eq_true rfl) hlo⟩ rfl (Nat.le_of_ble_eq_true rfl) rfl dX0_add_21 hF (fun v1 h H locs hF A => ?_)
    show W _ _ _ _ _ _ _ _ _ _ _ _ _ _ _ (F0 m 24 ls [])
    refine lv_aload_n hx hb dX0_add_24 rfl (lv_at hl 0 rfl) ?_
    refine mo_wR C A (T := TX0) iX0 rfl 2 (by decide) tb_113 rfl dX0_add_25 hF (fun v2 hF => ?_)
    refine lv_iload_n hx hb dX0_add_28 rfl (lv_at hl 1 rfl) ?_
    refine mo_cV (n := 1) (As := [.int x3]) (rest := []) C A hml hl.1 (c_X9_add l D dA b0 v2 x3) (ci := 9) (q := (RX9, TX9, 2)) rfl (fun _ e => (mo_ckE e).1) (tb_v tb_311 tb_232 tb_233 tb_46 tb_234) rfl (by decide +kernel) ⟨Nat.le_trans (by decide) hfr, Nat.le_trans (Nat.le_of_ble_eq_true rfl) hlo⟩ rfl (Nat.le_of_ble_eq_true rfl) rfl dX0_add_29 hF (fun v3 h H locs hF A => ?_)
    show W _ _ _ _ _ _ _ _ _ _ _ _ _ _ _ (F0 m 32 ls [])
    refine lv_aload_n hx hb dX0_add_32 rfl (lv_at hl 0 rfl) ?_
    refine mo_wR C A (T := TX0) iX0 rfl 3 (by decide) tb_114 rfl dX0_add_33 hF (fun v4 hF => ?_)
    refine lv_iload hx hb dX0_add_36 (lv_at hl 2 rfl) ?_
    refine mo_cV (n := 1) (As := [.int x4]) (rest := []) C A hml hl.1 (c_X9_add l D dA b0 v4 x4) (ci := 9) (q := (RX9, TX9, 2)) rfl (fun _ e => (mo_ckE e).1) (tb_v tb_311 tb_232 tb_233 tb_46 tb_234) rfl (by decide +kernel) ⟨Nat.le_trans (by decide) hfr, Nat.le_trans (Nat.le_of_ble_eq_true rfl) hlo⟩ rfl (Nat.le_of_ble_eq_true rfl) rfl dX0_add_38 hF (fun v5 h H locs hF A => ?_)
    show W _ _ _ _ _ _ _ _ _ _ _ _ _ _ _ (F0 m 41 ls [])
    rw [hQ]
    exact mo_vret C A hr hlocks dX0_add_41 hF
  unfold F_X0_add at hF
  obtain ⟨-, hF⟩ := mo_ckE hF
  have E : ∀ (h : mo_H) (H : Heap) (locs : List Loc), (mo_b (mo_gR x0 0 0) fun v6 => mo_b (F_X9_add v6 x1) fun v7 => mo_b (mo_gR x0 0 1) fun v8 => (if x2 = 0 then F_X0_add_21 x0 x3 x4 v8 (0 : Int32) else F_X0_add_21 x0 x3 x4 v8 (1 : Int32))).1 h = some (z, h2) → mo_A D dA b0 s.heap h0 h H locs → W p l e R s m args below meth c H locs (h.2.1 - h0.2.1) (h.2.2 - h0.2.2) Q (F0 m 0 ls []) := by
    intro h H locs hF A
    refine lv_aload_n hx hb dX0_add_0 rfl (lv_at hl 0 rfl) ?_
    refine mo_wR C A (T := TX0) iX0 rfl 0 (by decide) tb_111 rfl dX0_add_1 hF (fun v6 hF => ?_)
    refine lv_iload_n hx hb dX0_add_4 rfl (lv_at hl 1 rfl) ?_
    refine mo_cV (n := 1) (As := [.int x1]) (rest := []) C A hml hl.1 (c_X9_add l D dA b0 v6 x1) (ci := 9) (q := (RX9, TX9, 2)) rfl (fun _ e => (mo_ckE e).1) (tb_v tb_311 tb_232 tb_233 tb_46 tb_234) rfl (by decide +kernel) ⟨Nat.le_trans (by decide) hfr, Nat.le_trans (Nat.le_of_ble_eq_true rfl) hlo⟩ rfl (Nat.le_of_ble_eq_true rfl) rfl dX0_add_5 hF (fun v7 h H locs hF A => ?_)
    show W _ _ _ _ _ _ _ _ _ _ _ _ _ _ _ (F0 m 8 ls [])
    refine lv_aload_n hx hb dX0_add_8 rfl (lv_at hl 0 rfl) ?_
    refine mo_wR C A (T := TX0) iX0 rfl 1 (by decide) tb_112 rfl dX0_add_9 hF (fun v8 hF => ?_)
    refine lv_iload_n hx hb dX0_add_12 rfl (lv_at hl 2 rfl) ?_
    refine lv_if_eq (tgt := 20) hx hb dX0_add_13 (by decide) (fun c9 => ?_) (fun c9 => ?_)
    · have hF := mo_ifT c9 hF
      refine lv_iconst (v := (0 : Int32)) hx hb dX0_add_20 (by decide) ?_
      exact J21 x0 x3 x4 v8 (0 : Int32) h H locs ls A (lv_sub hl [0, 3, 4] rfl) hF
    · have hF := mo_ifF c9 hF
      refine lv_iconst (v := (1 : Int32)) hx hb dX0_add_16 (by decide) ?_
      refine lv_goto (tgt := 21) hx hb dX0_add_17 (by decide) ?_
      exact J21 x0 x3 x4 v8 (1 : Int32) h H locs ls A (lv_sub hl [0, 3, 4] rfl) hF
  exact E h0 s.heap [] hF A
set_option maxHeartbeats 4000000 in
set_option maxRecDepth 100000 in
theorem c_X6_init (l : Launch) (D : va_G) (dA : Nat → ClassId) (b0 : Nat) (x0 : Nat) (x1 : Int32) : mo_Met l yX6_init [Cond.code yX6_init cX6_init 2 none] 1 15 D dA b0 [.ref x0, .int x1] (fun _ : Unit => none) (F_X6_init x0 x1) := by
  refine mo_MetOf (own := RX6) (by decide) (Nat.le_of_ble_eq_true rfl) [(0, .ref x0), (1, .int x1)] rfl rfl ?_
  intro p e R s m args below meth c Q h0 h2 z ls hQ C hml hr hlocks hnm hfr hlo hF A hl
  have hx := C.1
  have hb := C.2.1
  have hown := C.2.2.1
  have hts := C.2.2.2.1
  have hK := C.2.2.2.2.1
  have iX6 := inlX6
  unfold F_X6_init at hF
  have E : ∀ (h : mo_H) (H : Heap) (locs : List Loc), (mo_b (mo_na 0 ((5 : Int32) * (if (1 : Int32) < x1 then x1 else (1 : Int32)))) fun v1 => mo_b (mo_pV x0 6 0 (.ref v1)) fun _ => mo_ret ()).1 h = some (z, h2) → mo_A D dA b0 s.heap h0 h H locs → W p l e R s m args below meth c H locs (h.2.1 - h0.2.1) (h.2.2 - h0.2.2) Q (F0 m 0 ls []) := by
    intro h H locs hF A
    refine lv_aload_n hx hb dX6_init_0 rfl (lv_at hl 0 rfl) ?_
    refine W.objInit hx hb hown (hts _ tb_98) (hts _ tb_14) (hts _ tb_15) rfl (by rw [hml]; exact hl.1) rfl dX6_init_1 (Nat.le_trans (by decide) hfr) (Nat.le_trans (Nat.le_of_ble_eq_true rfl) hlo) ?_
    refine W.eq (g2 := F0 m 4 ls []) rfl ?_
    refine lv_aload_n hx hb dX6_init_4 rfl (lv_at hl 0 rfl) ?_
    refine lv_iconst (v := (5 : Int32)) hx hb dX6_init_5 (by decide) ?_
    refine lv_iconst (v := (1 : Int32)) hx hb dX6_init_6 (by decide) ?_
    refine lv_iload_n hx hb dX6_init_7 rfl (lv_at hl 1 rfl) ?_
    refine mo_wmx C A (by rw [hml]; exact hl.1.symm) tb_99 tb_24 tb_21 tb_25 (Nat.le_trans (by decide) hfr) (Nat.le_trans (Nat.le_of_ble_eq_true rfl) hlo) dX6_init_8 hF ?_
    refine lv_imul hx hb dX6_init_11 ?_
    refine mo_wna C A (t := 0) (ty := .int) rfl (fun _ => rfl) (fun _ _ h => h) (by decide) rfl tb_40 dX6_init_12 hF (fun v1 h H hF A => ?_)
    refine mo_wpV C A (T := TX6) iX6 tyX6 tyX6_ok nmX6 rfl 0 (by decide) tb_100 rfl rfl rfl rfl dX6_init_14 hF (fun h H locs hF A => ?_)
    rw [hQ]
    exact mo_vret C A hr hlocks dX6_init_17 hF
  exact E h0 s.heap [] hF A
set_option maxHeartbeats 4000000 in
set_option maxRecDepth 100000 in
theorem c_X1_init (l : Launch) (D : va_G) (dA : Nat → ClassId) (b0 : Nat) (x0 : Nat) (x1 : Nat) : mo_Met l yX1_init [Cond.code yX1_init cX1_init 3 none] 2 36 D dA b0 [.ref x0, .ref x1] (fun _ : Unit => none) (F_X1_init x0 x1) := by
  refine mo_MetOf (own := RX1) (by decide) (Nat.le_of_ble_eq_true rfl) [(0, .ref x0), (1, .ref x1)] rfl rfl ?_
  intro p e R s m args below meth c Q h0 h2 z ls hQ C hml hr hlocks hnm hfr hlo hF A hl
  have hx := C.1
  have hb := C.2.1
  have hown := C.2.2.1
  have hts := C.2.2.2.1
  have hK := C.2.2.2.2.1
  have iX1 := inlX1
  have iX4 := inlX4
  have iX6 := inlX6
  have J24 : ∀   (x0 : Nat) (x1 : Nat) (s0 : Int32) (h : mo_H) (H : Heap) (locs : List Loc) (ls : Array Slot), mo_A D dA b0 s.heap h0 h H locs → lv_has ls 3 [(0, .ref x0), (1, .ref x1)] → (F_X1_init_24 x0 x1 s0).1 h = some (z, h2) → W p l e R s m args below meth c H locs (h.2.1 - h0.2.1) (h.2.2 - h0.2.2) Q (F0 m 24 ls [.int s0]) := by
    intro  x0 x1 s0 h H locs ls A hl hF
    unfold F_X1_init_24 at hF
    refine lv_istore_n (lv' := [(2, .int s0), (0, .ref x0), (1, .ref x1)]) hx hb dX1_init_24 rfl hl (by decide) rfl (fun ls hl => ?_)
    refine lv_aload_n hx hb dX1_init_25 rfl (lv_at hl 1 rfl) ?_
    refine mo_wnc C A (T := TX6) iX6 tyX6 tyX6_ok rfl tb_89 tb_90 tb_91 dfX6_ok rfl dX1_init_26 hF (fun v1 h H hF A => ?_)
    refine lv_dup hx hb dX1_init_29 rfl ?_
    refine lv_iload_n hx hb dX1_init_30 rfl (lv_at hl 0 rfl) ?_
    refine mo_cI (n := 1) (As := [.int s0]) (rest := [.ref v1, .ref x0]) C A hml hl.1 (c_X6_init l D dA b0 v1 s0) (tb_o tb_97) rfl tb_91 tb_95 tb_96 rfl (by decide +kernel) ⟨Nat.le_trans (by decide) hfr, Nat.le_trans (Nat.le_of_ble_eq_true rfl) hlo⟩ rfl (Nat.le_of_ble_eq_true rfl) rfl dX1_init_31 hF (fun v2 h H locs hF A => ?_)
    show W _ _ _ _ _ _ _ _ _ _ _ _ _ _ _ (F0 m 34 ls [.ref v1, .ref x0])
    refine mo_wpV C A (T := TX1) iX1 tyX1 tyX1_ok nmX1 rfl 1 (by decide) tb_92 rfl rfl rfl rfl dX1_init_34 hF (fun h H locs hF A => ?_)
    refine lv_aload_n hx hb dX1_init_37 rfl (lv_at hl 1 rfl) ?_
    refine mo_wnc C A (T := TX6) iX6 tyX6 tyX6_ok rfl tb_89 tb_90 tb_91 dfX6_ok rfl dX1_init_38 hF (fun v3 h H hF A => ?_)
    refine lv_dup hx hb dX1_init_41 rfl ?_
    refine lv_iload_n hx hb dX1_init_42 rfl (lv_at hl 0 rfl) ?_
    refine mo_cI (n := 1) (As := [.int s0]) (rest := [.ref v3, .ref x0]) C A hml hl.1 (c_X6_init l D dA b0 v3 s0) (tb_o tb_97) rfl tb_91 tb_95 tb_96 rfl (by decide +kernel) ⟨Nat.le_trans (by decide) hfr, Nat.le_trans (Nat.le_of_ble_eq_true rfl) hlo⟩ rfl (Nat.le_of_ble_eq_true rfl) rfl dX1_init_43 hF (fun v4 h H locs hF A => ?_)
    show W _ _ _ _ _ _ _ _ _ _ _ _ _ _ _ (F0 m 46 ls [.ref v3, .ref x0])
    refine mo_wpV C A (T := TX1) iX1 tyX1 tyX1_ok nmX1 rfl 2 (by decide) tb_93 rfl rfl rfl rfl dX1_init_46 hF (fun h H locs hF A => ?_)
    refine lv_aload_n hx hb dX1_init_49 rfl (lv_at hl 1 rfl) ?_
    refine lv_aload_n hx hb dX1_init_50 rfl (lv_at hl 2 rfl) ?_
    refine mo_wIN C A (T := TX4) iX4 rfl 3 (by decide) (List.mem_of_getElem? (i := 75) rfl) rfl dX1_init_51 hF (fun v5 hF => ?_)
    refine mo_wna C A (t := 0) (ty := .int) rfl (fun _ => rfl) (fun _ _ h => h) (by decide) rfl tb_40 dX1_init_54 hF (fun v6 h H hF A => ?_)
    refine mo_wpF C A (T := TX1) iX1 tyX1 tyX1_ok nmX1 rfl 5 (by decide) tb_94 rfl rfl hnm rfl rfl rfl dX1_init_56 hF (fun h H locs hF A => ?_)
    rw [hQ]
    exact mo_vret C A hr hlocks dX1_init_59 hF
  unfold F_X1_init at hF
  have E : ∀ (h : mo_H) (H : Heap) (locs : List Loc), (mo_b (mo_pV x0 1 0 (.ref x1)) fun _ => mo_b (mo_gI x1 4 2) fun v7 => (if v7 = 0 then mo_b (mo_gI x1 4 3) fun v9 => F_X1_init_24 x0 x1 v9 else F_X1_init_24 x0 x1 (1 : Int32))).1 h = some (z, h2) → mo_A D dA b0 s.heap h0 h H locs → W p l e R s m args below meth c H locs (h.2.1 - h0.2.1) (h.2.2 - h0.2.2) Q (F0 m 0 ls []) := by
    intro h H locs hF A
    refine lv_aload_n hx hb dX1_init_0 rfl (lv_at hl 0 rfl) ?_
    refine W.objInit hx hb hown (hts _ tb_87) (hts _ tb_14) (hts _ tb_15) rfl (by rw [hml]; exact hl.1) rfl dX1_init_1 (Nat.le_trans (by decide) hfr) (Nat.le_trans (Nat.le_of_ble_eq_true rfl) hlo) ?_
    refine W.eq (g2 := F0 m 4 ls []) rfl ?_
    refine lv_aload_n hx hb dX1_init_4 rfl (lv_at hl 0 rfl) ?_
    refine lv_aload_n hx hb dX1_init_5 rfl (lv_at hl 1 rfl) ?_
    refine mo_wpF C A (T := TX1) iX1 tyX1 tyX1_ok nmX1 rfl 0 (by decide) tb_88 rfl rfl hnm rfl rfl rfl dX1_init_6 hF (fun h H locs hF A => ?_)
    refine lv_aload_n hx hb dX1_init_9 rfl (lv_at hl 1 rfl) ?_
    refine mo_wIN C A (T := TX4) iX4 rfl 2 (by decide) (List.mem_of_getElem? (i := 72) rfl) rfl dX1_init_10 hF (fun v7 hF => ?_)
    refine lv_if_eq (tgt := 20) hx hb dX1_init_13 (by decide) (fun c8 => ?_) (fun c8 => ?_)
    · have hF := mo_ifT c8 hF
      refine lv_aload_n hx hb dX1_init_20 rfl (lv_at hl 1 rfl) ?_
      refine mo_wIN C A (T := TX4) iX4 rfl 3 (by decide) (List.mem_of_getElem? (i := 75) rfl) rfl dX1_init_21 hF (fun v9 hF => ?_)
      exact J24 x0 x1 v9 h H locs ls A (lv_sub hl [0, 1] rfl) hF
    · have hF := mo_ifF c8 hF
      refine lv_iconst (v := (1 : Int32)) hx hb dX1_init_16 (by decide) ?_
      refine lv_goto (tgt := 24) hx hb dX1_init_17 (by decide) ?_
      exact J24 x0 x1 (1 : Int32) h H locs ls A (lv_sub hl [0, 1] rfl) hF
  exact E h0 s.heap [] hF A
set_option maxHeartbeats 4000000 in
set_option maxRecDepth 100000 in
theorem c_J7_fill_53178 (l : Launch) (D : va_G) (dA : Nat → ClassId) (b0 : Nat) (x0 : Nat) (x1 : Int32) : mo_Met l yJ7_fill_53178 [Cond.code yJ7_fill_53178 cJ7_fill_53178 4 none] 0 0 D dA b0 [.ref x0, .int x1] (fun _ : Unit => none) (F_J7_fill_53178 x0 x1) := by
  refine mo_MetOf (own := RJ7) (by decide) (Nat.le_of_ble_eq_true rfl) [(0, .ref x0), (1, .int x1)] rfl rfl ?_
  intro p e R s m args below meth c Q h0 h2 z ls hQ C hml hr hlocks hnm hfr hlo hF A hl
  have hx := C.1
  have hb := C.2.1
  have hown := C.2.2.1
  have hts := C.2.2.2.1
  have hK := C.2.2.2.2.1
  have J5 : ∀   (fu : Nat) (x0 : Nat) (x1 : Int32) (x2 : Int32) (x3 : Int32) (h : mo_H) (H : Heap) (locs : List Loc) (ls : Array Slot), mo_A D dA b0 s.heap h0 h H locs → lv_has ls 4 [(0, .ref x0), (1, .int x1), (2, .int x2), (3, .int x3)] → (F_J7_fill_53178_5 fu x0 x1 x2 x3).1 h = some (z, h2) → W p l e R s m args below meth c H locs (h.2.1 - h0.2.1) (h.2.2 - h0.2.2) Q (F0 m 5 ls []) := by
    intro  fu
    induction fu with
    | zero =>
      intro x0 x1 x2 x3 h H locs ls A hl hF
      unfold F_J7_fill_53178_5 at hF
      cases hF
    | succ fu ih =>
      intro x0 x1 x2 x3 h H locs ls A hl hF
      unfold F_J7_fill_53178_5 at hF
      refine lv_iload_n hx hb dJ7_fill_53178_5 rfl (lv_at hl 2 rfl) ?_
      refine lv_iload_n hx hb dJ7_fill_53178_6 rfl (lv_at hl 3 rfl) ?_
      refine lv_icmp_ge (tgt := 20) hx hb dJ7_fill_53178_7 (by decide) (fun c1 => ?_) (fun c1 => ?_)
      · have hF := mo_ifT c1 hF
        rw [hQ]
        exact mo_vret C A hr hlocks dJ7_fill_53178_20 hF
      · have hF := mo_ifF c1 hF
        refine lv_aload_n hx hb dJ7_fill_53178_10 rfl (lv_at hl 0 rfl) ?_
        refine lv_iload_n hx hb dJ7_fill_53178_11 rfl (lv_at hl 2 rfl) ?_
        refine lv_iload_n hx hb dJ7_fill_53178_12 rfl (lv_at hl 1 rfl) ?_
        refine mo_wsa C A dJ7_fill_53178_13 hF (fun h H locs hF A => ?_)
        refine lv_iinc (v := (x2 + (1 : Int32))) (lv' := [(2, .int (x2 + (1 : Int32))), (0, .ref x0), (1, .int x1), (3, .int x3)]) hx hb dJ7_fill_53178_14 hl (k := 2) rfl rfl (by decide) rfl (fun ls hl => ?_)
        refine lv_goto (tgt := 5) hx hb dJ7_fill_53178_17 (by decide) ?_
        exact ih x0 x1 (x2 + (1 : Int32)) x3 h H locs ls A (lv_sub hl [1, 2, 0, 3] rfl) hF
  unfold F_J7_fill_53178 at hF
  have E : ∀ (h : mo_H) (H : Heap) (locs : List Loc), (mo_b (mo_ln x0) fun v2 => F_J7_fill_53178_5 mo_fu x0 x1 (0 : Int32) v2).1 h = some (z, h2) → mo_A D dA b0 s.heap h0 h H locs → W p l e R s m args below meth c H locs (h.2.1 - h0.2.1) (h.2.2 - h0.2.2) Q (F0 m 0 ls []) := by
    intro h H locs hF A
    refine lv_iconst (v := (0 : Int32)) hx hb dJ7_fill_53178_0 (by decide) ?_
    refine lv_istore_n (lv' := [(2, .int (0 : Int32)), (0, .ref x0), (1, .int x1)]) hx hb dJ7_fill_53178_1 rfl hl (by decide) rfl (fun ls hl => ?_)
    refine lv_aload_n hx hb dJ7_fill_53178_2 rfl (lv_at hl 1 rfl) ?_
    refine mo_wln C A dJ7_fill_53178_3 hF (fun v2 hF => ?_)
    refine lv_istore_n (lv' := [(3, .int v2), (2, .int (0 : Int32)), (0, .ref x0), (1, .int x1)]) hx hb dJ7_fill_53178_4 rfl hl (by decide) rfl (fun ls hl => ?_)
    exact J5 mo_fu x0 x1 (0 : Int32) v2 h H locs ls A (lv_sub hl [2, 3, 1, 0] rfl) hF
  exact E h0 s.heap [] hF A
set_option maxHeartbeats 4000000 in
set_option maxRecDepth 100000 in
theorem c_X6_clear (l : Launch) (D : va_G) (dA : Nat → ClassId) (b0 : Nat) (x0 : Nat) : mo_Met l yX6_clear [Cond.code yX6_clear cX6_clear 1 none] 0 0 D dA b0 [.ref x0] (fun _ : Unit => none) (F_X6_clear x0) := by
  refine mo_MetOf (own := RX6) (by decide) (Nat.le_of_ble_eq_true rfl) [(0, .ref x0)] rfl rfl ?_
  intro p e R s m args below meth c Q h0 h2 z ls hQ C hml hr hlocks hnm hfr hlo hF A hl
  have hx := C.1
  have hb := C.2.1
  have hown := C.2.2.1
  have hts := C.2.2.2.1
  have hK := C.2.2.2.2.1
  have iX6 := inlX6
  unfold F_X6_clear at hF
  obtain ⟨-, hF⟩ := mo_ckE hF
  have E : ∀ (h : mo_H) (H : Heap) (locs : List Loc), (mo_b (mo_pV x0 6 1 (.int (0 : Int32))) fun _ => mo_b (mo_pV x0 6 2 (.int (0 : Int32))) fun _ => mo_ret ()).1 h = some (z, h2) → mo_A D dA b0 s.heap h0 h H locs → W p l e R s m args below meth c H locs (h.2.1 - h0.2.1) (h.2.2 - h0.2.2) Q (F0 m 0 ls []) := by
    intro h H locs hF A
    refine lv_aload_n hx hb dX6_clear_0 rfl (lv_at hl 0 rfl) ?_
    refine lv_iconst (v := (0 : Int32)) hx hb dX6_clear_1 (by decide) ?_
    refine mo_wpV C A (T := TX6) iX6 tyX6 tyX6_ok nmX6 rfl 1 (by decide) tb_365 rfl rfl rfl rfl dX6_clear_2 hF (fun h H locs hF A => ?_)
    refine lv_aload_n hx hb dX6_clear_5 rfl (lv_at hl 0 rfl) ?_
    refine lv_iconst (v := (0 : Int32)) hx hb dX6_clear_6 (by decide) ?_
    refine mo_wpV C A (T := TX6) iX6 tyX6 tyX6_ok nmX6 rfl 2 (by decide) tb_366 rfl rfl rfl rfl dX6_clear_7 hF (fun h H locs hF A => ?_)
    rw [hQ]
    exact mo_vret C A hr hlocks dX6_clear_10 hF
  exact E h0 s.heap [] hF A
set_option maxHeartbeats 4000000 in
set_option maxRecDepth 100000 in
theorem c_X1_reset (l : Launch) (D : va_G) (dA : Nat → ClassId) (b0 : Nat) (x0 : Nat) : mo_Met l yX1_reset [Cond.code yX1_reset cX1_reset 1 none] 1 23 D dA b0 [.ref x0] (fun _ : Unit => none) (F_X1_reset x0) := by
  refine mo_MetOf (own := RX1) (by decide) (Nat.le_of_ble_eq_true rfl) [(0, .ref x0)] rfl rfl ?_
  intro p e R s m args below meth c Q h0 h2 z ls hQ C hml hr hlocks hnm hfr hlo hF A hl
  have hx := C.1
  have hb := C.2.1
  have hown := C.2.2.1
  have hts := C.2.2.2.1
  have hK := C.2.2.2.2.1
  have iX1 := inlX1
  unfold F_X1_reset at hF
  obtain ⟨-, hF⟩ := mo_ckE hF
  have E : ∀ (h : mo_H) (H : Heap) (locs : List Loc), (mo_b (mo_gR x0 1 1) fun v1 => mo_b (F_X6_clear v1) fun v2 => mo_b (mo_gR x0 1 2) fun v3 => mo_b (F_X6_clear v3) fun v4 => mo_b (mo_pV x0 1 3 (.int (0 : Int32))) fun _ => mo_b (mo_pV x0 1 4 (.int (0 : Int32))) fun _ => mo_b (mo_gR x0 1 5) fun v5 => mo_b (F_J7_fill_53178 v5 (0 : Int32)) fun v6 => mo_b (mo_pV x0 1 6 (.int (0 : Int32))) fun _ => mo_b (mo_pV x0 1 7 (.int (0 : Int32))) fun _ => mo_ret ()).1 h = some (z, h2) → mo_A D dA b0 s.heap h0 h H locs → W p l e R s m args below meth c H locs (h.2.1 - h0.2.1) (h.2.2 - h0.2.2) Q (F0 m 0 ls []) := by
    intro h H locs hF A
    refine lv_aload_n hx hb dX1_reset_0 rfl (lv_at hl 0 rfl) ?_
    refine mo_wR C A (T := TX1) iX1 rfl 1 (by decide) tb_92 rfl dX1_reset_1 hF (fun v1 hF => ?_)
    refine mo_cV (n := 0) (As := []) (rest := []) C A hml hl.1 (c_X6_clear l D dA b0 v1) (ci := 6) (q := (RX6, TX6, 3)) rfl (fun _ e => (mo_ckE e).1) (tb_v tb_367 tb_368 tb_369 tb_91 tb_370) rfl (by decide +kernel) ⟨Nat.le_trans (by decide) hfr, Nat.le_trans (Nat.le_of_ble_eq_true rfl) hlo⟩ rfl (Nat.le_of_ble_eq_true rfl) rfl dX1_reset_4 hF (fun v2 h H locs hF A => ?_)
    show W _ _ _ _ _ _ _ _ _ _ _ _ _ _ _ (F0 m 7 ls [])
    refine lv_aload_n hx hb dX1_reset_7 rfl (lv_at hl 0 rfl) ?_
    refine mo_wR C A (T := TX1) iX1 rfl 2 (by decide) tb_93 rfl dX1_reset_8 hF (fun v3 hF => ?_)
    refine mo_cV (n := 0) (As := []) (rest := []) C A hml hl.1 (c_X6_clear l D dA b0 v3) (ci := 6) (q := (RX6, TX6, 3)) rfl (fun _ e => (mo_ckE e).1) (tb_v tb_367 tb_368 tb_369 tb_91 tb_370) rfl (by decide +kernel) ⟨Nat.le_trans (by decide) hfr, Nat.le_trans (Nat.le_of_ble_eq_true rfl) hlo⟩ rfl (Nat.le_of_ble_eq_true rfl) rfl dX1_reset_11 hF (fun v4 h H locs hF A => ?_)
    show W _ _ _ _ _ _ _ _ _ _ _ _ _ _ _ (F0 m 14 ls [])
    refine lv_aload_n hx hb dX1_reset_14 rfl (lv_at hl 0 rfl) ?_
    refine lv_iconst (v := (0 : Int32)) hx hb dX1_reset_15 (by decide) ?_
    refine mo_wpV C A (T := TX1) iX1 tyX1 tyX1_ok nmX1 rfl 3 (by decide) tb_704 rfl rfl rfl rfl dX1_reset_16 hF (fun h H locs hF A => ?_)
    refine lv_aload_n hx hb dX1_reset_19 rfl (lv_at hl 0 rfl) ?_
    refine lv_iconst (v := (0 : Int32)) hx hb dX1_reset_20 (by decide) ?_
    refine mo_wpV C A (T := TX1) iX1 tyX1 tyX1_ok nmX1 rfl 4 (by decide) tb_360 rfl rfl rfl rfl dX1_reset_21 hF (fun h H locs hF A => ?_)
    refine lv_aload_n hx hb dX1_reset_24 rfl (lv_at hl 0 rfl) ?_
    refine mo_wR C A (T := TX1) iX1 rfl 5 (by decide) tb_94 rfl dX1_reset_25 hF (fun v5 hF => ?_)
    refine lv_iconst (v := (0 : Int32)) hx hb dX1_reset_28 (by decide) ?_
    refine mo_cS (n := 2) (As := [.ref v5, .int (0 : Int32)]) (rest := []) C A hml hl.1 (c_J7_fill_53178 l D dA b0 v5 (0 : Int32)) (tb_s tb_705 tb_513 tb_238 tb_514) rfl (by decide +kernel) ⟨Nat.le_trans (by decide) hfr, Nat.le_trans (Nat.le_of_ble_eq_true rfl) hlo⟩ rfl (Nat.le_of_ble_eq_true rfl) rfl dX1_reset_29 hF (fun v6 h H locs hF A => ?_)
    show W _ _ _ _ _ _ _ _ _ _ _ _ _ _ _ (F0 m 32 ls [])
    refine lv_aload_n hx hb dX1_reset_32 rfl (lv_at hl 0 rfl) ?_
    refine lv_iconst (v := (0 : Int32)) hx hb dX1_reset_33 (by decide) ?_
    refine mo_wpV C A (T := TX1) iX1 tyX1 tyX1_ok nmX1 rfl 6 (by decide) tb_481 rfl rfl rfl rfl dX1_reset_34 hF (fun h H locs hF A => ?_)
    refine lv_aload_n hx hb dX1_reset_37 rfl (lv_at hl 0 rfl) ?_
    refine lv_iconst (v := (0 : Int32)) hx hb dX1_reset_38 (by decide) ?_
    refine mo_wpV C A (T := TX1) iX1 tyX1 tyX1_ok nmX1 rfl 7 (by decide) tb_482 rfl rfl rfl rfl dX1_reset_39 hF (fun h H locs hF A => ?_)
    rw [hQ]
    exact mo_vret C A hr hlocks dX1_reset_42 hF
  exact E h0 s.heap [] hF A
set_option maxHeartbeats 4000000 in
set_option maxRecDepth 100000 in
theorem c_X6_left (l : Launch) (D : va_G) (dA : Nat → ClassId) (b0 : Nat) (x0 : Nat) : mo_Met l yX6_left [Cond.code yX6_left cX6_left 1 (some .int)] 0 0 D dA b0 [.ref x0] (fun r : Int32 => some (.int r)) (F_X6_left x0) := by
  refine mo_MetOf (own := RX6) (by decide) (Nat.le_of_ble_eq_true rfl) [(0, .ref x0)] rfl rfl ?_
  intro p e R s m args below meth c Q h0 h2 z ls hQ C hml hr hlocks hnm hfr hlo hF A hl
  have hx := C.1
  have hb := C.2.1
  have hown := C.2.2.1
  have hts := C.2.2.2.1
  have hK := C.2.2.2.2.1
  have iX6 := inlX6
  unfold F_X6_left at hF
  obtain ⟨-, hF⟩ := mo_ckE hF
  have E : ∀ (h : mo_H) (H : Heap) (locs : List Loc), (mo_b (mo_gI x0 6 1) fun v1 => mo_b (mo_gI x0 6 2) fun v2 => mo_ret (v1 - v2)).1 h = some (z, h2) → mo_A D dA b0 s.heap h0 h H locs → W p l e R s m args below meth c H locs (h.2.1 - h0.2.1) (h.2.2 - h0.2.2) Q (F0 m 0 ls []) := by
    intro h H locs hF A
    refine lv_aload_n hx hb dX6_left_0 rfl (lv_at hl 0 rfl) ?_
    refine mo_wI C A (T := TX6) iX6 rfl 1 (by decide) tb_365 rfl dX6_left_1 hF (fun v1 hF => ?_)
    refine lv_aload_n hx hb dX6_left_4 rfl (lv_at hl 0 rfl) ?_
    refine mo_wI C A (T := TX6) iX6 rfl 2 (by decide) tb_366 rfl dX6_left_5 hF (fun v2 hF => ?_)
    refine lv_isub hx hb dX6_left_8 ?_
    rw [hQ]
    exact mo_iret C A hr hlocks dX6_left_9 hF
  exact E h0 s.heap [] hF A
set_option maxHeartbeats 4000000 in
set_option maxRecDepth 100000 in
theorem c_X1_handOver (l : Launch) (D : va_G) (dA : Nat → ClassId) (b0 : Nat) (x0 : Nat) : mo_Met l yX1_handOver [Cond.code yX1_handOver cX1_handOver 2 none] 1 20 D dA b0 [.ref x0] (fun _ : Unit => none) (F_X1_handOver x0) := by
  refine mo_MetOf (own := RX1) (by decide) (Nat.le_of_ble_eq_true rfl) [(0, .ref x0)] rfl rfl ?_
  intro p e R s m args below meth c Q h0 h2 z ls hQ C hml hr hlocks hnm hfr hlo hF A hl
  have hx := C.1
  have hb := C.2.1
  have hown := C.2.2.1
  have hts := C.2.2.2.1
  have hK := C.2.2.2.2.1
  have iX1 := inlX1
  unfold F_X1_handOver at hF
  obtain ⟨-, hF⟩ := mo_ckE hF
  have E : ∀ (h : mo_H) (H : Heap) (locs : List Loc), (mo_b (mo_gI x0 1 4) fun v1 => mo_b (mo_gR x0 1 1) fun v2 => mo_b (F_X6_left v2) fun v3 => mo_b (mo_pV x0 1 4 (.int (v1 + v3))) fun _ => mo_b (mo_gR x0 1 1) fun v4 => mo_b (F_X6_clear v4) fun v5 => mo_b (mo_gR x0 1 2) fun v6 => mo_b (mo_pV x0 1 1 (.ref v6)) fun _ => mo_b (mo_pV x0 1 2 (.ref v4)) fun _ => mo_ret ()).1 h = some (z, h2) → mo_A D dA b0 s.heap h0 h H locs → W p l e R s m args below meth c H locs (h.2.1 - h0.2.1) (h.2.2 - h0.2.2) Q (F0 m 0 ls []) := by
    intro h H locs hF A
    refine lv_aload_n hx hb dX1_handOver_0 rfl (lv_at hl 0 rfl) ?_
    refine lv_dup hx hb dX1_handOver_1 rfl ?_
    refine mo_wI C A (T := TX1) iX1 rfl 4 (by decide) tb_360 rfl dX1_handOver_2 hF (fun v1 hF => ?_)
    refine lv_aload_n hx hb dX1_handOver_5 rfl (lv_at hl 0 rfl) ?_
    refine mo_wR C A (T := TX1) iX1 rfl 1 (by decide) tb_92 rfl dX1_handOver_6 hF (fun v2 hF => ?_)
    refine mo_cV (n := 0) (As := []) (rest := [.int v1, .ref x0]) C A hml hl.1 (c_X6_left l D dA b0 v2) (ci := 6) (q := (RX6, TX6, 3)) rfl (fun _ e => (mo_ckE e).1) (tb_v tb_361 tb_362 tb_363 tb_91 tb_364) rfl (by decide +kernel) ⟨Nat.le_trans (by decide) hfr, Nat.le_trans (Nat.le_of_ble_eq_true rfl) hlo⟩ rfl (Nat.le_of_ble_eq_true rfl) rfl dX1_handOver_9 hF (fun v3 h H locs hF A => ?_)
    show W _ _ _ _ _ _ _ _ _ _ _ _ _ _ _ (F0 m 12 ls [.int v3, .int v1, .ref x0])
    refine lv_iadd hx hb dX1_handOver_12 ?_
    refine mo_wpV C A (T := TX1) iX1 tyX1 tyX1_ok nmX1 rfl 4 (by decide) tb_360 rfl rfl rfl rfl dX1_handOver_13 hF (fun h H locs hF A => ?_)
    refine lv_aload_n hx hb dX1_handOver_16 rfl (lv_at hl 0 rfl) ?_
    refine mo_wR C A (T := TX1) iX1 rfl 1 (by decide) tb_92 rfl dX1_handOver_17 hF (fun v4 hF => ?_)
    refine lv_astore_n (lv' := [(1, .ref v4), (0, .ref x0)]) hx hb dX1_handOver_20 rfl hl (by decide) rfl (fun ls hl => ?_)
    refine lv_aload_n hx hb dX1_handOver_21 rfl (lv_at hl 0 rfl) ?_
    refine mo_cV (n := 0) (As := []) (rest := []) C A hml hl.1 (c_X6_clear l D dA b0 v4) (ci := 6) (q := (RX6, TX6, 3)) rfl (fun _ e => (mo_ckE e).1) (tb_v tb_367 tb_368 tb_369 tb_91 tb_370) rfl (by decide +kernel) ⟨Nat.le_trans (by decide) hfr, Nat.le_trans (Nat.le_of_ble_eq_true rfl) hlo⟩ rfl (Nat.le_of_ble_eq_true rfl) rfl dX1_handOver_22 hF (fun v5 h H locs hF A => ?_)
    show W _ _ _ _ _ _ _ _ _ _ _ _ _ _ _ (F0 m 25 ls [])
    refine lv_aload_n hx hb dX1_handOver_25 rfl (lv_at hl 1 rfl) ?_
    refine lv_aload_n hx hb dX1_handOver_26 rfl (lv_at hl 1 rfl) ?_
    refine mo_wR C A (T := TX1) iX1 rfl 2 (by decide) tb_93 rfl dX1_handOver_27 hF (fun v6 hF => ?_)
    refine mo_wpV C A (T := TX1) iX1 tyX1 tyX1_ok nmX1 rfl 1 (by decide) tb_92 rfl rfl rfl rfl dX1_handOver_30 hF (fun h H locs hF A => ?_)
    refine lv_aload_n hx hb dX1_handOver_33 rfl (lv_at hl 1 rfl) ?_
    refine lv_aload_n hx hb dX1_handOver_34 rfl (lv_at hl 0 rfl) ?_
    refine mo_wpV C A (T := TX1) iX1 tyX1 tyX1_ok nmX1 rfl 2 (by decide) tb_93 rfl rfl rfl rfl dX1_handOver_35 hF (fun h H locs hF A => ?_)
    rw [hQ]
    exact mo_vret C A hr hlocks dX1_handOver_38 hF
  exact E h0 s.heap [] hF A
set_option maxHeartbeats 4000000 in
set_option maxRecDepth 100000 in
theorem c_X1_age (l : Launch) (D : va_G) (dA : Nat → ClassId) (b0 : Nat) (x0 : Nat) (x1 : Int32) : mo_Met l yX1_age [Cond.code yX1_age cX1_age 2 (some .int)] 0 0 D dA b0 [.ref x0, .int x1] (fun r : Int32 => some (.int r)) (F_X1_age x0 x1) := by
  refine mo_MetOf (own := RX1) (by decide) (Nat.le_of_ble_eq_true rfl) [(0, .ref x0), (1, .int x1)] rfl rfl ?_
  intro p e R s m args below meth c Q h0 h2 z ls hQ C hml hr hlocks hnm hfr hlo hF A hl
  have hx := C.1
  have hb := C.2.1
  have hown := C.2.2.1
  have hts := C.2.2.2.1
  have hK := C.2.2.2.2.1
  have iX1 := inlX1
  unfold F_X1_age at hF
  obtain ⟨-, hF⟩ := mo_ckE hF
  have E : ∀ (h : mo_H) (H : Heap) (locs : List Loc), (mo_b (mo_gI x0 1 6) fun v1 => (if v1 = 0 then mo_ret (-1 : Int32) else mo_b (mo_gI x0 1 7) fun v3 => mo_ret (x1 - v3))).1 h = some (z, h2) → mo_A D dA b0 s.heap h0 h H locs → W p l e R s m args below meth c H locs (h.2.1 - h0.2.1) (h.2.2 - h0.2.2) Q (F0 m 0 ls []) := by
    intro h H locs hF A
    refine lv_aload_n hx hb dX1_age_0 rfl (lv_at hl 0 rfl) ?_
    refine mo_wI C A (T := TX1) iX1 rfl 6 (by decide) tb_481 rfl dX1_age_1 hF (fun v1 hF => ?_)
    refine lv_if_ne (tgt := 11) hx hb dX1_age_4 (by decide) (fun c2 => ?_) (fun c2 => ?_)
    · have hF := mo_ifF c2 hF
      refine lv_iload_n hx hb dX1_age_11 rfl (lv_at hl 1 rfl) ?_
      refine lv_aload_n hx hb dX1_age_12 rfl (lv_at hl 0 rfl) ?_
      refine mo_wI C A (T := TX1) iX1 rfl 7 (by decide) tb_482 rfl dX1_age_13 hF (fun v3 hF => ?_)
      refine lv_isub hx hb dX1_age_16 ?_
      rw [hQ]
      exact mo_iret C A hr hlocks dX1_age_17 hF
    · have hF := mo_ifT c2 hF
      refine lv_iconst (v := (-1 : Int32)) hx hb dX1_age_7 (by decide) ?_
      refine lv_goto (tgt := 17) hx hb dX1_age_8 (by decide) ?_
      rw [hQ]
      exact mo_iret C A hr hlocks dX1_age_17 hF
  exact E h0 s.heap [] hF A
set_option maxHeartbeats 4000000 in
set_option maxRecDepth 100000 in
theorem c_X6_isSameRecord (l : Launch) (D : va_G) (dA : Nat → ClassId) (b0 : Nat) (x0 : Nat) (x1 : Int32) (x2 : Nat) (x3 : Int32) : mo_Met l yX6_isSameRecord [Cond.code yX6_isSameRecord cX6_isSameRecord 5 (some .boolean)] 0 0 D dA b0 [.ref x0, .int x1, .ref x2, .int x3] (fun r : Int32 => some (.int r)) (F_X6_isSameRecord x0 x1 x2 x3) := by
  refine mo_MetOf (own := RX6) (by decide) (Nat.le_of_ble_eq_true rfl) [(0, .ref x0), (1, .int x1), (2, .ref x2), (3, .int x3)] rfl rfl ?_
  intro p e R s m args below meth c Q h0 h2 z ls hQ C hml hr hlocks hnm hfr hlo hF A hl
  have hx := C.1
  have hb := C.2.1
  have hown := C.2.2.1
  have hts := C.2.2.2.1
  have hK := C.2.2.2.2.1
  have iX6 := inlX6
  have J3 : ∀   (fu : Nat) (x0 : Nat) (x1 : Int32) (x2 : Nat) (x3 : Int32) (x4 : Int32) (h : mo_H) (H : Heap) (locs : List Loc) (ls : Array Slot), mo_A D dA b0 s.heap h0 h H locs → lv_has ls 5 [(0, .ref x0), (1, .int x1), (2, .ref x2), (3, .int x3), (4, .int x4)] → (F_X6_isSameRecord_3 fu x0 x1 x2 x3 x4).1 h = some (z, h2) → W p l e R s m args below meth c H locs (h.2.1 - h0.2.1) (h.2.2 - h0.2.2) Q (F0 m 3 ls []) := by
    intro  fu
    induction fu with
    | zero =>
      intro x0 x1 x2 x3 x4 h H locs ls A hl hF
      unfold F_X6_isSameRecord_3 at hF
      cases hF
    | succ fu ih =>
      intro x0 x1 x2 x3 x4 h H locs ls A hl hF
      unfold F_X6_isSameRecord_3 at hF
      refine lv_iload hx hb dX6_isSameRecord_3 (lv_at hl 4 rfl) ?_
      refine lv_aload_n hx hb dX6_isSameRecord_5 rfl (lv_at hl 0 rfl) ?_
      refine mo_wR C A (T := TX6) iX6 rfl 0 (by decide) tb_100 rfl dX6_isSameRecord_6 hF (fun v1 hF => ?_)
      refine lv_iload_n hx hb dX6_isSameRecord_9 rfl (lv_at hl 1 rfl) ?_
      refine mo_wla C A dX6_isSameRecord_10 hF (fun v2 hF => ?_)
      refine lv_icmp_gt (tgt := 43) hx hb dX6_isSameRecord_11 (by decide) (fun c3 => ?_) (fun c3 => ?_)
      · have hF := mo_ifT c3 hF
        refine lv_iconst (v := (1 : Int32)) hx hb dX6_isSameRecord_43 (by decide) ?_
        rw [hQ]
        exact mo_zret C A hr hlocks dX6_isSameRecord_44 hF
      · have hF := mo_ifF c3 hF
        refine lv_aload_n hx hb dX6_isSameRecord_14 rfl (lv_at hl 0 rfl) ?_
        refine mo_wR C A (T := TX6) iX6 rfl 0 (by decide) tb_100 rfl dX6_isSameRecord_15 hF (fun v4 hF => ?_)
        refine lv_iload_n hx hb dX6_isSameRecord_18 rfl (lv_at hl 1 rfl) ?_
        refine lv_iload hx hb dX6_isSameRecord_19 (lv_at hl 4 rfl) ?_
        refine lv_iadd hx hb dX6_isSameRecord_21 ?_
        refine mo_wla C A dX6_isSameRecord_22 hF (fun v5 hF => ?_)
        refine lv_aload_n hx hb dX6_isSameRecord_23 rfl (lv_at hl 2 rfl) ?_
        refine mo_wR C A (T := TX6) iX6 rfl 0 (by decide) tb_100 rfl dX6_isSameRecord_24 hF (fun v6 hF => ?_)
        refine lv_iload_n hx hb dX6_isSameRecord_27 rfl (lv_at hl 3 rfl) ?_
        refine lv_iload hx hb dX6_isSameRecord_28 (lv_at hl 4 rfl) ?_
        refine lv_iadd hx hb dX6_isSameRecord_30 ?_
        refine mo_wla C A dX6_isSameRecord_31 hF (fun v7 hF => ?_)
        refine lv_icmp_eq (tgt := 37) hx hb dX6_isSameRecord_32 (by decide) (fun c8 => ?_) (fun c8 => ?_)
        · have hF := mo_ifT c8 hF
          refine lv_iinc (v := (x4 + (1 : Int32))) (lv' := [(4, .int (x4 + (1 : Int32))), (0, .ref x0), (1, .int x1), (2, .ref x2), (3, .int x3)]) hx hb dX6_isSameRecord_37 hl (k := 4) rfl rfl (by decide) rfl (fun ls hl => ?_)
          refine lv_goto (tgt := 3) hx hb dX6_isSameRecord_40 (by decide) ?_
          exact ih x0 x1 x2 x3 (x4 + (1 : Int32)) h H locs ls A (lv_sub hl [1, 2, 3, 4, 0] rfl) hF
        · have hF := mo_ifF c8 hF
          refine lv_iconst (v := (0 : Int32)) hx hb dX6_isSameRecord_35 (by decide) ?_
          rw [hQ]
          exact mo_zret C A hr hlocks dX6_isSameRecord_36 hF
  unfold F_X6_isSameRecord at hF
  obtain ⟨-, hF⟩ := mo_ckE hF
  have E : ∀ (h : mo_H) (H : Heap) (locs : List Loc), (F_X6_isSameRecord_3 mo_fu x0 x1 x2 x3 (0 : Int32)).1 h = some (z, h2) → mo_A D dA b0 s.heap h0 h H locs → W p l e R s m args below meth c H locs (h.2.1 - h0.2.1) (h.2.2 - h0.2.2) Q (F0 m 0 ls []) := by
    intro h H locs hF A
    refine lv_iconst (v := (0 : Int32)) hx hb dX6_isSameRecord_0 (by decide) ?_
    refine lv_istore (lv' := [(4, .int (0 : Int32)), (0, .ref x0), (1, .int x1), (2, .ref x2), (3, .int x3)]) hx hb dX6_isSameRecord_1 hl (by decide) rfl (fun ls hl => ?_)
    exact J3 mo_fu x0 x1 x2 x3 (0 : Int32) h H locs ls A (lv_sub hl [1, 2, 3, 4, 0] rfl) hF
  exact E h0 s.heap [] hF A
set_option maxHeartbeats 4000000 in
set_option maxRecDepth 100000 in
theorem c_X6_isSame (l : Launch) (D : va_G) (dA : Nat → ClassId) (b0 : Nat) (x0 : Nat) (x1 : Nat) : mo_Met l yX6_isSame [Cond.code yX6_isSame cX6_isSame 3 (some .boolean)] 1 24 D dA b0 [.ref x0, .ref x1] (fun r : Int32 => some (.int r)) (F_X6_isSame x0 x1) := by
  refine mo_MetOf (own := RX6) (by decide) (Nat.le_of_ble_eq_true rfl) [(0, .ref x0), (1, .ref x1)] rfl rfl ?_
  intro p e R s m args below meth c Q h0 h2 z ls hQ C hml hr hlocks hnm hfr hlo hF A hl
  have hx := C.1
  have hb := C.2.1
  have hown := C.2.2.1
  have hts := C.2.2.2.1
  have hK := C.2.2.2.2.1
  have iX6 := inlX6
  have J15 : ∀   (fu : Nat) (x0 : Nat) (x1 : Nat) (x2 : Int32) (h : mo_H) (H : Heap) (locs : List Loc) (ls : Array Slot), mo_A D dA b0 s.heap h0 h H locs → lv_has ls 3 [(0, .ref x0), (1, .ref x1), (2, .int x2)] → (F_X6_isSame_15 fu x0 x1 x2).1 h = some (z, h2) → W p l e R s m args below meth c H locs (h.2.1 - h0.2.1) (h.2.2 - h0.2.2) Q (F0 m 15 ls []) := by
    intro  fu
    induction fu with
    | zero =>
      intro x0 x1 x2 h H locs ls A hl hF
      unfold F_X6_isSame_15 at hF
      cases hF
    | succ fu ih =>
      intro x0 x1 x2 h H locs ls A hl hF
      unfold F_X6_isSame_15 at hF
      refine lv_iload_n hx hb dX6_isSame_15 rfl (lv_at hl 2 rfl) ?_
      refine lv_aload_n hx hb dX6_isSame_16 rfl (lv_at hl 0 rfl) ?_
      refine mo_cV (n := 0) (As := []) (rest := [.int x2]) C A hml hl.1 (c_X6_left l D dA b0 x0) (ci := 6) (q := (RX6, TX6, 3)) rfl (fun _ e => (mo_ckE e).1) (tb_v tb_767 tb_362 tb_363 tb_91 tb_364) rfl (by decide +kernel) ⟨Nat.le_trans (by decide) hfr, Nat.le_trans (Nat.le_of_ble_eq_true rfl) hlo⟩ rfl (Nat.le_of_ble_eq_true rfl) rfl dX6_isSame_17 hF (fun v1 h H locs hF A => ?_)
      show W _ _ _ _ _ _ _ _ _ _ _ _ _ _ _ (F0 m 20 ls [.int v1, .int x2])
      refine lv_icmp_ge (tgt := 55) hx hb dX6_isSame_20 (by decide) (fun c2 => ?_) (fun c2 => ?_)
      · have hF := mo_ifT c2 hF
        refine lv_iconst (v := (1 : Int32)) hx hb dX6_isSame_55 (by decide) ?_
        rw [hQ]
        exact mo_zret C A hr hlocks dX6_isSame_56 hF
      · have hF := mo_ifF c2 hF
        refine lv_aload_n hx hb dX6_isSame_23 rfl (lv_at hl 0 rfl) ?_
        refine lv_iconst (v := (5 : Int32)) hx hb dX6_isSame_24 (by decide) ?_
        refine lv_aload_n hx hb dX6_isSame_25 rfl (lv_at hl 0 rfl) ?_
        refine mo_wI C A (T := TX6) iX6 rfl 2 (by decide) tb_366 rfl dX6_isSame_26 hF (fun v3 hF => ?_)
        refine lv_iload_n hx hb dX6_isSame_29 rfl (lv_at hl 2 rfl) ?_
        refine lv_iadd hx hb dX6_isSame_30 ?_
        refine lv_imul hx hb dX6_isSame_31 ?_
        refine lv_aload_n hx hb dX6_isSame_32 rfl (lv_at hl 1 rfl) ?_
        refine lv_iconst (v := (5 : Int32)) hx hb dX6_isSame_33 (by decide) ?_
        refine lv_aload_n hx hb dX6_isSame_34 rfl (lv_at hl 1 rfl) ?_
        refine mo_wI C A (T := TX6) iX6 rfl 2 (by decide) tb_366 rfl dX6_isSame_35 hF (fun v4 hF => ?_)
        refine lv_iload_n hx hb dX6_isSame_38 rfl (lv_at hl 2 rfl) ?_
        refine lv_iadd hx hb dX6_isSame_39 ?_
        refine lv_imul hx hb dX6_isSame_40 ?_
        refine mo_cV (n := 3) (As := [.int ((5 : Int32) * (v3 + x2)), .ref x1, .int ((5 : Int32) * (v4 + x2))]) (rest := []) C A hml hl.1 (c_X6_isSameRecord l D dA b0 x0 ((5 : Int32) * (v3 + x2)) x1 ((5 : Int32) * (v4 + x2))) (ci := 6) (q := (RX6, TX6, 3)) rfl (fun _ e => (mo_ckE e).1) (tb_v tb_768 tb_769 tb_770 tb_91 tb_771) rfl (by decide +kernel) ⟨Nat.le_trans (by decide) hfr, Nat.le_trans (Nat.le_of_ble_eq_true rfl) hlo⟩ rfl (Nat.le_of_ble_eq_true rfl) rfl dX6_isSame_41 hF (fun v5 h H locs hF A => ?_)
        show W _ _ _ _ _ _ _ _ _ _ _ _ _ _ _ (F0 m 44 ls [.int v5])
        refine lv_if_ne (tgt := 49) hx hb dX6_isSame_44 (by decide) (fun c6 => ?_) (fun c6 => ?_)
        · have hF := mo_ifF c6 hF
          refine lv_iinc (v := (x2 + (1 : Int32))) (lv' := [(2, .int (x2 + (1 : Int32))), (0, .ref x0), (1, .ref x1)]) hx hb dX6_isSame_49 hl (k := 2) rfl rfl (by decide) rfl (fun ls hl => ?_)
          refine lv_goto (tgt := 15) hx hb dX6_isSame_52 (by decide) ?_
          exact ih x0 x1 (x2 + (1 : Int32)) h H locs ls A (lv_sub hl [1, 2, 0] rfl) hF
        · have hF := mo_ifT c6 hF
          refine lv_iconst (v := (0 : Int32)) hx hb dX6_isSame_47 (by decide) ?_
          rw [hQ]
          exact mo_zret C A hr hlocks dX6_isSame_48 hF
  unfold F_X6_isSame at hF
  obtain ⟨-, hF⟩ := mo_ckE hF
  have E : ∀ (h : mo_H) (H : Heap) (locs : List Loc), (mo_b (F_X6_left x0) fun v7 => mo_b (F_X6_left x1) fun v8 => (if v7 = v8 then F_X6_isSame_15 mo_fu x0 x1 (0 : Int32) else mo_rz (0 : Int32))).1 h = some (z, h2) → mo_A D dA b0 s.heap h0 h H locs → W p l e R s m args below meth c H locs (h.2.1 - h0.2.1) (h.2.2 - h0.2.2) Q (F0 m 0 ls []) := by
    intro h H locs hF A
    refine lv_aload_n hx hb dX6_isSame_0 rfl (lv_at hl 0 rfl) ?_
    refine mo_cV (n := 0) (As := []) (rest := []) C A hml hl.1 (c_X6_left l D dA b0 x0) (ci := 6) (q := (RX6, TX6, 3)) rfl (fun _ e => (mo_ckE e).1) (tb_v tb_767 tb_362 tb_363 tb_91 tb_364) rfl (by decide +kernel) ⟨Nat.le_trans (by decide) hfr, Nat.le_trans (Nat.le_of_ble_eq_true rfl) hlo⟩ rfl (Nat.le_of_ble_eq_true rfl) rfl dX6_isSame_1 hF (fun v7 h H locs hF A => ?_)
    show W _ _ _ _ _ _ _ _ _ _ _ _ _ _ _ (F0 m 4 ls [.int v7])
    refine lv_aload_n hx hb dX6_isSame_4 rfl (lv_at hl 1 rfl) ?_
    refine mo_cV (n := 0) (As := []) (rest := [.int v7]) C A hml hl.1 (c_X6_left l D dA b0 x1) (ci := 6) (q := (RX6, TX6, 3)) rfl (fun _ e => (mo_ckE e).1) (tb_v tb_767 tb_362 tb_363 tb_91 tb_364) rfl (by decide +kernel) ⟨Nat.le_trans (by decide) hfr, Nat.le_trans (Nat.le_of_ble_eq_true rfl) hlo⟩ rfl (Nat.le_of_ble_eq_true rfl) rfl dX6_isSame_5 hF (fun v8 h H locs hF A => ?_)
    show W _ _ _ _ _ _ _ _ _ _ _ _ _ _ _ (F0 m 8 ls [.int v8, .int v7])
    refine lv_icmp_eq (tgt := 13) hx hb dX6_isSame_8 (by decide) (fun c9 => ?_) (fun c9 => ?_)
    · have hF := mo_ifT c9 hF
      refine lv_iconst (v := (0 : Int32)) hx hb dX6_isSame_13 (by decide) ?_
      refine lv_istore_n (lv' := [(2, .int (0 : Int32)), (0, .ref x0), (1, .ref x1)]) hx hb dX6_isSame_14 rfl hl (by decide) rfl (fun ls hl => ?_)
      exact J15 mo_fu x0 x1 (0 : Int32) h H locs ls A (lv_sub hl [1, 2, 0] rfl) hF
    · have hF := mo_ifF c9 hF
      refine lv_iconst (v := (0 : Int32)) hx hb dX6_isSame_11 (by decide) ?_
      rw [hQ]
      exact mo_zret C A hr hlocks dX6_isSame_12 hF
  exact E h0 s.heap [] hF A
set_option maxHeartbeats 4000000 in
set_option maxRecDepth 100000 in
theorem c_X1_looksSame (l : Launch) (D : va_G) (dA : Nat → ClassId) (b0 : Nat) (x0 : Nat) (x1 : Nat) (x2 : Int32) : mo_Met l yX1_looksSame [Cond.code yX1_looksSame cX1_looksSame 4 (some .boolean)] 2 46 D dA b0 [.ref x0, .ref x1, .int x2] (fun r : Int32 => some (.int r)) (F_X1_looksSame x0 x1 x2) := by
  refine mo_MetOf (own := RX1) (by decide) (Nat.le_of_ble_eq_true rfl) [(0, .ref x0), (1, .ref x1), (2, .int x2)] rfl rfl ?_
  intro p e R s m args below meth c Q h0 h2 z ls hQ C hml hr hlocks hnm hfr hlo hF A hl
  have hx := C.1
  have hb := C.2.1
  have hown := C.2.2.1
  have hts := C.2.2.2.1
  have hK := C.2.2.2.2.1
  have iX1 := inlX1
  have iX4 := inlX4
  have J78 : ∀   (x0 : Nat) (x1 : Nat) (x2 : Int32) (h : mo_H) (H : Heap) (locs : List Loc) (ls : Array Slot), mo_A D dA b0 s.heap h0 h H locs → lv_has ls 4 [(0, .ref x0), (1, .ref x1), (2, .int x2)] → (F_X1_looksSame_78 x0 x1 x2).1 h = some (z, h2) → W p l e R s m args below meth c H locs (h.2.1 - h0.2.1) (h.2.2 - h0.2.2) Q (F0 m 78 ls []) := by
    intro  x0 x1 x2 h H locs ls A hl hF
    unfold F_X1_looksSame_78 at hF
    refine lv_aload_n hx hb dX1_looksSame_78 rfl (lv_at hl 0 rfl) ?_
    refine lv_iload_n hx hb dX1_looksSame_79 rfl (lv_at hl 2 rfl) ?_
    refine mo_cV (n := 1) (As := [.int x2]) (rest := []) C A hml hl.1 (c_X1_age l D dA b0 x0 x2) (ci := 1) (q := (RX1, TX1, 8)) rfl (fun _ e => (mo_ckE e).1) (tb_v tb_772 tb_478 tb_479 tb_69 tb_480) rfl (by decide +kernel) ⟨Nat.le_trans (by decide) hfr, Nat.le_trans (Nat.le_of_ble_eq_true rfl) hlo⟩ rfl (Nat.le_of_ble_eq_true rfl) rfl dX1_looksSame_80 hF (fun v1 h H locs hF A => ?_)
    show W _ _ _ _ _ _ _ _ _ _ _ _ _ _ _ (F0 m 83 ls [.int v1])
    refine lv_aload_n hx hb dX1_looksSame_83 rfl (lv_at hl 1 rfl) ?_
    refine lv_iload_n hx hb dX1_looksSame_84 rfl (lv_at hl 2 rfl) ?_
    refine mo_cV (n := 1) (As := [.int x2]) (rest := [.int v1]) C A hml hl.1 (c_X1_age l D dA b0 x1 x2) (ci := 1) (q := (RX1, TX1, 8)) rfl (fun _ e => (mo_ckE e).1) (tb_v tb_772 tb_478 tb_479 tb_69 tb_480) rfl (by decide +kernel) ⟨Nat.le_trans (by decide) hfr, Nat.le_trans (Nat.le_of_ble_eq_true rfl) hlo⟩ rfl (Nat.le_of_ble_eq_true rfl) rfl dX1_looksSame_85 hF (fun v2 h H locs hF A => ?_)
    show W _ _ _ _ _ _ _ _ _ _ _ _ _ _ _ (F0 m 88 ls [.int v2, .int v1])
    refine lv_icmp_ne (tgt := 95) hx hb dX1_looksSame_88 (by decide) (fun c3 => ?_) (fun c3 => ?_)
    · have hF := mo_ifF c3 hF
      refine lv_iconst (v := (0 : Int32)) hx hb dX1_looksSame_95 (by decide) ?_
      rw [hQ]
      exact mo_zret C A hr hlocks dX1_looksSame_96 hF
    · have hF := mo_ifT c3 hF
      refine lv_iconst (v := (1 : Int32)) hx hb dX1_looksSame_91 (by decide) ?_
      refine lv_goto (tgt := 96) hx hb dX1_looksSame_92 (by decide) ?_
      rw [hQ]
      exact mo_zret C A hr hlocks dX1_looksSame_96 hF
  have J46 : ∀   (fu : Nat) (x0 : Nat) (x1 : Nat) (x2 : Int32) (x3 : Int32) (h : mo_H) (H : Heap) (locs : List Loc) (ls : Array Slot), mo_A D dA b0 s.heap h0 h H locs → lv_has ls 4 [(0, .ref x0), (1, .ref x1), (2, .int x2), (3, .int x3)] → (F_X1_looksSame_46 fu x0 x1 x2 x3).1 h = some (z, h2) → W p l e R s m args below meth c H locs (h.2.1 - h0.2.1) (h.2.2 - h0.2.2) Q (F0 m 46 ls []) := by
    intro  fu
    induction fu with
    | zero =>
      intro x0 x1 x2 x3 h H locs ls A hl hF
      unfold F_X1_looksSame_46 at hF
      cases hF
    | succ fu ih =>
      intro x0 x1 x2 x3 h H locs ls A hl hF
      unfold F_X1_looksSame_46 at hF
      refine lv_iload_n hx hb dX1_looksSame_46 rfl (lv_at hl 3 rfl) ?_
      refine lv_aload_n hx hb dX1_looksSame_47 rfl (lv_at hl 0 rfl) ?_
      refine mo_wR C A (T := TX1) iX1 rfl 5 (by decide) tb_94 rfl dX1_looksSame_48 hF (fun v4 hF => ?_)
      refine mo_wln C A dX1_looksSame_51 hF (fun v5 hF => ?_)
      refine lv_icmp_ge (tgt := 78) hx hb dX1_looksSame_52 (by decide) (fun c6 => ?_) (fun c6 => ?_)
      · have hF := mo_ifT c6 hF
        exact J78 x0 x1 x2 h H locs ls A (lv_sub hl [0, 1, 2] rfl) hF
      · have hF := mo_ifF c6 hF
        refine lv_aload_n hx hb dX1_looksSame_55 rfl (lv_at hl 0 rfl) ?_
        refine mo_wR C A (T := TX1) iX1 rfl 5 (by decide) tb_94 rfl dX1_looksSame_56 hF (fun v7 hF => ?_)
        refine lv_iload_n hx hb dX1_looksSame_59 rfl (lv_at hl 3 rfl) ?_
        refine mo_wla C A dX1_looksSame_60 hF (fun v8 hF => ?_)
        refine lv_aload_n hx hb dX1_looksSame_61 rfl (lv_at hl 1 rfl) ?_
        refine mo_wR C A (T := TX1) iX1 rfl 5 (by decide) tb_94 rfl dX1_looksSame_62 hF (fun v9 hF => ?_)
        refine lv_iload_n hx hb dX1_looksSame_65 rfl (lv_at hl 3 rfl) ?_
        refine mo_wla C A dX1_looksSame_66 hF (fun v10 hF => ?_)
        refine lv_icmp_eq (tgt := 72) hx hb dX1_looksSame_67 (by decide) (fun c11 => ?_) (fun c11 => ?_)
        · have hF := mo_ifT c11 hF
          refine lv_iinc (v := (x3 + (1 : Int32))) (lv' := [(3, .int (x3 + (1 : Int32))), (0, .ref x0), (1, .ref x1), (2, .int x2)]) hx hb dX1_looksSame_72 hl (k := 3) rfl rfl (by decide) rfl (fun ls hl => ?_)
          refine lv_goto (tgt := 46) hx hb dX1_looksSame_75 (by decide) ?_
          exact ih x0 x1 x2 (x3 + (1 : Int32)) h H locs ls A (lv_sub hl [1, 2, 3, 0] rfl) hF
        · have hF := mo_ifF c11 hF
          refine lv_iconst (v := (0 : Int32)) hx hb dX1_looksSame_70 (by decide) ?_
          rw [hQ]
          exact mo_zret C A hr hlocks dX1_looksSame_71 hF
  unfold F_X1_looksSame at hF
  obtain ⟨-, hF⟩ := mo_ckE hF
  have E : ∀ (h : mo_H) (H : Heap) (locs : List Loc), (mo_b (mo_gR x0 1 0) fun v12 => mo_b (mo_gI v12 4 2) fun v13 => (if v13 = 0 then mo_b (mo_gR x0 1 1) fun v15 => mo_b (mo_gR x1 1 1) fun v16 => mo_b (F_X6_isSame v15 v16) fun v17 => (if v17 = 0 then mo_rz (0 : Int32) else mo_b (mo_gR x0 1 2) fun v19 => mo_b (mo_gR x1 1 2) fun v20 => mo_b (F_X6_isSame v19 v20) fun v21 => (if v21 = 0 then mo_rz (0 : Int32) else mo_rz (1 : Int32))) else F_X1_looksSame_46 mo_fu x0 x1 x2 (0 : Int32))).1 h = some (z, h2) → mo_A D dA b0 s.heap h0 h H locs → W p l e R s m args below meth c H locs (h.2.1 - h0.2.1) (h.2.2 - h0.2.2) Q (F0 m 0 ls []) := by
    intro h H locs hF A
    refine lv_aload_n hx hb dX1_looksSame_0 rfl (lv_at hl 0 rfl) ?_
    refine mo_wR C A (T := TX1) iX1 rfl 0 (by decide) tb_88 rfl dX1_looksSame_1 hF (fun v12 hF => ?_)
    refine mo_wIN C A (T := TX4) iX4 rfl 2 (by decide) (List.mem_of_getElem? (i := 72) rfl) rfl dX1_looksSame_4 hF (fun v13 hF => ?_)
    refine lv_if_ne (tgt := 44) hx hb dX1_looksSame_7 (by decide) (fun c14 => ?_) (fun c14 => ?_)
    · have hF := mo_ifF c14 hF
      refine lv_iconst (v := (0 : Int32)) hx hb dX1_looksSame_44 (by decide) ?_
      refine lv_istore_n (lv' := [(3, .int (0 : Int32)), (0, .ref x0), (1, .ref x1), (2, .int x2)]) hx hb dX1_looksSame_45 rfl hl (by decide) rfl (fun ls hl => ?_)
      exact J46 mo_fu x0 x1 x2 (0 : Int32) h H locs ls A (lv_sub hl [1, 2, 3, 0] rfl) hF
    · have hF := mo_ifT c14 hF
      refine lv_aload_n hx hb dX1_looksSame_10 rfl (lv_at hl 0 rfl) ?_
      refine mo_wR C A (T := TX1) iX1 rfl 1 (by decide) tb_92 rfl dX1_looksSame_11 hF (fun v15 hF => ?_)
      refine lv_aload_n hx hb dX1_looksSame_14 rfl (lv_at hl 1 rfl) ?_
      refine mo_wR C A (T := TX1) iX1 rfl 1 (by decide) tb_92 rfl dX1_looksSame_15 hF (fun v16 hF => ?_)
      refine mo_cV (n := 1) (As := [.ref v16]) (rest := []) C A hml hl.1 (c_X6_isSame l D dA b0 v15 v16) (ci := 6) (q := (RX6, TX6, 3)) rfl (fun _ e => (mo_ckE e).1) (tb_v tb_763 tb_764 tb_765 tb_91 tb_766) rfl (by decide +kernel) ⟨Nat.le_trans (by decide) hfr, Nat.le_trans (Nat.le_of_ble_eq_true rfl) hlo⟩ rfl (Nat.le_of_ble_eq_true rfl) rfl dX1_looksSame_18 hF (fun v17 h H locs hF A => ?_)
      show W _ _ _ _ _ _ _ _ _ _ _ _ _ _ _ (F0 m 21 ls [.int v17])
      refine lv_if_eq (tgt := 42) hx hb dX1_looksSame_21 (by decide) (fun c18 => ?_) (fun c18 => ?_)
      · have hF := mo_ifT c18 hF
        refine lv_iconst (v := (0 : Int32)) hx hb dX1_looksSame_42 (by decide) ?_
        rw [hQ]
        exact mo_zret C A hr hlocks dX1_looksSame_43 hF
      · have hF := mo_ifF c18 hF
        refine lv_aload_n hx hb dX1_looksSame_24 rfl (lv_at hl 0 rfl) ?_
        refine mo_wR C A (T := TX1) iX1 rfl 2 (by decide) tb_93 rfl dX1_looksSame_25 hF (fun v19 hF => ?_)
        refine lv_aload_n hx hb dX1_looksSame_28 rfl (lv_at hl 1 rfl) ?_
        refine mo_wR C A (T := TX1) iX1 rfl 2 (by decide) tb_93 rfl dX1_looksSame_29 hF (fun v20 hF => ?_)
        refine mo_cV (n := 1) (As := [.ref v20]) (rest := []) C A hml hl.1 (c_X6_isSame l D dA b0 v19 v20) (ci := 6) (q := (RX6, TX6, 3)) rfl (fun _ e => (mo_ckE e).1) (tb_v tb_763 tb_764 tb_765 tb_91 tb_766) rfl (by decide +kernel) ⟨Nat.le_trans (by decide) hfr, Nat.le_trans (Nat.le_of_ble_eq_true rfl) hlo⟩ rfl (Nat.le_of_ble_eq_true rfl) rfl dX1_looksSame_32 hF (fun v21 h H locs hF A => ?_)
        show W _ _ _ _ _ _ _ _ _ _ _ _ _ _ _ (F0 m 35 ls [.int v21])
        refine lv_if_eq (tgt := 42) hx hb dX1_looksSame_35 (by decide) (fun c22 => ?_) (fun c22 => ?_)
        · have hF := mo_ifT c22 hF
          refine lv_iconst (v := (0 : Int32)) hx hb dX1_looksSame_42 (by decide) ?_
          rw [hQ]
          exact mo_zret C A hr hlocks dX1_looksSame_43 hF
        · have hF := mo_ifF c22 hF
          refine lv_iconst (v := (1 : Int32)) hx hb dX1_looksSame_38 (by decide) ?_
          refine lv_goto (tgt := 43) hx hb dX1_looksSame_39 (by decide) ?_
          rw [hQ]
          exact mo_zret C A hr hlocks dX1_looksSame_43 hF
  exact E h0 s.heap [] hF A
