set_option maxHeartbeats 4000000 in
set_option maxRecDepth 100000 in
theorem c_X10_purged (l : Launch) (D : va_G) (dA : Nat → ClassId) (b0 : Nat) (x0 : Nat) (x1 : Int32) (x2 : Int32) (x3 : Int32) : mo_Met l yX10_purged [Cond.code yX10_purged cX10_purged 5 (some .int)] 2 42 D dA b0 [.ref x0, .int x1, .int x2, .int x3] (fun r : Int32 => some (.int r)) (F_X10_purged x0 x1 x2 x3) := by
  refine mo_MetOf (own := RX10) (by decide) (Nat.le_of_ble_eq_true rfl) [(0, .ref x0), (1, .int x1), (2, .int x2), (3, .int x3)] rfl rfl ?_
  intro p e R s m args below meth c Q h0 h2 z ls hQ C hml hr hlocks hnm hfr hlo hF A hl
  have hx := C.1
  have hb := C.2.1
  have hown := C.2.2.1
  have hts := C.2.2.2.1
  have hK := C.2.2.2.2.1
  have iX3 := inlX3
  have iX5 := inlX5
  have iX8 := inlX8
  have iX9 := inlX9
  have iX10 := inlX10
  unfold F_X10_purged at hF
  obtain ⟨-, hF⟩ := mo_ckE hF
  have E : ∀ (h : mo_H) (H : Heap) (locs : List Loc), (mo_b (mo_gO x0 10 3) fun v1 => (mo_mO v1 (mo_ret (0 : Int32)) (fun a2 => mo_b (mo_gR x0 10 0) fun v3 => mo_b (F_X7_hasDomain v3 x1) fun v4 => (if v4 = 0 then mo_ret (0 : Int32) else mo_b (mo_gO x0 10 3) fun v6 => (mo_mO v6 mo_no (fun a7 => mo_b (mo_gR a7 8 1) fun v8 => mo_b (mo_gR v8 5 1) fun v9 => mo_b (mo_lq 4 v9 x1) fun v10 => (if x2 = (0 : Int32) then mo_b (F_X3_registerOrZero v10 x3) fun v12 => mo_ret v12 else (if x2 = (1 : Int32) then mo_b (F_X3_cellOrZero v10 x3) fun v14 => mo_ret v14 else (if x2 = (2 : Int32) then mo_b (mo_gR v10 3 3) fun v16 => mo_b (F_X9_get v16 x3) fun v17 => mo_ret v17 else (if x2 = (3 : Int32) then mo_b (mo_gI v10 3 4) fun v19 => mo_ret v19 else (if x2 = (4 : Int32) then mo_b (mo_gI v10 3 5) fun v21 => mo_ret v21 else (if x2 = (5 : Int32) then mo_b (mo_gR v10 3 3) fun v23 => mo_b (mo_gI v23 9 1) fun v24 => mo_ret v24 else (if x2 = (6 : Int32) then mo_b (mo_gI v10 3 6) fun v26 => mo_ret v26 else (if x2 = (7 : Int32) then mo_b (mo_gI v10 3 7) fun v28 => mo_ret v28 else mo_ret (0 : Int32))))))))))))))).1 h = some (z, h2) → mo_A D dA b0 s.heap h0 h H locs → W p l e R s m args below meth c H locs (h.2.1 - h0.2.1) (h.2.2 - h0.2.2) Q (F0 m 0 ls []) := by
    intro h H locs hF A
    refine lv_aload_n hx hb dX10_purged_0 rfl (lv_at hl 0 rfl) ?_
    refine mo_wO C A (T := TX10) iX10 rfl 3 (by decide) tb_660 rfl dX10_purged_1 hF (fun v1 hF => ?_)
    rcases v1 with _ | a2
    · refine lv_ifnullN (tgt := 18) hx hb dX10_purged_4 (by decide) ?_
      refine lv_iconst (v := (0 : Int32)) hx hb dX10_purged_18 (by decide) ?_
      rw [hQ]
      exact mo_iret C A hr hlocks dX10_purged_19 hF
    · refine lv_ifnull hx hb dX10_purged_4 ?_
      refine lv_aload_n hx hb dX10_purged_7 rfl (lv_at hl 0 rfl) ?_
      refine mo_wR C A (T := TX10) iX10 rfl 0 (by decide) tb_26 rfl dX10_purged_8 hF (fun v3 hF => ?_)
      refine lv_iload_n hx hb dX10_purged_11 rfl (lv_at hl 1 rfl) ?_
      refine mo_cV (n := 1) (As := [.int x1]) (rest := []) C A hml hl.1 (c_X7_hasDomain l D dA b0 v3 x1) (ci := 7) (q := (RX7, TX7, 9)) rfl (fun _ e => (mo_ckE e).1) (tb_v tb_179 tb_180 tb_181 tb_18 tb_182) rfl (by decide +kernel) ⟨Nat.le_trans (by decide) hfr, Nat.le_trans (Nat.le_of_ble_eq_true rfl) hlo⟩ rfl (Nat.le_of_ble_eq_true rfl) rfl dX10_purged_12 hF (fun v4 h H locs hF A => ?_)
      show W _ _ _ _ _ _ _ _ _ _ _ _ _ _ _ (F0 m 15 ls [.int v4])
      refine lv_if_ne (tgt := 20) hx hb dX10_purged_15 (by decide) (fun c5 => ?_) (fun c5 => ?_)
      · have hF := mo_ifF c5 hF
        refine lv_aload_n hx hb dX10_purged_20 rfl (lv_at hl 0 rfl) ?_
        refine mo_wO C A (T := TX10) iX10 rfl 3 (by decide) tb_660 rfl dX10_purged_21 hF (fun v6 hF => ?_)
        rcases v6 with _ | a7
        · cases hF
        refine mo_wRN C A (T := TX8) iX8 rfl 1 (by decide) (List.mem_of_getElem? (i := 78) rfl) rfl dX10_purged_24 hF (fun v8 hF => ?_)
        refine mo_wRN C A (T := TX5) iX5 rfl 1 (by decide) (List.mem_of_getElem? (i := 55) rfl) rfl dX10_purged_27 hF (fun v9 hF => ?_)
        refine lv_iload_n hx hb dX10_purged_30 rfl (lv_at hl 1 rfl) ?_
        refine mo_wlq C A (t := 4) (fun _ => rfl) dX10_purged_31 hF (fun v10 hF => ?_)
        refine lv_astore (lv' := [(4, .ref v10), (0, .ref x0), (1, .int x1), (2, .int x2), (3, .int x3)]) hx hb dX10_purged_32 hl (by decide) rfl (fun ls hl => ?_)
        refine lv_iload_n hx hb dX10_purged_34 rfl (lv_at hl 3 rfl) ?_
        by_cases c11 : x2 = (0 : Int32)
        · have hF := mo_ifT c11 hF
          refine mo_tsI hx hb (0 : Int32) (tgt := 80) (off := 45) dX10_purged_35 c11 (by decide) (by decide) rfl (by decide) ?_
          refine lv_aload hx hb dX10_purged_80 (lv_at hl 0 rfl) ?_
          refine lv_iload_n hx hb dX10_purged_82 rfl (lv_at hl 4 rfl) ?_
          refine mo_cV (n := 1) (As := [.int x3]) (rest := []) C A hml hl.1 (c_X3_registerOrZero l D dA b0 v10 x3) (ci := 3) (q := (RX3, TX3, 9)) rfl (fun _ e => (mo_ckE e).1) (tb_v tb_592 tb_593 tb_594 tb_65 tb_595) rfl (by decide +kernel) ⟨Nat.le_trans (by decide) hfr, Nat.le_trans (Nat.le_of_ble_eq_true rfl) hlo⟩ rfl (Nat.le_of_ble_eq_true rfl) rfl dX10_purged_83 hF (fun v12 h H locs hF A => ?_)
          show W _ _ _ _ _ _ _ _ _ _ _ _ _ _ _ (F0 m 86 ls [.int v12])
          rw [hQ]
          exact mo_iret C A hr hlocks dX10_purged_86 hF
        have hF := mo_ifF c11 hF
        by_cases c13 : x2 = (1 : Int32)
        · have hF := mo_ifT c13 hF
          refine mo_tsI hx hb (1 : Int32) (tgt := 87) (off := 52) dX10_purged_35 c13 (by decide) (by decide) rfl (by decide) ?_
          refine lv_aload hx hb dX10_purged_87 (lv_at hl 0 rfl) ?_
          refine lv_iload_n hx hb dX10_purged_89 rfl (lv_at hl 4 rfl) ?_
          refine mo_cV (n := 1) (As := [.int x3]) (rest := []) C A hml hl.1 (c_X3_cellOrZero l D dA b0 v10 x3) (ci := 3) (q := (RX3, TX3, 9)) rfl (fun _ e => (mo_ckE e).1) (tb_v tb_604 tb_605 tb_606 tb_65 tb_607) rfl (by decide +kernel) ⟨Nat.le_trans (by decide) hfr, Nat.le_trans (Nat.le_of_ble_eq_true rfl) hlo⟩ rfl (Nat.le_of_ble_eq_true rfl) rfl dX10_purged_90 hF (fun v14 h H locs hF A => ?_)
          show W _ _ _ _ _ _ _ _ _ _ _ _ _ _ _ (F0 m 93 ls [.int v14])
          rw [hQ]
          exact mo_iret C A hr hlocks dX10_purged_93 hF
        have hF := mo_ifF c13 hF
        by_cases c15 : x2 = (2 : Int32)
        · have hF := mo_ifT c15 hF
          refine mo_tsI hx hb (2 : Int32) (tgt := 94) (off := 59) dX10_purged_35 c15 (by decide) (by decide) rfl (by decide) ?_
          refine lv_aload hx hb dX10_purged_94 (lv_at hl 0 rfl) ?_
          refine mo_wRN C A (T := TX3) iX3 rfl 3 (by decide) (List.mem_of_getElem? (i := 24) rfl) rfl dX10_purged_96 hF (fun v16 hF => ?_)
          refine lv_iload_n hx hb dX10_purged_99 rfl (lv_at hl 4 rfl) ?_
          refine mo_cV (n := 1) (As := [.int x3]) (rest := []) C A hml hl.1 (c_X9_get l D dA b0 v16 x3) (ci := 9) (q := (RX9, TX9, 2)) rfl (fun _ e => (mo_ckE e).1) (tb_v tb_625 tb_288 tb_289 tb_46 tb_290) rfl (by decide +kernel) ⟨Nat.le_trans (by decide) hfr, Nat.le_trans (Nat.le_of_ble_eq_true rfl) hlo⟩ rfl (Nat.le_of_ble_eq_true rfl) rfl dX10_purged_100 hF (fun v17 h H locs hF A => ?_)
          show W _ _ _ _ _ _ _ _ _ _ _ _ _ _ _ (F0 m 103 ls [.int v17])
          rw [hQ]
          exact mo_iret C A hr hlocks dX10_purged_103 hF
        have hF := mo_ifF c15 hF
        by_cases c18 : x2 = (3 : Int32)
        · have hF := mo_ifT c18 hF
          refine mo_tsI hx hb (3 : Int32) (tgt := 104) (off := 69) dX10_purged_35 c18 (by decide) (by decide) rfl (by decide) ?_
          refine lv_aload hx hb dX10_purged_104 (lv_at hl 0 rfl) ?_
          refine mo_wIN C A (T := TX3) iX3 rfl 4 (by decide) (List.mem_of_getElem? (i := 26) rfl) rfl dX10_purged_106 hF (fun v19 hF => ?_)
          rw [hQ]
          exact mo_iret C A hr hlocks dX10_purged_109 hF
        have hF := mo_ifF c18 hF
        by_cases c20 : x2 = (4 : Int32)
        · have hF := mo_ifT c20 hF
          refine mo_tsI hx hb (4 : Int32) (tgt := 110) (off := 75) dX10_purged_35 c20 (by decide) (by decide) rfl (by decide) ?_
          refine lv_aload hx hb dX10_purged_110 (lv_at hl 0 rfl) ?_
          refine mo_wIN C A (T := TX3) iX3 rfl 5 (by decide) (List.mem_of_getElem? (i := 28) rfl) rfl dX10_purged_112 hF (fun v21 hF => ?_)
          rw [hQ]
          exact mo_iret C A hr hlocks dX10_purged_115 hF
        have hF := mo_ifF c20 hF
        by_cases c22 : x2 = (5 : Int32)
        · have hF := mo_ifT c22 hF
          refine mo_tsI hx hb (5 : Int32) (tgt := 116) (off := 81) dX10_purged_35 c22 (by decide) (by decide) rfl (by decide) ?_
          refine lv_aload hx hb dX10_purged_116 (lv_at hl 0 rfl) ?_
          refine mo_wRN C A (T := TX3) iX3 rfl 3 (by decide) (List.mem_of_getElem? (i := 24) rfl) rfl dX10_purged_118 hF (fun v23 hF => ?_)
          refine mo_wIN C A (T := TX9) iX9 rfl 1 (by decide) (List.mem_of_getElem? (i := 1) rfl) rfl dX10_purged_121 hF (fun v24 hF => ?_)
          rw [hQ]
          exact mo_iret C A hr hlocks dX10_purged_124 hF
        have hF := mo_ifF c22 hF
        by_cases c25 : x2 = (6 : Int32)
        · have hF := mo_ifT c25 hF
          refine mo_tsI hx hb (6 : Int32) (tgt := 125) (off := 90) dX10_purged_35 c25 (by decide) (by decide) rfl (by decide) ?_
          refine lv_aload hx hb dX10_purged_125 (lv_at hl 0 rfl) ?_
          refine mo_wIN C A (T := TX3) iX3 rfl 6 (by decide) (List.mem_of_getElem? (i := 29) rfl) rfl dX10_purged_127 hF (fun v26 hF => ?_)
          rw [hQ]
          exact mo_iret C A hr hlocks dX10_purged_130 hF
        have hF := mo_ifF c25 hF
        by_cases c27 : x2 = (7 : Int32)
        · have hF := mo_ifT c27 hF
          refine mo_tsI hx hb (7 : Int32) (tgt := 131) (off := 96) dX10_purged_35 c27 (by decide) (by decide) rfl (by decide) ?_
          refine lv_aload hx hb dX10_purged_131 (lv_at hl 0 rfl) ?_
          refine mo_wIN C A (T := TX3) iX3 rfl 7 (by decide) (List.mem_of_getElem? (i := 31) rfl) rfl dX10_purged_133 hF (fun v28 hF => ?_)
          rw [hQ]
          exact mo_iret C A hr hlocks dX10_purged_136 hF
        have hF := mo_ifF c27 hF
        refine mo_tsD hx hb [(0 : Int32), (1 : Int32), (2 : Int32), (3 : Int32), (4 : Int32), (5 : Int32), (6 : Int32), (7 : Int32)] (tgt := 137) dX10_purged_35 (List.forall_mem_cons.mpr ⟨c11, (List.forall_mem_cons.mpr ⟨c13, (List.forall_mem_cons.mpr ⟨c15, (List.forall_mem_cons.mpr ⟨c18, (List.forall_mem_cons.mpr ⟨c20, (List.forall_mem_cons.mpr ⟨c22, (List.forall_mem_cons.mpr ⟨c25, (List.forall_mem_cons.mpr ⟨c27, (fun _ h => absurd h List.not_mem_nil)⟩)⟩)⟩)⟩)⟩)⟩)⟩)⟩) (by decide) (by decide) (by decide) ?_
        refine lv_iconst (v := (0 : Int32)) hx hb dX10_purged_137 (by decide) ?_
        rw [hQ]
        exact mo_iret C A hr hlocks dX10_purged_138 hF
      · have hF := mo_ifT c5 hF
        refine lv_iconst (v := (0 : Int32)) hx hb dX10_purged_18 (by decide) ?_
        rw [hQ]
        exact mo_iret C A hr hlocks dX10_purged_19 hF
  exact E h0 s.heap [] hF A
set_option maxHeartbeats 4000000 in
set_option maxRecDepth 100000 in
theorem c_X10_undisturbed (l : Launch) (D : va_G) (dA : Nat → ClassId) (b0 : Nat) (x0 : Nat) (x1 : Int32) : mo_Met l yX10_undisturbed [Cond.code yX10_undisturbed cX10_undisturbed 2 (some .int)] 8 180 D dA b0 [.ref x0, .int x1] (fun r : Int32 => some (.int r)) (F_X10_undisturbed x0 x1) := by
  refine mo_MetOf (own := RX10) (by decide) (Nat.le_of_ble_eq_true rfl) [(0, .ref x0), (1, .int x1)] rfl rfl ?_
  intro p e R s m args below meth c Q h0 h2 z ls hQ C hml hr hlocks hnm hfr hlo hF A hl
  have hx := C.1
  have hb := C.2.1
  have hown := C.2.2.1
  have hts := C.2.2.2.1
  have hK := C.2.2.2.2.1
  have iX2 := inlX2
  have iX5 := inlX5
  have iX7 := inlX7
  have iX8 := inlX8
  have iX10 := inlX10
  have J45 : ∀   (x0 : Nat) (x1 : Int32) (h : mo_H) (H : Heap) (locs : List Loc) (ls : Array Slot), mo_A D dA b0 s.heap h0 h H locs → lv_has ls 2 [(0, .ref x0), (1, .int x1)] → (F_X10_undisturbed_45 x0 x1).1 h = some (z, h2) → W p l e R s m args below meth c H locs (h.2.1 - h0.2.1) (h.2.2 - h0.2.2) Q (F0 m 45 ls []) := by
    intro  x0 x1 h H locs ls A hl hF
    unfold F_X10_undisturbed_45 at hF
    refine lv_aload_n hx hb dX10_undisturbed_45 rfl (lv_at hl 0 rfl) ?_
    refine mo_wO C A (T := TX10) iX10 rfl 4 (by decide) tb_746 rfl dX10_undisturbed_46 hF (fun v1 hF => ?_)
    refine lv_aload_n hx hb dX10_undisturbed_49 rfl (lv_at hl 0 rfl) ?_
    refine mo_wR C A (T := TX10) iX10 rfl 2 (by decide) tb_34 rfl dX10_undisturbed_50 hF (fun v2 hF => ?_)
    refine lv_iload_n hx hb dX10_undisturbed_53 rfl (lv_at hl 1 rfl) ?_
    rcases v1 with _ | a3
    · cases hF
    refine mo_cV (n := 2) (As := [.ref v2, .int x1]) (rest := []) C A hml hl.1 (c_X8_choose l D dA b0 a3 v2 x1) (ci := 8) (q := (RX8, TX8, 5)) rfl (fun _ e => (mo_ckE e).1) (tb_v tb_673 tb_674 tb_675 tb_663 tb_676) rfl (by decide +kernel) ⟨Nat.le_trans (by decide) hfr, Nat.le_trans (Nat.le_of_ble_eq_true rfl) hlo⟩ rfl (Nat.le_of_ble_eq_true rfl) rfl dX10_undisturbed_54 hF (fun v4 h H locs hF A => ?_)
    show W _ _ _ _ _ _ _ _ _ _ _ _ _ _ _ (F0 m 57 ls [])
    refine lv_aload_n hx hb dX10_undisturbed_57 rfl (lv_at hl 0 rfl) ?_
    refine mo_wO C A (T := TX10) iX10 rfl 4 (by decide) tb_746 rfl dX10_undisturbed_58 hF (fun v5 hF => ?_)
    refine lv_aload_n hx hb dX10_undisturbed_61 rfl (lv_at hl 0 rfl) ?_
    refine mo_wR C A (T := TX10) iX10 rfl 2 (by decide) tb_34 rfl dX10_undisturbed_62 hF (fun v6 hF => ?_)
    refine lv_aload_n hx hb dX10_undisturbed_65 rfl (lv_at hl 0 rfl) ?_
    refine mo_wR C A (T := TX10) iX10 rfl 1 (by decide) tb_30 rfl dX10_undisturbed_66 hF (fun v7 hF => ?_)
    refine mo_wRN C A (T := TX5) iX5 rfl 3 (by decide) (List.mem_of_getElem? (i := 57) rfl) rfl dX10_undisturbed_69 hF (fun v8 hF => ?_)
    refine mo_wIN C A (T := TX2) iX2 rfl 1 (by decide) (List.mem_of_getElem? (i := 47) rfl) rfl dX10_undisturbed_72 hF (fun v9 hF => ?_)
    rcases v5 with _ | a10
    · cases hF
    refine mo_cV (n := 2) (As := [.ref v6, .int v9]) (rest := []) C A hml hl.1 (c_X8_redo l D dA b0 a10 v6 v9) (ci := 8) (q := (RX8, TX8, 5)) rfl (fun _ e => (mo_ckE e).1) (tb_v tb_682 tb_683 tb_684 tb_663 tb_685) rfl (by decide +kernel) ⟨Nat.le_trans (by decide) hfr, Nat.le_trans (Nat.le_of_ble_eq_true rfl) hlo⟩ rfl (Nat.le_of_ble_eq_true rfl) rfl dX10_undisturbed_75 hF (fun v11 h H locs hF A => ?_)
    show W _ _ _ _ _ _ _ _ _ _ _ _ _ _ _ (F0 m 78 ls [])
    refine lv_aload_n hx hb dX10_undisturbed_78 rfl (lv_at hl 0 rfl) ?_
    refine mo_wR C A (T := TX10) iX10 rfl 1 (by decide) tb_30 rfl dX10_undisturbed_79 hF (fun v12 hF => ?_)
    refine lv_iload_n hx hb dX10_undisturbed_82 rfl (lv_at hl 1 rfl) ?_
    refine lv_aload_n hx hb dX10_undisturbed_83 rfl (lv_at hl 0 rfl) ?_
    refine mo_wO C A (T := TX10) iX10 rfl 4 (by decide) tb_746 rfl dX10_undisturbed_84 hF (fun v13 hF => ?_)
    rcases v13 with _ | a14
    · cases hF
    refine mo_wRN C A (T := TX8) iX8 rfl 1 (by decide) (List.mem_of_getElem? (i := 78) rfl) rfl dX10_undisturbed_87 hF (fun v15 hF => ?_)
    refine mo_cV (n := 2) (As := [.int x1, .ref v15]) (rest := []) C A hml hl.1 (c_X5_looksSameTo l D dA b0 v12 x1 v15) (ci := 5) (q := (RX5, TX5, 5)) rfl (fun _ e => (mo_ckE e).1) (tb_v tb_747 tb_748 tb_749 tb_29 tb_750) rfl (by decide +kernel) ⟨Nat.le_trans (by decide) hfr, Nat.le_trans (Nat.le_of_ble_eq_true rfl) hlo⟩ rfl (Nat.le_of_ble_eq_true rfl) rfl dX10_undisturbed_90 hF (fun v16 h H locs hF A => ?_)
    show W _ _ _ _ _ _ _ _ _ _ _ _ _ _ _ (F0 m 93 ls [.int v16])
    refine lv_if_eq (tgt := 100) hx hb dX10_undisturbed_93 (by decide) (fun c17 => ?_) (fun c17 => ?_)
    · have hF := mo_ifT c17 hF
      refine lv_iconst (v := (0 : Int32)) hx hb dX10_undisturbed_100 (by decide) ?_
      rw [hQ]
      exact mo_iret C A hr hlocks dX10_undisturbed_101 hF
    · have hF := mo_ifF c17 hF
      refine lv_iconst (v := (1 : Int32)) hx hb dX10_undisturbed_96 (by decide) ?_
      refine lv_goto (tgt := 101) hx hb dX10_undisturbed_97 (by decide) ?_
      rw [hQ]
      exact mo_iret C A hr hlocks dX10_undisturbed_101 hF
  unfold F_X10_undisturbed at hF
  obtain ⟨-, hF⟩ := mo_ckE hF
  have E : ∀ (h : mo_H) (H : Heap) (locs : List Loc), (mo_b (mo_gR x0 10 0) fun v18 => mo_b (mo_gI v18 7 8) fun v19 => (if v19 = 0 then mo_ret (-1 : Int32) else mo_b (mo_gR x0 10 0) fun v21 => mo_b (F_X7_hasDomain v21 x1) fun v22 => (if v22 = 0 then mo_ret (-1 : Int32) else mo_b (mo_gO x0 10 4) fun v24 => (mo_mO v24 (mo_b (mo_nc 8 dfX8) fun v26 => mo_b (mo_gR x0 10 0) fun v27 => mo_b (F_X8_init v26 v27) fun v28 => mo_b (mo_pV x0 10 4 (.ref v26)) fun _ => F_X10_undisturbed_45 x0 x1) (fun a25 => F_X10_undisturbed_45 x0 x1))))).1 h = some (z, h2) → mo_A D dA b0 s.heap h0 h H locs → W p l e R s m args below meth c H locs (h.2.1 - h0.2.1) (h.2.2 - h0.2.2) Q (F0 m 0 ls []) := by
    intro h H locs hF A
    refine lv_aload_n hx hb dX10_undisturbed_0 rfl (lv_at hl 0 rfl) ?_
    refine mo_wR C A (T := TX10) iX10 rfl 0 (by decide) tb_26 rfl dX10_undisturbed_1 hF (fun v18 hF => ?_)
    refine mo_wIN C A (T := TX7) iX7 rfl 8 (by decide) (List.mem_of_getElem? (i := 20) rfl) rfl dX10_undisturbed_4 hF (fun v19 hF => ?_)
    refine lv_if_eq (tgt := 21) hx hb dX10_undisturbed_7 (by decide) (fun c20 => ?_) (fun c20 => ?_)
    · have hF := mo_ifT c20 hF
      refine lv_iconst (v := (-1 : Int32)) hx hb dX10_undisturbed_21 (by decide) ?_
      rw [hQ]
      exact mo_iret C A hr hlocks dX10_undisturbed_22 hF
    · have hF := mo_ifF c20 hF
      refine lv_aload_n hx hb dX10_undisturbed_10 rfl (lv_at hl 0 rfl) ?_
      refine mo_wR C A (T := TX10) iX10 rfl 0 (by decide) tb_26 rfl dX10_undisturbed_11 hF (fun v21 hF => ?_)
      refine lv_iload_n hx hb dX10_undisturbed_14 rfl (lv_at hl 1 rfl) ?_
      refine mo_cV (n := 1) (As := [.int x1]) (rest := []) C A hml hl.1 (c_X7_hasDomain l D dA b0 v21 x1) (ci := 7) (q := (RX7, TX7, 9)) rfl (fun _ e => (mo_ckE e).1) (tb_v tb_179 tb_180 tb_181 tb_18 tb_182) rfl (by decide +kernel) ⟨Nat.le_trans (by decide) hfr, Nat.le_trans (Nat.le_of_ble_eq_true rfl) hlo⟩ rfl (Nat.le_of_ble_eq_true rfl) rfl dX10_undisturbed_15 hF (fun v22 h H locs hF A => ?_)
      show W _ _ _ _ _ _ _ _ _ _ _ _ _ _ _ (F0 m 18 ls [.int v22])
      refine lv_if_ne (tgt := 23) hx hb dX10_undisturbed_18 (by decide) (fun c23 => ?_) (fun c23 => ?_)
      · have hF := mo_ifF c23 hF
        refine lv_aload_n hx hb dX10_undisturbed_23 rfl (lv_at hl 0 rfl) ?_
        refine mo_wO C A (T := TX10) iX10 rfl 4 (by decide) tb_746 rfl dX10_undisturbed_24 hF (fun v24 hF => ?_)
        rcases v24 with _ | a25
        · refine lv_ifnonnullN hx hb dX10_undisturbed_27 ?_
          refine lv_aload_n hx hb dX10_undisturbed_30 rfl (lv_at hl 0 rfl) ?_
          refine mo_wnc C A (T := TX8) iX8 tyX8 tyX8_ok rfl tb_661 tb_662 tb_663 dfX8_ok rfl dX10_undisturbed_31 hF (fun v26 h H hF A => ?_)
          refine lv_dup hx hb dX10_undisturbed_34 rfl ?_
          refine lv_aload_n hx hb dX10_undisturbed_35 rfl (lv_at hl 0 rfl) ?_
          refine mo_wR C A (T := TX10) iX10 rfl 0 (by decide) tb_26 rfl dX10_undisturbed_36 hF (fun v27 hF => ?_)
          refine mo_cI (n := 1) (As := [.ref v27]) (rest := [.ref v26, .ref x0]) C A hml hl.1 (c_X8_init l D dA b0 v26 v27) (tb_o tb_666) rfl tb_663 tb_664 tb_665 rfl (by decide +kernel) ⟨Nat.le_trans (by decide) hfr, Nat.le_trans (Nat.le_of_ble_eq_true rfl) hlo⟩ rfl (Nat.le_of_ble_eq_true rfl) rfl dX10_undisturbed_39 hF (fun v28 h H locs hF A => ?_)
          show W _ _ _ _ _ _ _ _ _ _ _ _ _ _ _ (F0 m 42 ls [.ref v26, .ref x0])
          refine mo_wpV C A (T := TX10) iX10 tyX10 tyX10_ok nmX10 rfl 4 (by decide) tb_746 rfl rfl rfl rfl dX10_undisturbed_42 hF (fun h H locs hF A => ?_)
          exact J45 x0 x1 h H locs ls A (lv_sub hl [0, 1] rfl) hF
        · refine lv_ifnonnull (tgt := 45) hx hb dX10_undisturbed_27 (by decide) ?_
          exact J45 x0 x1 h H locs ls A (lv_sub hl [0, 1] rfl) hF
      · have hF := mo_ifT c23 hF
        refine lv_iconst (v := (-1 : Int32)) hx hb dX10_undisturbed_21 (by decide) ?_
        rw [hQ]
        exact mo_iret C A hr hlocks dX10_undisturbed_22 hF
  exact E h0 s.heap [] hF A
set_option maxHeartbeats 4000000 in
set_option maxRecDepth 100000 in
theorem c_X11_init (l : Launch) (D : va_G) (dA : Nat → ClassId) (b0 : Nat) (x0 : Nat) (x1 : Int32) : mo_Met l yX11_init [Cond.code yX11_init cX11_init 2 none] 1 12 D dA b0 [.ref x0, .int x1] (fun _ : Unit => none) (F_X11_init x0 x1) := by
  refine mo_MetOf (own := RX11) (by decide) (Nat.le_of_ble_eq_true rfl) [(0, .ref x0), (1, .int x1)] rfl rfl ?_
  intro p e R s m args below meth c Q h0 h2 z ls hQ C hml hr hlocks hnm hfr hlo hF A hl
  have hx := C.1
  have hb := C.2.1
  have hown := C.2.2.1
  have hts := C.2.2.2.1
  have hK := C.2.2.2.2.1
  have iX11 := inlX11
  have J439 : ∀   (x0 : Nat) (s0 : Nat) (s1 : Int32) (h : mo_H) (H : Heap) (locs : List Loc) (ls : Array Slot), mo_A D dA b0 s.heap h0 h H locs → lv_has ls 2 [(0, .ref x0)] → (F_X11_init_439 x0 s0 s1).1 h = some (z, h2) → W p l e R s m args below meth c H locs (h.2.1 - h0.2.1) (h.2.2 - h0.2.2) Q (F0 m 439 ls [.int s1, .ref s0]) := by
    intro  x0 s0 s1 h H locs ls A hl hF
    unfold F_X11_init_439 at hF
    refine mo_wpF C A (T := TX11) iX11 tyX11 tyX11_ok nmX11 rfl 0 (by decide) tb_173 rfl rfl hnm rfl rfl rfl dX11_init_439 hF (fun h H locs hF A => ?_)
    refine lv_aload_n hx hb dX11_init_442 rfl (lv_at hl 0 rfl) ?_
    refine lv_iconst (v := (-1 : Int32)) hx hb dX11_init_443 (by decide) ?_
    refine mo_wpV C A (T := TX11) iX11 tyX11 tyX11_ok nmX11 rfl 54 (by decide) tb_174 rfl rfl rfl rfl dX11_init_444 hF (fun h H locs hF A => ?_)
    rw [hQ]
    exact mo_vret C A hr hlocks dX11_init_447 hF
  unfold F_X11_init at hF
  have E : ∀ (h : mo_H) (H : Heap) (locs : List Loc), (mo_b (mo_na 1 (36 : Int32)) fun v1 => mo_b (mo_pV x0 11 1 (.ref v1)) fun _ => mo_b (mo_na 0 (12 : Int32)) fun v2 => mo_b (mo_pV x0 11 3 (.ref v2)) fun _ => mo_b (mo_na 0 (12 : Int32)) fun v3 => mo_b (mo_pV x0 11 4 (.ref v3)) fun _ => mo_b (mo_na 1 (12 : Int32)) fun v4 => mo_b (mo_pV x0 11 5 (.ref v4)) fun _ => mo_b (mo_na 0 (12 : Int32)) fun v5 => mo_b (mo_pV x0 11 6 (.ref v5)) fun _ => mo_b (mo_na 0 (384 : Int32)) fun v6 => mo_b (mo_pV x0 11 7 (.ref v6)) fun _ => mo_b (mo_na 0 (6 : Int32)) fun v7 => mo_b (mo_pV x0 11 8 (.ref v7)) fun _ => mo_b (mo_na 0 (6 : Int32)) fun v8 => mo_b (mo_pV x0 11 9 (.ref v8)) fun _ => mo_b (mo_na 0 (36 : Int32)) fun v9 => mo_b (mo_pV x0 11 10 (.ref v9)) fun _ => mo_b (mo_na 0 (36 : Int32)) fun v10 => mo_b (mo_pV x0 11 11 (.ref v10)) fun _ => mo_b (mo_na 0 (3 : Int32)) fun v11 => mo_b (mo_pV x0 11 12 (.ref v11)) fun _ => mo_b (mo_na 0 (3000 : Int32)) fun v12 => mo_b (mo_pV x0 11 15 (.ref v12)) fun _ => mo_b (mo_na 1 (3000 : Int32)) fun v13 => mo_b (mo_pV x0 11 16 (.ref v13)) fun _ => mo_b (mo_na 0 (3000 : Int32)) fun v14 => mo_b (mo_pV x0 11 17 (.ref v14)) fun _ => mo_b (mo_na 0 (3000 : Int32)) fun v15 => mo_b (mo_pV x0 11 18 (.ref v15)) fun _ => mo_b (mo_na 0 (144 : Int32)) fun v16 => mo_b (mo_pV x0 11 19 (.ref v16)) fun _ => mo_b (mo_na 0 (576 : Int32)) fun v17 => mo_b (mo_pV x0 11 20 (.ref v17)) fun _ => mo_b (mo_na 0 (18 : Int32)) fun v18 => mo_b (mo_pV x0 11 21 (.ref v18)) fun _ => mo_b (mo_na 0 (18 : Int32)) fun v19 => mo_b (mo_pV x0 11 22 (.ref v19)) fun _ => mo_b (mo_na 0 (144 : Int32)) fun v20 => mo_b (mo_pV x0 11 23 (.ref v20)) fun _ => mo_b (mo_na 0 (18 : Int32)) fun v21 => mo_b (mo_pV x0 11 24 (.ref v21)) fun _ => mo_b (mo_na 0 (3600 : Int32)) fun v22 => mo_b (mo_pV x0 11 25 (.ref v22)) fun _ => mo_b (mo_na 0 (18 : Int32)) fun v23 => mo_b (mo_pV x0 11 26 (.ref v23)) fun _ => mo_b (mo_na 0 (18 : Int32)) fun v24 => mo_b (mo_pV x0 11 27 (.ref v24)) fun _ => mo_b (mo_na 0 (18 : Int32)) fun v25 => mo_b (mo_pV x0 11 28 (.ref v25)) fun _ => mo_b (mo_na 0 (18 : Int32)) fun v26 => mo_b (mo_pV x0 11 29 (.ref v26)) fun _ => mo_b (mo_na 0 (36 : Int32)) fun v27 => mo_b (mo_pV x0 11 30 (.ref v27)) fun _ => mo_b (mo_na 0 (36 : Int32)) fun v28 => mo_b (mo_pV x0 11 31 (.ref v28)) fun _ => mo_b (mo_na 0 (36 : Int32)) fun v29 => mo_b (mo_pV x0 11 32 (.ref v29)) fun _ => mo_b (mo_na 0 (36 : Int32)) fun v30 => mo_b (mo_pV x0 11 33 (.ref v30)) fun _ => mo_b (mo_na 0 (36 : Int32)) fun v31 => mo_b (mo_pV x0 11 34 (.ref v31)) fun _ => mo_b (mo_na 0 (36 : Int32)) fun v32 => mo_b (mo_pV x0 11 35 (.ref v32)) fun _ => mo_b (mo_na 0 (36 : Int32)) fun v33 => mo_b (mo_pV x0 11 36 (.ref v33)) fun _ => mo_b (mo_na 0 (36 : Int32)) fun v34 => mo_b (mo_pV x0 11 37 (.ref v34)) fun _ => mo_b (mo_na 0 (144 : Int32)) fun v35 => mo_b (mo_pV x0 11 38 (.ref v35)) fun _ => mo_b (mo_na 0 (36 : Int32)) fun v36 => mo_b (mo_pV x0 11 39 (.ref v36)) fun _ => mo_b (mo_na 0 (36 : Int32)) fun v37 => mo_b (mo_pV x0 11 40 (.ref v37)) fun _ => mo_b (mo_na 0 (9000 : Int32)) fun v38 => mo_b (mo_pV x0 11 41 (.ref v38)) fun _ => mo_b (mo_na 0 (9000 : Int32)) fun v39 => mo_b (mo_pV x0 11 42 (.ref v39)) fun _ => mo_b (mo_na 0 (36000 : Int32)) fun v40 => mo_b (mo_pV x0 11 43 (.ref v40)) fun _ => mo_b (mo_na 0 (3 : Int32)) fun v41 => mo_b (mo_pV x0 11 44 (.ref v41)) fun _ => mo_b (mo_na 0 (3 : Int32)) fun v42 => mo_b (mo_pV x0 11 45 (.ref v42)) fun _ => mo_b (mo_na 0 (3 : Int32)) fun v43 => mo_b (mo_pV x0 11 46 (.ref v43)) fun _ => mo_b (mo_na 0 (3 : Int32)) fun v44 => mo_b (mo_pV x0 11 47 (.ref v44)) fun _ => mo_b (mo_na 0 (3 : Int32)) fun v45 => mo_b (mo_pV x0 11 48 (.ref v45)) fun _ => mo_b (mo_na 0 (3 : Int32)) fun v46 => mo_b (mo_pV x0 11 49 (.ref v46)) fun _ => mo_b (mo_na 1 (3 : Int32)) fun v47 => mo_b (mo_pV x0 11 50 (.ref v47)) fun _ => mo_b (mo_na 1 (3 : Int32)) fun v48 => mo_b (mo_pV x0 11 51 (.ref v48)) fun _ => mo_b (mo_na 1 (3000 : Int32)) fun v49 => mo_b (mo_pV x0 11 52 (.ref v49)) fun _ => mo_b (mo_na 1 (3000 : Int32)) fun v50 => mo_b (mo_pV x0 11 53 (.ref v50)) fun _ => mo_b (mo_na 1 (6 : Int32)) fun v51 => mo_b (mo_pV x0 11 55 (.ref v51)) fun _ => (if (2 : Int32) ≤ x1 then (if x1 ≤ (6 : Int32) then F_X11_init_439 x0 x0 x1 else F_X11_init_439 x0 x0 (6 : Int32)) else F_X11_init_439 x0 x0 (2 : Int32))).1 h = some (z, h2) → mo_A D dA b0 s.heap h0 h H locs → W p l e R s m args below meth c H locs (h.2.1 - h0.2.1) (h.2.2 - h0.2.2) Q (F0 m 0 ls []) := by
    intro h H locs hF A
    refine lv_aload_n hx hb dX11_init_0 rfl (lv_at hl 0 rfl) ?_
    refine W.objInit hx hb hown (hts _ tb_119) (hts _ tb_14) (hts _ tb_15) rfl (by rw [hml]; exact hl.1) rfl dX11_init_1 (Nat.le_trans (by decide) hfr) (Nat.le_trans (Nat.le_of_ble_eq_true rfl) hlo) ?_
    refine W.eq (g2 := F0 m 4 ls []) rfl ?_
    refine lv_aload_n hx hb dX11_init_4 rfl (lv_at hl 0 rfl) ?_
    refine lv_bipush (v := (36 : Int32)) hx hb dX11_init_5 (by decide) ?_
    refine mo_wna C A (t := 1) (ty := .boolean) rfl (fun _ => rfl) (fun _ _ h => h) (by decide) rfl tb_120 dX11_init_7 hF (fun v1 h H hF A => ?_)
    refine mo_wpF C A (T := TX11) iX11 tyX11 tyX11_ok nmX11 rfl 1 (by decide) tb_121 rfl rfl hnm rfl rfl rfl dX11_init_9 hF (fun h H locs hF A => ?_)
    refine lv_aload_n hx hb dX11_init_12 rfl (lv_at hl 0 rfl) ?_
    refine lv_bipush (v := (12 : Int32)) hx hb dX11_init_13 (by decide) ?_
    refine mo_wna C A (t := 0) (ty := .int) rfl (fun _ => rfl) (fun _ _ h => h) (by decide) rfl tb_40 dX11_init_15 hF (fun v2 h H hF A => ?_)
    refine mo_wpF C A (T := TX11) iX11 tyX11 tyX11_ok nmX11 rfl 3 (by decide) tb_122 rfl rfl hnm rfl rfl rfl dX11_init_17 hF (fun h H locs hF A => ?_)
    refine lv_aload_n hx hb dX11_init_20 rfl (lv_at hl 0 rfl) ?_
    refine lv_bipush (v := (12 : Int32)) hx hb dX11_init_21 (by decide) ?_
    refine mo_wna C A (t := 0) (ty := .int) rfl (fun _ => rfl) (fun _ _ h => h) (by decide) rfl tb_40 dX11_init_23 hF (fun v3 h H hF A => ?_)
    refine mo_wpF C A (T := TX11) iX11 tyX11 tyX11_ok nmX11 rfl 4 (by decide) tb_123 rfl rfl hnm rfl rfl rfl dX11_init_25 hF (fun h H locs hF A => ?_)
    refine lv_aload_n hx hb dX11_init_28 rfl (lv_at hl 0 rfl) ?_
    refine lv_bipush (v := (12 : Int32)) hx hb dX11_init_29 (by decide) ?_
    refine mo_wna C A (t := 1) (ty := .boolean) rfl (fun _ => rfl) (fun _ _ h => h) (by decide) rfl tb_120 dX11_init_31 hF (fun v4 h H hF A => ?_)
    refine mo_wpF C A (T := TX11) iX11 tyX11 tyX11_ok nmX11 rfl 5 (by decide) tb_124 rfl rfl hnm rfl rfl rfl dX11_init_33 hF (fun h H locs hF A => ?_)
    refine lv_aload_n hx hb dX11_init_36 rfl (lv_at hl 0 rfl) ?_
    refine lv_bipush (v := (12 : Int32)) hx hb dX11_init_37 (by decide) ?_
    refine mo_wna C A (t := 0) (ty := .int) rfl (fun _ => rfl) (fun _ _ h => h) (by decide) rfl tb_40 dX11_init_39 hF (fun v5 h H hF A => ?_)
    refine mo_wpF C A (T := TX11) iX11 tyX11 tyX11_ok nmX11 rfl 6 (by decide) tb_125 rfl rfl hnm rfl rfl rfl dX11_init_41 hF (fun h H locs hF A => ?_)
    refine lv_aload_n hx hb dX11_init_44 rfl (lv_at hl 0 rfl) ?_
    refine lv_sipush (v := (384 : Int32)) hx hb dX11_init_45 (by decide) ?_
    refine mo_wna C A (t := 0) (ty := .int) rfl (fun _ => rfl) (fun _ _ h => h) (by decide) rfl tb_40 dX11_init_48 hF (fun v6 h H hF A => ?_)
    refine mo_wpF C A (T := TX11) iX11 tyX11 tyX11_ok nmX11 rfl 7 (by decide) tb_126 rfl rfl hnm rfl rfl rfl dX11_init_50 hF (fun h H locs hF A => ?_)
    refine lv_aload_n hx hb dX11_init_53 rfl (lv_at hl 0 rfl) ?_
    refine lv_bipush (v := (6 : Int32)) hx hb dX11_init_54 (by decide) ?_
    refine mo_wna C A (t := 0) (ty := .int) rfl (fun _ => rfl) (fun _ _ h => h) (by decide) rfl tb_40 dX11_init_56 hF (fun v7 h H hF A => ?_)
    refine mo_wpF C A (T := TX11) iX11 tyX11 tyX11_ok nmX11 rfl 8 (by decide) tb_127 rfl rfl hnm rfl rfl rfl dX11_init_58 hF (fun h H locs hF A => ?_)
    refine lv_aload_n hx hb dX11_init_61 rfl (lv_at hl 0 rfl) ?_
    refine lv_bipush (v := (6 : Int32)) hx hb dX11_init_62 (by decide) ?_
    refine mo_wna C A (t := 0) (ty := .int) rfl (fun _ => rfl) (fun _ _ h => h) (by decide) rfl tb_40 dX11_init_64 hF (fun v8 h H hF A => ?_)
    refine mo_wpF C A (T := TX11) iX11 tyX11 tyX11_ok nmX11 rfl 9 (by decide) tb_128 rfl rfl hnm rfl rfl rfl dX11_init_66 hF (fun h H locs hF A => ?_)
    refine lv_aload_n hx hb dX11_init_69 rfl (lv_at hl 0 rfl) ?_
    refine lv_bipush (v := (36 : Int32)) hx hb dX11_init_70 (by decide) ?_
    refine mo_wna C A (t := 0) (ty := .int) rfl (fun _ => rfl) (fun _ _ h => h) (by decide) rfl tb_40 dX11_init_72 hF (fun v9 h H hF A => ?_)
    refine mo_wpF C A (T := TX11) iX11 tyX11 tyX11_ok nmX11 rfl 10 (by decide) tb_129 rfl rfl hnm rfl rfl rfl dX11_init_74 hF (fun h H locs hF A => ?_)
    refine lv_aload_n hx hb dX11_init_77 rfl (lv_at hl 0 rfl) ?_
    refine lv_bipush (v := (36 : Int32)) hx hb dX11_init_78 (by decide) ?_
    refine mo_wna C A (t := 0) (ty := .int) rfl (fun _ => rfl) (fun _ _ h => h) (by decide) rfl tb_40 dX11_init_80 hF (fun v10 h H hF A => ?_)
    refine mo_wpF C A (T := TX11) iX11 tyX11 tyX11_ok nmX11 rfl 11 (by decide) tb_130 rfl rfl hnm rfl rfl rfl dX11_init_82 hF (fun h H locs hF A => ?_)
    refine lv_aload_n hx hb dX11_init_85 rfl (lv_at hl 0 rfl) ?_
    refine lv_iconst (v := (3 : Int32)) hx hb dX11_init_86 (by decide) ?_
    refine mo_wna C A (t := 0) (ty := .int) rfl (fun _ => rfl) (fun _ _ h => h) (by decide) rfl tb_40 dX11_init_87 hF (fun v11 h H hF A => ?_)
    refine mo_wpF C A (T := TX11) iX11 tyX11 tyX11_ok nmX11 rfl 12 (by decide) tb_131 rfl rfl hnm rfl rfl rfl dX11_init_89 hF (fun h H locs hF A => ?_)
    refine lv_aload_n hx hb dX11_init_92 rfl (lv_at hl 0 rfl) ?_
    refine lv_sipush (v := (3000 : Int32)) hx hb dX11_init_93 (by decide) ?_
    refine mo_wna C A (t := 0) (ty := .int) rfl (fun _ => rfl) (fun _ _ h => h) (by decide) rfl tb_40 dX11_init_96 hF (fun v12 h H hF A => ?_)
    refine mo_wpF C A (T := TX11) iX11 tyX11 tyX11_ok nmX11 rfl 15 (by decide) tb_132 rfl rfl hnm rfl rfl rfl dX11_init_98 hF (fun h H locs hF A => ?_)
    refine lv_aload_n hx hb dX11_init_101 rfl (lv_at hl 0 rfl) ?_
    refine lv_sipush (v := (3000 : Int32)) hx hb dX11_init_102 (by decide) ?_
    refine mo_wna C A (t := 1) (ty := .boolean) rfl (fun _ => rfl) (fun _ _ h => h) (by decide) rfl tb_120 dX11_init_105 hF (fun v13 h H hF A => ?_)
    refine mo_wpF C A (T := TX11) iX11 tyX11 tyX11_ok nmX11 rfl 16 (by decide) tb_133 rfl rfl hnm rfl rfl rfl dX11_init_107 hF (fun h H locs hF A => ?_)
    refine lv_aload_n hx hb dX11_init_110 rfl (lv_at hl 0 rfl) ?_
    refine lv_sipush (v := (3000 : Int32)) hx hb dX11_init_111 (by decide) ?_
    refine mo_wna C A (t := 0) (ty := .int) rfl (fun _ => rfl) (fun _ _ h => h) (by decide) rfl tb_40 dX11_init_114 hF (fun v14 h H hF A => ?_)
    refine mo_wpF C A (T := TX11) iX11 tyX11 tyX11_ok nmX11 rfl 17 (by decide) tb_134 rfl rfl hnm rfl rfl rfl dX11_init_116 hF (fun h H locs hF A => ?_)
    refine lv_aload_n hx hb dX11_init_119 rfl (lv_at hl 0 rfl) ?_
    refine lv_sipush (v := (3000 : Int32)) hx hb dX11_init_120 (by decide) ?_
    refine mo_wna C A (t := 0) (ty := .int) rfl (fun _ => rfl) (fun _ _ h => h) (by decide) rfl tb_40 dX11_init_123 hF (fun v15 h H hF A => ?_)
    refine mo_wpF C A (T := TX11) iX11 tyX11 tyX11_ok nmX11 rfl 18 (by decide) tb_135 rfl rfl hnm rfl rfl rfl dX11_init_125 hF (fun h H locs hF A => ?_)
    refine lv_aload_n hx hb dX11_init_128 rfl (lv_at hl 0 rfl) ?_
    refine lv_sipush (v := (144 : Int32)) hx hb dX11_init_129 (by decide) ?_
    refine mo_wna C A (t := 0) (ty := .int) rfl (fun _ => rfl) (fun _ _ h => h) (by decide) rfl tb_40 dX11_init_132 hF (fun v16 h H hF A => ?_)
    refine mo_wpF C A (T := TX11) iX11 tyX11 tyX11_ok nmX11 rfl 19 (by decide) tb_136 rfl rfl hnm rfl rfl rfl dX11_init_134 hF (fun h H locs hF A => ?_)
    refine lv_aload_n hx hb dX11_init_137 rfl (lv_at hl 0 rfl) ?_
    refine lv_sipush (v := (576 : Int32)) hx hb dX11_init_138 (by decide) ?_
    refine mo_wna C A (t := 0) (ty := .int) rfl (fun _ => rfl) (fun _ _ h => h) (by decide) rfl tb_40 dX11_init_141 hF (fun v17 h H hF A => ?_)
    refine mo_wpF C A (T := TX11) iX11 tyX11 tyX11_ok nmX11 rfl 20 (by decide) tb_137 rfl rfl hnm rfl rfl rfl dX11_init_143 hF (fun h H locs hF A => ?_)
    refine lv_aload_n hx hb dX11_init_146 rfl (lv_at hl 0 rfl) ?_
    refine lv_bipush (v := (18 : Int32)) hx hb dX11_init_147 (by decide) ?_
    refine mo_wna C A (t := 0) (ty := .int) rfl (fun _ => rfl) (fun _ _ h => h) (by decide) rfl tb_40 dX11_init_149 hF (fun v18 h H hF A => ?_)
    refine mo_wpF C A (T := TX11) iX11 tyX11 tyX11_ok nmX11 rfl 21 (by decide) tb_138 rfl rfl hnm rfl rfl rfl dX11_init_151 hF (fun h H locs hF A => ?_)
    refine lv_aload_n hx hb dX11_init_154 rfl (lv_at hl 0 rfl) ?_
    refine lv_bipush (v := (18 : Int32)) hx hb dX11_init_155 (by decide) ?_
    refine mo_wna C A (t := 0) (ty := .int) rfl (fun _ => rfl) (fun _ _ h => h) (by decide) rfl tb_40 dX11_init_157 hF (fun v19 h H hF A => ?_)
    refine mo_wpF C A (T := TX11) iX11 tyX11 tyX11_ok nmX11 rfl 22 (by decide) tb_139 rfl rfl hnm rfl rfl rfl dX11_init_159 hF (fun h H locs hF A => ?_)
    refine lv_aload_n hx hb dX11_init_162 rfl (lv_at hl 0 rfl) ?_
    refine lv_sipush (v := (144 : Int32)) hx hb dX11_init_163 (by decide) ?_
    refine mo_wna C A (t := 0) (ty := .int) rfl (fun _ => rfl) (fun _ _ h => h) (by decide) rfl tb_40 dX11_init_166 hF (fun v20 h H hF A => ?_)
    refine mo_wpF C A (T := TX11) iX11 tyX11 tyX11_ok nmX11 rfl 23 (by decide) tb_140 rfl rfl hnm rfl rfl rfl dX11_init_168 hF (fun h H locs hF A => ?_)
    refine lv_aload_n hx hb dX11_init_171 rfl (lv_at hl 0 rfl) ?_
    refine lv_bipush (v := (18 : Int32)) hx hb dX11_init_172 (by decide) ?_
    refine mo_wna C A (t := 0) (ty := .int) rfl (fun _ => rfl) (fun _ _ h => h) (by decide) rfl tb_40 dX11_init_174 hF (fun v21 h H hF A => ?_)
    refine mo_wpF C A (T := TX11) iX11 tyX11 tyX11_ok nmX11 rfl 24 (by decide) tb_141 rfl rfl hnm rfl rfl rfl dX11_init_176 hF (fun h H locs hF A => ?_)
    refine lv_aload_n hx hb dX11_init_179 rfl (lv_at hl 0 rfl) ?_
    refine lv_sipush (v := (3600 : Int32)) hx hb dX11_init_180 (by decide) ?_
    refine mo_wna C A (t := 0) (ty := .int) rfl (fun _ => rfl) (fun _ _ h => h) (by decide) rfl tb_40 dX11_init_183 hF (fun v22 h H hF A => ?_)
    refine mo_wpF C A (T := TX11) iX11 tyX11 tyX11_ok nmX11 rfl 25 (by decide) tb_142 rfl rfl hnm rfl rfl rfl dX11_init_185 hF (fun h H locs hF A => ?_)
    refine lv_aload_n hx hb dX11_init_188 rfl (lv_at hl 0 rfl) ?_
    refine lv_bipush (v := (18 : Int32)) hx hb dX11_init_189 (by decide) ?_
    refine mo_wna C A (t := 0) (ty := .int) rfl (fun _ => rfl) (fun _ _ h => h) (by decide) rfl tb_40 dX11_init_191 hF (fun v23 h H hF A => ?_)
    refine mo_wpF C A (T := TX11) iX11 tyX11 tyX11_ok nmX11 rfl 26 (by decide) tb_143 rfl rfl hnm rfl rfl rfl dX11_init_193 hF (fun h H locs hF A => ?_)
    refine lv_aload_n hx hb dX11_init_196 rfl (lv_at hl 0 rfl) ?_
    refine lv_bipush (v := (18 : Int32)) hx hb dX11_init_197 (by decide) ?_
    refine mo_wna C A (t := 0) (ty := .int) rfl (fun _ => rfl) (fun _ _ h => h) (by decide) rfl tb_40 dX11_init_199 hF (fun v24 h H hF A => ?_)
    refine mo_wpF C A (T := TX11) iX11 tyX11 tyX11_ok nmX11 rfl 27 (by decide) tb_144 rfl rfl hnm rfl rfl rfl dX11_init_201 hF (fun h H locs hF A => ?_)
    refine lv_aload_n hx hb dX11_init_204 rfl (lv_at hl 0 rfl) ?_
    refine lv_bipush (v := (18 : Int32)) hx hb dX11_init_205 (by decide) ?_
    refine mo_wna C A (t := 0) (ty := .int) rfl (fun _ => rfl) (fun _ _ h => h) (by decide) rfl tb_40 dX11_init_207 hF (fun v25 h H hF A => ?_)
    refine mo_wpF C A (T := TX11) iX11 tyX11 tyX11_ok nmX11 rfl 28 (by decide) tb_145 rfl rfl hnm rfl rfl rfl dX11_init_209 hF (fun h H locs hF A => ?_)
    refine lv_aload_n hx hb dX11_init_212 rfl (lv_at hl 0 rfl) ?_
    refine lv_bipush (v := (18 : Int32)) hx hb dX11_init_213 (by decide) ?_
    refine mo_wna C A (t := 0) (ty := .int) rfl (fun _ => rfl) (fun _ _ h => h) (by decide) rfl tb_40 dX11_init_215 hF (fun v26 h H hF A => ?_)
    refine mo_wpF C A (T := TX11) iX11 tyX11 tyX11_ok nmX11 rfl 29 (by decide) tb_146 rfl rfl hnm rfl rfl rfl dX11_init_217 hF (fun h H locs hF A => ?_)
    refine lv_aload_n hx hb dX11_init_220 rfl (lv_at hl 0 rfl) ?_
    refine lv_bipush (v := (36 : Int32)) hx hb dX11_init_221 (by decide) ?_
    refine mo_wna C A (t := 0) (ty := .int) rfl (fun _ => rfl) (fun _ _ h => h) (by decide) rfl tb_40 dX11_init_223 hF (fun v27 h H hF A => ?_)
    refine mo_wpF C A (T := TX11) iX11 tyX11 tyX11_ok nmX11 rfl 30 (by decide) tb_147 rfl rfl hnm rfl rfl rfl dX11_init_225 hF (fun h H locs hF A => ?_)
    refine lv_aload_n hx hb dX11_init_228 rfl (lv_at hl 0 rfl) ?_
    refine lv_bipush (v := (36 : Int32)) hx hb dX11_init_229 (by decide) ?_
    refine mo_wna C A (t := 0) (ty := .int) rfl (fun _ => rfl) (fun _ _ h => h) (by decide) rfl tb_40 dX11_init_231 hF (fun v28 h H hF A => ?_)
    refine mo_wpF C A (T := TX11) iX11 tyX11 tyX11_ok nmX11 rfl 31 (by decide) tb_148 rfl rfl hnm rfl rfl rfl dX11_init_233 hF (fun h H locs hF A => ?_)
    refine lv_aload_n hx hb dX11_init_236 rfl (lv_at hl 0 rfl) ?_
    refine lv_bipush (v := (36 : Int32)) hx hb dX11_init_237 (by decide) ?_
    refine mo_wna C A (t := 0) (ty := .int) rfl (fun _ => rfl) (fun _ _ h => h) (by decide) rfl tb_40 dX11_init_239 hF (fun v29 h H hF A => ?_)
    refine mo_wpF C A (T := TX11) iX11 tyX11 tyX11_ok nmX11 rfl 32 (by decide) tb_149 rfl rfl hnm rfl rfl rfl dX11_init_241 hF (fun h H locs hF A => ?_)
    refine lv_aload_n hx hb dX11_init_244 rfl (lv_at hl 0 rfl) ?_
    refine lv_bipush (v := (36 : Int32)) hx hb dX11_init_245 (by decide) ?_
    refine mo_wna C A (t := 0) (ty := .int) rfl (fun _ => rfl) (fun _ _ h => h) (by decide) rfl tb_40 dX11_init_247 hF (fun v30 h H hF A => ?_)
    refine mo_wpF C A (T := TX11) iX11 tyX11 tyX11_ok nmX11 rfl 33 (by decide) tb_150 rfl rfl hnm rfl rfl rfl dX11_init_249 hF (fun h H locs hF A => ?_)
    refine lv_aload_n hx hb dX11_init_252 rfl (lv_at hl 0 rfl) ?_
    refine lv_bipush (v := (36 : Int32)) hx hb dX11_init_253 (by decide) ?_
    refine mo_wna C A (t := 0) (ty := .int) rfl (fun _ => rfl) (fun _ _ h => h) (by decide) rfl tb_40 dX11_init_255 hF (fun v31 h H hF A => ?_)
    refine mo_wpF C A (T := TX11) iX11 tyX11 tyX11_ok nmX11 rfl 34 (by decide) tb_151 rfl rfl hnm rfl rfl rfl dX11_init_257 hF (fun h H locs hF A => ?_)
    refine lv_aload_n hx hb dX11_init_260 rfl (lv_at hl 0 rfl) ?_
    refine lv_bipush (v := (36 : Int32)) hx hb dX11_init_261 (by decide) ?_
    refine mo_wna C A (t := 0) (ty := .int) rfl (fun _ => rfl) (fun _ _ h => h) (by decide) rfl tb_40 dX11_init_263 hF (fun v32 h H hF A => ?_)
    refine mo_wpF C A (T := TX11) iX11 tyX11 tyX11_ok nmX11 rfl 35 (by decide) tb_152 rfl rfl hnm rfl rfl rfl dX11_init_265 hF (fun h H locs hF A => ?_)
    refine lv_aload_n hx hb dX11_init_268 rfl (lv_at hl 0 rfl) ?_
    refine lv_bipush (v := (36 : Int32)) hx hb dX11_init_269 (by decide) ?_
    refine mo_wna C A (t := 0) (ty := .int) rfl (fun _ => rfl) (fun _ _ h => h) (by decide) rfl tb_40 dX11_init_271 hF (fun v33 h H hF A => ?_)
    refine mo_wpF C A (T := TX11) iX11 tyX11 tyX11_ok nmX11 rfl 36 (by decide) tb_153 rfl rfl hnm rfl rfl rfl dX11_init_273 hF (fun h H locs hF A => ?_)
    refine lv_aload_n hx hb dX11_init_276 rfl (lv_at hl 0 rfl) ?_
    refine lv_bipush (v := (36 : Int32)) hx hb dX11_init_277 (by decide) ?_
    refine mo_wna C A (t := 0) (ty := .int) rfl (fun _ => rfl) (fun _ _ h => h) (by decide) rfl tb_40 dX11_init_279 hF (fun v34 h H hF A => ?_)
    refine mo_wpF C A (T := TX11) iX11 tyX11 tyX11_ok nmX11 rfl 37 (by decide) tb_154 rfl rfl hnm rfl rfl rfl dX11_init_281 hF (fun h H locs hF A => ?_)
    refine lv_aload_n hx hb dX11_init_284 rfl (lv_at hl 0 rfl) ?_
    refine lv_sipush (v := (144 : Int32)) hx hb dX11_init_285 (by decide) ?_
    refine mo_wna C A (t := 0) (ty := .int) rfl (fun _ => rfl) (fun _ _ h => h) (by decide) rfl tb_40 dX11_init_288 hF (fun v35 h H hF A => ?_)
    refine mo_wpF C A (T := TX11) iX11 tyX11 tyX11_ok nmX11 rfl 38 (by decide) tb_155 rfl rfl hnm rfl rfl rfl dX11_init_290 hF (fun h H locs hF A => ?_)
    refine lv_aload_n hx hb dX11_init_293 rfl (lv_at hl 0 rfl) ?_
    refine lv_bipush (v := (36 : Int32)) hx hb dX11_init_294 (by decide) ?_
    refine mo_wna C A (t := 0) (ty := .int) rfl (fun _ => rfl) (fun _ _ h => h) (by decide) rfl tb_40 dX11_init_296 hF (fun v36 h H hF A => ?_)
    refine mo_wpF C A (T := TX11) iX11 tyX11 tyX11_ok nmX11 rfl 39 (by decide) tb_156 rfl rfl hnm rfl rfl rfl dX11_init_298 hF (fun h H locs hF A => ?_)
    refine lv_aload_n hx hb dX11_init_301 rfl (lv_at hl 0 rfl) ?_
    refine lv_bipush (v := (36 : Int32)) hx hb dX11_init_302 (by decide) ?_
    refine mo_wna C A (t := 0) (ty := .int) rfl (fun _ => rfl) (fun _ _ h => h) (by decide) rfl tb_40 dX11_init_304 hF (fun v37 h H hF A => ?_)
    refine mo_wpF C A (T := TX11) iX11 tyX11 tyX11_ok nmX11 rfl 40 (by decide) tb_157 rfl rfl hnm rfl rfl rfl dX11_init_306 hF (fun h H locs hF A => ?_)
    refine lv_aload_n hx hb dX11_init_309 rfl (lv_at hl 0 rfl) ?_
    refine lv_sipush (v := (9000 : Int32)) hx hb dX11_init_310 (by decide) ?_
    refine mo_wna C A (t := 0) (ty := .int) rfl (fun _ => rfl) (fun _ _ h => h) (by decide) rfl tb_40 dX11_init_313 hF (fun v38 h H hF A => ?_)
    refine mo_wpF C A (T := TX11) iX11 tyX11 tyX11_ok nmX11 rfl 41 (by decide) tb_158 rfl rfl hnm rfl rfl rfl dX11_init_315 hF (fun h H locs hF A => ?_)
    refine lv_aload_n hx hb dX11_init_318 rfl (lv_at hl 0 rfl) ?_
    refine lv_sipush (v := (9000 : Int32)) hx hb dX11_init_319 (by decide) ?_
    refine mo_wna C A (t := 0) (ty := .int) rfl (fun _ => rfl) (fun _ _ h => h) (by decide) rfl tb_40 dX11_init_322 hF (fun v39 h H hF A => ?_)
    refine mo_wpF C A (T := TX11) iX11 tyX11 tyX11_ok nmX11 rfl 42 (by decide) tb_159 rfl rfl hnm rfl rfl rfl dX11_init_324 hF (fun h H locs hF A => ?_)
    refine lv_aload_n hx hb dX11_init_327 rfl (lv_at hl 0 rfl) ?_
    refine lv_ldc (v := (36000 : Int32)) hx hb hown (hts _ tb_160) dX11_init_328 ?_
    refine mo_wna C A (t := 0) (ty := .int) rfl (fun _ => rfl) (fun _ _ h => h) (by decide) rfl tb_40 dX11_init_330 hF (fun v40 h H hF A => ?_)
    refine mo_wpF C A (T := TX11) iX11 tyX11 tyX11_ok nmX11 rfl 43 (by decide) tb_161 rfl rfl hnm rfl rfl rfl dX11_init_332 hF (fun h H locs hF A => ?_)
    refine lv_aload_n hx hb dX11_init_335 rfl (lv_at hl 0 rfl) ?_
    refine lv_iconst (v := (3 : Int32)) hx hb dX11_init_336 (by decide) ?_
    refine mo_wna C A (t := 0) (ty := .int) rfl (fun _ => rfl) (fun _ _ h => h) (by decide) rfl tb_40 dX11_init_337 hF (fun v41 h H hF A => ?_)
    refine mo_wpF C A (T := TX11) iX11 tyX11 tyX11_ok nmX11 rfl 44 (by decide) tb_162 rfl rfl hnm rfl rfl rfl dX11_init_339 hF (fun h H locs hF A => ?_)
    refine lv_aload_n hx hb dX11_init_342 rfl (lv_at hl 0 rfl) ?_
    refine lv_iconst (v := (3 : Int32)) hx hb dX11_init_343 (by decide) ?_
    refine mo_wna C A (t := 0) (ty := .int) rfl (fun _ => rfl) (fun _ _ h => h) (by decide) rfl tb_40 dX11_init_344 hF (fun v42 h H hF A => ?_)
    refine mo_wpF C A (T := TX11) iX11 tyX11 tyX11_ok nmX11 rfl 45 (by decide) tb_163 rfl rfl hnm rfl rfl rfl dX11_init_346 hF (fun h H locs hF A => ?_)
    refine lv_aload_n hx hb dX11_init_349 rfl (lv_at hl 0 rfl) ?_
    refine lv_iconst (v := (3 : Int32)) hx hb dX11_init_350 (by decide) ?_
    refine mo_wna C A (t := 0) (ty := .int) rfl (fun _ => rfl) (fun _ _ h => h) (by decide) rfl tb_40 dX11_init_351 hF (fun v43 h H hF A => ?_)
    refine mo_wpF C A (T := TX11) iX11 tyX11 tyX11_ok nmX11 rfl 46 (by decide) tb_164 rfl rfl hnm rfl rfl rfl dX11_init_353 hF (fun h H locs hF A => ?_)
    refine lv_aload_n hx hb dX11_init_356 rfl (lv_at hl 0 rfl) ?_
    refine lv_iconst (v := (3 : Int32)) hx hb dX11_init_357 (by decide) ?_
    refine mo_wna C A (t := 0) (ty := .int) rfl (fun _ => rfl) (fun _ _ h => h) (by decide) rfl tb_40 dX11_init_358 hF (fun v44 h H hF A => ?_)
    refine mo_wpF C A (T := TX11) iX11 tyX11 tyX11_ok nmX11 rfl 47 (by decide) tb_165 rfl rfl hnm rfl rfl rfl dX11_init_360 hF (fun h H locs hF A => ?_)
    refine lv_aload_n hx hb dX11_init_363 rfl (lv_at hl 0 rfl) ?_
    refine lv_iconst (v := (3 : Int32)) hx hb dX11_init_364 (by decide) ?_
    refine mo_wna C A (t := 0) (ty := .int) rfl (fun _ => rfl) (fun _ _ h => h) (by decide) rfl tb_40 dX11_init_365 hF (fun v45 h H hF A => ?_)
    refine mo_wpF C A (T := TX11) iX11 tyX11 tyX11_ok nmX11 rfl 48 (by decide) tb_166 rfl rfl hnm rfl rfl rfl dX11_init_367 hF (fun h H locs hF A => ?_)
    refine lv_aload_n hx hb dX11_init_370 rfl (lv_at hl 0 rfl) ?_
    refine lv_iconst (v := (3 : Int32)) hx hb dX11_init_371 (by decide) ?_
    refine mo_wna C A (t := 0) (ty := .int) rfl (fun _ => rfl) (fun _ _ h => h) (by decide) rfl tb_40 dX11_init_372 hF (fun v46 h H hF A => ?_)
    refine mo_wpF C A (T := TX11) iX11 tyX11 tyX11_ok nmX11 rfl 49 (by decide) tb_167 rfl rfl hnm rfl rfl rfl dX11_init_374 hF (fun h H locs hF A => ?_)
    refine lv_aload_n hx hb dX11_init_377 rfl (lv_at hl 0 rfl) ?_
    refine lv_iconst (v := (3 : Int32)) hx hb dX11_init_378 (by decide) ?_
    refine mo_wna C A (t := 1) (ty := .boolean) rfl (fun _ => rfl) (fun _ _ h => h) (by decide) rfl tb_120 dX11_init_379 hF (fun v47 h H hF A => ?_)
    refine mo_wpF C A (T := TX11) iX11 tyX11 tyX11_ok nmX11 rfl 50 (by decide) tb_168 rfl rfl hnm rfl rfl rfl dX11_init_381 hF (fun h H locs hF A => ?_)
    refine lv_aload_n hx hb dX11_init_384 rfl (lv_at hl 0 rfl) ?_
    refine lv_iconst (v := (3 : Int32)) hx hb dX11_init_385 (by decide) ?_
    refine mo_wna C A (t := 1) (ty := .boolean) rfl (fun _ => rfl) (fun _ _ h => h) (by decide) rfl tb_120 dX11_init_386 hF (fun v48 h H hF A => ?_)
    refine mo_wpF C A (T := TX11) iX11 tyX11 tyX11_ok nmX11 rfl 51 (by decide) tb_169 rfl rfl hnm rfl rfl rfl dX11_init_388 hF (fun h H locs hF A => ?_)
    refine lv_aload_n hx hb dX11_init_391 rfl (lv_at hl 0 rfl) ?_
    refine lv_sipush (v := (3000 : Int32)) hx hb dX11_init_392 (by decide) ?_
    refine mo_wna C A (t := 1) (ty := .boolean) rfl (fun _ => rfl) (fun _ _ h => h) (by decide) rfl tb_120 dX11_init_395 hF (fun v49 h H hF A => ?_)
    refine mo_wpF C A (T := TX11) iX11 tyX11 tyX11_ok nmX11 rfl 52 (by decide) tb_170 rfl rfl hnm rfl rfl rfl dX11_init_397 hF (fun h H locs hF A => ?_)
    refine lv_aload_n hx hb dX11_init_400 rfl (lv_at hl 0 rfl) ?_
    refine lv_sipush (v := (3000 : Int32)) hx hb dX11_init_401 (by decide) ?_
    refine mo_wna C A (t := 1) (ty := .boolean) rfl (fun _ => rfl) (fun _ _ h => h) (by decide) rfl tb_120 dX11_init_404 hF (fun v50 h H hF A => ?_)
    refine mo_wpF C A (T := TX11) iX11 tyX11 tyX11_ok nmX11 rfl 53 (by decide) tb_171 rfl rfl hnm rfl rfl rfl dX11_init_406 hF (fun h H locs hF A => ?_)
    refine lv_aload_n hx hb dX11_init_409 rfl (lv_at hl 0 rfl) ?_
    refine lv_bipush (v := (6 : Int32)) hx hb dX11_init_410 (by decide) ?_
    refine mo_wna C A (t := 1) (ty := .boolean) rfl (fun _ => rfl) (fun _ _ h => h) (by decide) rfl tb_120 dX11_init_412 hF (fun v51 h H hF A => ?_)
    refine mo_wpF C A (T := TX11) iX11 tyX11 tyX11_ok nmX11 rfl 55 (by decide) tb_172 rfl rfl hnm rfl rfl rfl dX11_init_414 hF (fun h H locs hF A => ?_)
    refine lv_aload_n hx hb dX11_init_417 rfl (lv_at hl 0 rfl) ?_
    refine lv_iload_n hx hb dX11_init_418 rfl (lv_at hl 1 rfl) ?_
    refine lv_iconst (v := (2 : Int32)) hx hb dX11_init_419 (by decide) ?_
    refine lv_icmp_ge (tgt := 427) hx hb dX11_init_420 (by decide) (fun c52 => ?_) (fun c52 => ?_)
    · have hF := mo_ifT c52 hF
      refine lv_iload_n hx hb dX11_init_427 rfl (lv_at hl 1 rfl) ?_
      refine lv_bipush (v := (6 : Int32)) hx hb dX11_init_428 (by decide) ?_
      refine lv_icmp_le (tgt := 438) hx hb dX11_init_430 (by decide) (fun c53 => ?_) (fun c53 => ?_)
      · have hF := mo_ifT c53 hF
        refine lv_iload_n hx hb dX11_init_438 rfl (lv_at hl 1 rfl) ?_
        exact J439 x0 x0 x1 h H locs ls A (lv_sub hl [0] rfl) hF
      · have hF := mo_ifF c53 hF
        refine lv_bipush (v := (6 : Int32)) hx hb dX11_init_433 (by decide) ?_
        refine lv_goto (tgt := 439) hx hb dX11_init_435 (by decide) ?_
        exact J439 x0 x0 (6 : Int32) h H locs ls A (lv_sub hl [0] rfl) hF
    · have hF := mo_ifF c52 hF
      refine lv_iconst (v := (2 : Int32)) hx hb dX11_init_423 (by decide) ?_
      refine lv_goto (tgt := 439) hx hb dX11_init_424 (by decide) ?_
      exact J439 x0 x0 (2 : Int32) h H locs ls A (lv_sub hl [0] rfl) hF
  exact E h0 s.heap [] hF A
set_option maxHeartbeats 4000000 in
set_option maxRecDepth 100000 in
theorem c_X11_isDomain (l : Launch) (D : va_G) (dA : Nat → ClassId) (b0 : Nat) (x0 : Nat) (x1 : Int32) : mo_Met l yX11_isDomain [Cond.code yX11_isDomain cX11_isDomain 2 (some .boolean)] 0 0 D dA b0 [.ref x0, .int x1] (fun r : Int32 => some (.int r)) (F_X11_isDomain x0 x1) := by
  refine mo_MetOf (own := RX11) (by decide) (Nat.le_of_ble_eq_true rfl) [(0, .ref x0), (1, .int x1)] rfl rfl ?_
  intro p e R s m args below meth c Q h0 h2 z ls hQ C hml hr hlocks hnm hfr hlo hF A hl
  have hx := C.1
  have hb := C.2.1
  have hown := C.2.2.1
  have hts := C.2.2.2.1
  have hK := C.2.2.2.2.1
  have iX11 := inlX11
  unfold F_X11_isDomain at hF
  obtain ⟨-, hF⟩ := mo_ckE hF
  have E : ∀ (h : mo_H) (H : Heap) (locs : List Loc), ((if x1 < 0 then mo_rz (0 : Int32) else mo_b (mo_gI x0 11 0) fun v2 => (if v2 ≤ x1 then mo_rz (0 : Int32) else mo_rz (1 : Int32)))).1 h = some (z, h2) → mo_A D dA b0 s.heap h0 h H locs → W p l e R s m args below meth c H locs (h.2.1 - h0.2.1) (h.2.2 - h0.2.2) Q (F0 m 0 ls []) := by
    intro h H locs hF A
    refine lv_iload_n hx hb dX11_isDomain_0 rfl (lv_at hl 1 rfl) ?_
    refine lv_if_lt (tgt := 16) hx hb dX11_isDomain_1 (by decide) (fun c1 => ?_) (fun c1 => ?_)
    · have hF := mo_ifT c1 hF
      refine lv_iconst (v := (0 : Int32)) hx hb dX11_isDomain_16 (by decide) ?_
      rw [hQ]
      exact mo_zret C A hr hlocks dX11_isDomain_17 hF
    · have hF := mo_ifF c1 hF
      refine lv_iload_n hx hb dX11_isDomain_4 rfl (lv_at hl 1 rfl) ?_
      refine lv_aload_n hx hb dX11_isDomain_5 rfl (lv_at hl 0 rfl) ?_
      refine mo_wI C A (T := TX11) iX11 rfl 0 (by decide) tb_173 rfl dX11_isDomain_6 hF (fun v2 hF => ?_)
      refine lv_icmp_ge (tgt := 16) hx hb dX11_isDomain_9 (by decide) (fun c3 => ?_) (fun c3 => ?_)
      · have hF := mo_ifT c3 hF
        refine lv_iconst (v := (0 : Int32)) hx hb dX11_isDomain_16 (by decide) ?_
        rw [hQ]
        exact mo_zret C A hr hlocks dX11_isDomain_17 hF
      · have hF := mo_ifF c3 hF
        refine lv_iconst (v := (1 : Int32)) hx hb dX11_isDomain_12 (by decide) ?_
        refine lv_goto (tgt := 17) hx hb dX11_isDomain_13 (by decide) ?_
        rw [hQ]
        exact mo_zret C A hr hlocks dX11_isDomain_17 hF
  exact E h0 s.heap [] hF A
set_option maxHeartbeats 4000000 in
set_option maxRecDepth 100000 in
theorem c_X11_flowsTo (l : Launch) (D : va_G) (dA : Nat → ClassId) (b0 : Nat) (x0 : Nat) (x1 : Int32) (x2 : Int32) : mo_Met l yX11_flowsTo [Cond.code yX11_flowsTo cX11_flowsTo 3 (some .boolean)] 0 0 D dA b0 [.ref x0, .int x1, .int x2] (fun r : Int32 => some (.int r)) (F_X11_flowsTo x0 x1 x2) := by
  refine mo_MetOf (own := RX11) (by decide) (Nat.le_of_ble_eq_true rfl) [(0, .ref x0), (1, .int x1), (2, .int x2)] rfl rfl ?_
  intro p e R s m args below meth c Q h0 h2 z ls hQ C hml hr hlocks hnm hfr hlo hF A hl
  have hx := C.1
  have hb := C.2.1
  have hown := C.2.2.1
  have hts := C.2.2.2.1
  have hK := C.2.2.2.2.1
  have iX11 := inlX11
  have J19 : ∀    (h : mo_H) (H : Heap) (locs : List Loc) (ls : Array Slot), mo_A D dA b0 s.heap h0 h H locs → lv_has ls 3 [] → (F_X11_flowsTo_19).1 h = some (z, h2) → W p l e R s m args below meth c H locs (h.2.1 - h0.2.1) (h.2.2 - h0.2.2) Q (F0 m 19 ls []) := by
    intro   h H locs ls A hl hF
    unfold F_X11_flowsTo_19 at hF
    refine lv_iconst (v := (1 : Int32)) hx hb dX11_flowsTo_19 (by decide) ?_
    refine lv_goto (tgt := 24) hx hb dX11_flowsTo_20 (by decide) ?_
    rw [hQ]
    exact mo_zret C A hr hlocks dX11_flowsTo_24 hF
  unfold F_X11_flowsTo at hF
  obtain ⟨-, hF⟩ := mo_ckE hF
  have E : ∀ (h : mo_H) (H : Heap) (locs : List Loc), ((if x1 = x2 then F_X11_flowsTo_19 else mo_b (mo_gR x0 11 1) fun v2 => mo_b (mo_la 1 v2 (((6 : Int32) * x1) + x2)) fun v3 => (if v3 = 0 then mo_rz (0 : Int32) else F_X11_flowsTo_19))).1 h = some (z, h2) → mo_A D dA b0 s.heap h0 h H locs → W p l e R s m args below meth c H locs (h.2.1 - h0.2.1) (h.2.2 - h0.2.2) Q (F0 m 0 ls []) := by
    intro h H locs hF A
    refine lv_iload_n hx hb dX11_flowsTo_0 rfl (lv_at hl 1 rfl) ?_
    refine lv_iload_n hx hb dX11_flowsTo_1 rfl (lv_at hl 2 rfl) ?_
    refine lv_icmp_eq (tgt := 19) hx hb dX11_flowsTo_2 (by decide) (fun c1 => ?_) (fun c1 => ?_)
    · have hF := mo_ifT c1 hF
      exact J19 h H locs ls A (lv_sub hl [] rfl) hF
    · have hF := mo_ifF c1 hF
      refine lv_aload_n hx hb dX11_flowsTo_5 rfl (lv_at hl 0 rfl) ?_
      refine mo_wR C A (T := TX11) iX11 rfl 1 (by decide) tb_121 rfl dX11_flowsTo_6 hF (fun v2 hF => ?_)
      refine lv_bipush (v := (6 : Int32)) hx hb dX11_flowsTo_9 (by decide) ?_
      refine lv_iload_n hx hb dX11_flowsTo_11 rfl (lv_at hl 1 rfl) ?_
      refine lv_imul hx hb dX11_flowsTo_12 ?_
      refine lv_iload_n hx hb dX11_flowsTo_13 rfl (lv_at hl 2 rfl) ?_
      refine lv_iadd hx hb dX11_flowsTo_14 ?_
      refine mo_wlz C A dX11_flowsTo_15 hF (fun v3 hF => ?_)
      refine lv_if_eq (tgt := 23) hx hb dX11_flowsTo_16 (by decide) (fun c4 => ?_) (fun c4 => ?_)
      · have hF := mo_ifT c4 hF
        refine lv_iconst (v := (0 : Int32)) hx hb dX11_flowsTo_23 (by decide) ?_
        rw [hQ]
        exact mo_zret C A hr hlocks dX11_flowsTo_24 hF
      · have hF := mo_ifF c4 hF
        exact J19 h H locs ls A (lv_sub hl [] rfl) hF
  exact E h0 s.heap [] hF A
set_option maxHeartbeats 4000000 in
set_option maxRecDepth 100000 in
theorem c_X11_reigns (l : Launch) (D : va_G) (dA : Nat → ClassId) (b0 : Nat) (x0 : Nat) (x1 : Int32) : mo_Met l yX11_reigns [Cond.code yX11_reigns cX11_reigns 4 (some .boolean)] 1 22 D dA b0 [.ref x0, .int x1] (fun r : Int32 => some (.int r)) (F_X11_reigns x0 x1) := by
  refine mo_MetOf (own := RX11) (by decide) (Nat.le_of_ble_eq_true rfl) [(0, .ref x0), (1, .int x1)] rfl rfl ?_
  intro p e R s m args below meth c Q h0 h2 z ls hQ C hml hr hlocks hnm hfr hlo hF A hl
  have hx := C.1
  have hb := C.2.1
  have hown := C.2.2.1
  have hts := C.2.2.2.1
  have hK := C.2.2.2.2.1
  have iX11 := inlX11
  have J30 : ∀ (k4 : Nat → Int32 → Int32 → Int32 → mo_M Int32) (hk4 : ∀ (x0 : Nat) (x1 : Int32) (x2 : Int32) (x3 : Int32) (h : mo_H) (H : Heap) (locs : List Loc) (ls : Array Slot), mo_A D dA b0 s.heap h0 h H locs → lv_has ls 4 [(0, .ref x0), (1, .int x1), (2, .int x2), (3, .int x3)] → (k4 x0 x1 x2 x3).1 h = some (z, h2) → W p l e R s m args below meth c H locs (h.2.1 - h0.2.1) (h.2.2 - h0.2.2) Q (F0 m 4 ls [])) (x0 : Nat) (x1 : Int32) (x3 : Int32) (s0 : Int32) (h : mo_H) (H : Heap) (locs : List Loc) (ls : Array Slot), mo_A D dA b0 s.heap h0 h H locs → lv_has ls 4 [(0, .ref x0), (1, .int x1), (3, .int x3)] → (F_X11_reigns_30 k4 x0 x1 x3 s0).1 h = some (z, h2) → W p l e R s m args below meth c H locs (h.2.1 - h0.2.1) (h.2.2 - h0.2.2) Q (F0 m 30 ls [.int s0]) := by
    intro k4 hk4 x0 x1 x3 s0 h H locs ls A hl hF
    unfold F_X11_reigns_30 at hF
    refine lv_istore_n (lv' := [(2, .int s0), (0, .ref x0), (1, .int x1), (3, .int x3)]) hx hb dX11_reigns_30 rfl hl (by decide) rfl (fun ls hl => ?_)
    refine lv_iinc (v := (x3 + (1 : Int32))) (lv' := [(3, .int (x3 + (1 : Int32))), (2, .int s0), (0, .ref x0), (1, .int x1)]) hx hb dX11_reigns_31 hl (k := 3) rfl rfl (by decide) rfl (fun ls hl => ?_)
    refine lv_goto (tgt := 4) hx hb dX11_reigns_34 (by decide) ?_
    exact hk4 x0 x1 s0 (x3 + (1 : Int32)) h H locs ls A (lv_sub hl [2, 3, 1, 0] rfl) hF
  have J29 : ∀ (k4 : Nat → Int32 → Int32 → Int32 → mo_M Int32) (hk4 : ∀ (x0 : Nat) (x1 : Int32) (x2 : Int32) (x3 : Int32) (h : mo_H) (H : Heap) (locs : List Loc) (ls : Array Slot), mo_A D dA b0 s.heap h0 h H locs → lv_has ls 4 [(0, .ref x0), (1, .int x1), (2, .int x2), (3, .int x3)] → (k4 x0 x1 x2 x3).1 h = some (z, h2) → W p l e R s m args below meth c H locs (h.2.1 - h0.2.1) (h.2.2 - h0.2.2) Q (F0 m 4 ls [])) (x0 : Nat) (x1 : Int32) (x3 : Int32) (h : mo_H) (H : Heap) (locs : List Loc) (ls : Array Slot), mo_A D dA b0 s.heap h0 h H locs → lv_has ls 4 [(0, .ref x0), (1, .int x1), (3, .int x3)] → (F_X11_reigns_29 k4 x0 x1 x3).1 h = some (z, h2) → W p l e R s m args below meth c H locs (h.2.1 - h0.2.1) (h.2.2 - h0.2.2) Q (F0 m 29 ls []) := by
    intro k4 hk4 x0 x1 x3 h H locs ls A hl hF
    unfold F_X11_reigns_29 at hF
    refine lv_iconst (v := (0 : Int32)) hx hb dX11_reigns_29 (by decide) ?_
    exact J30 k4 hk4 x0 x1 x3 (0 : Int32) h H locs ls A (lv_sub hl [0, 1, 2] rfl) hF
  have J4 : ∀   (fu : Nat) (x0 : Nat) (x1 : Int32) (x2 : Int32) (x3 : Int32) (h : mo_H) (H : Heap) (locs : List Loc) (ls : Array Slot), mo_A D dA b0 s.heap h0 h H locs → lv_has ls 4 [(0, .ref x0), (1, .int x1), (2, .int x2), (3, .int x3)] → (F_X11_reigns_4 fu x0 x1 x2 x3).1 h = some (z, h2) → W p l e R s m args below meth c H locs (h.2.1 - h0.2.1) (h.2.2 - h0.2.2) Q (F0 m 4 ls []) := by
    intro  fu
    induction fu with
    | zero =>
      intro x0 x1 x2 x3 h H locs ls A hl hF
      unfold F_X11_reigns_4 at hF
      cases hF
    | succ fu ih =>
      intro x0 x1 x2 x3 h H locs ls A hl hF
      unfold F_X11_reigns_4 at hF
      refine lv_iload_n hx hb dX11_reigns_4 rfl (lv_at hl 3 rfl) ?_
      refine lv_aload_n hx hb dX11_reigns_5 rfl (lv_at hl 0 rfl) ?_
      refine mo_wI C A (T := TX11) iX11 rfl 0 (by decide) tb_173 rfl dX11_reigns_6 hF (fun v1 hF => ?_)
      refine lv_icmp_ge (tgt := 37) hx hb dX11_reigns_9 (by decide) (fun c2 => ?_) (fun c2 => ?_)
      · have hF := mo_ifT c2 hF
        refine lv_iload_n hx hb dX11_reigns_37 rfl (lv_at hl 2 rfl) ?_
        rw [hQ]
        exact mo_zret C A hr hlocks dX11_reigns_38 hF
      · have hF := mo_ifF c2 hF
        refine lv_iload_n hx hb dX11_reigns_12 rfl (lv_at hl 2 rfl) ?_
        refine lv_if_eq (tgt := 29) hx hb dX11_reigns_13 (by decide) (fun c3 => ?_) (fun c3 => ?_)
        · have hF := mo_ifT c3 hF
          exact J29 (F_X11_reigns_4  fu) ih x0 x1 x3 h H locs ls A (lv_sub hl [0, 1, 3] rfl) hF
        · have hF := mo_ifF c3 hF
          refine lv_aload_n hx hb dX11_reigns_16 rfl (lv_at hl 0 rfl) ?_
          refine lv_iload_n hx hb dX11_reigns_17 rfl (lv_at hl 1 rfl) ?_
          refine lv_iload_n hx hb dX11_reigns_18 rfl (lv_at hl 3 rfl) ?_
          refine mo_cV (n := 2) (As := [.int x1, .int x3]) (rest := []) C A hml hl.1 (c_X11_flowsTo l D dA b0 x0 x1 x3) (ci := 11) (q := (RX11, TX11, 56)) rfl (fun _ e => (mo_ckE e).1) (tb_v tb_580 tb_581 tb_582 tb_5 tb_583) rfl (by decide +kernel) ⟨Nat.le_trans (by decide) hfr, Nat.le_trans (Nat.le_of_ble_eq_true rfl) hlo⟩ rfl (Nat.le_of_ble_eq_true rfl) rfl dX11_reigns_19 hF (fun v4 h H locs hF A => ?_)
          show W _ _ _ _ _ _ _ _ _ _ _ _ _ _ _ (F0 m 22 ls [.int v4])
          refine lv_if_eq (tgt := 29) hx hb dX11_reigns_22 (by decide) (fun c5 => ?_) (fun c5 => ?_)
          · have hF := mo_ifT c5 hF
            exact J29 (F_X11_reigns_4  fu) ih x0 x1 x3 h H locs ls A (lv_sub hl [0, 1, 3] rfl) hF
          · have hF := mo_ifF c5 hF
            refine lv_iconst (v := (1 : Int32)) hx hb dX11_reigns_25 (by decide) ?_
            refine lv_goto (tgt := 30) hx hb dX11_reigns_26 (by decide) ?_
            exact J30 (F_X11_reigns_4  fu) ih x0 x1 x3 (1 : Int32) h H locs ls A (lv_sub hl [0, 1, 3] rfl) hF
  unfold F_X11_reigns at hF
  obtain ⟨-, hF⟩ := mo_ckE hF
  have E : ∀ (h : mo_H) (H : Heap) (locs : List Loc), (F_X11_reigns_4 mo_fu x0 x1 (1 : Int32) (0 : Int32)).1 h = some (z, h2) → mo_A D dA b0 s.heap h0 h H locs → W p l e R s m args below meth c H locs (h.2.1 - h0.2.1) (h.2.2 - h0.2.2) Q (F0 m 0 ls []) := by
    intro h H locs hF A
    refine lv_iconst (v := (1 : Int32)) hx hb dX11_reigns_0 (by decide) ?_
    refine lv_istore_n (lv' := [(2, .int (1 : Int32)), (0, .ref x0), (1, .int x1)]) hx hb dX11_reigns_1 rfl hl (by decide) rfl (fun ls hl => ?_)
    refine lv_iconst (v := (0 : Int32)) hx hb dX11_reigns_2 (by decide) ?_
    refine lv_istore_n (lv' := [(3, .int (0 : Int32)), (2, .int (1 : Int32)), (0, .ref x0), (1, .int x1)]) hx hb dX11_reigns_3 rfl hl (by decide) rfl (fun ls hl => ?_)
    exact J4 mo_fu x0 x1 (1 : Int32) (0 : Int32) h H locs ls A (lv_sub hl [2, 3, 1, 0] rfl) hF
  exact E h0 s.heap [] hF A
