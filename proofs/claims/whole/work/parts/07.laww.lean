def R_law : String := "SplitKernelLaw"
def lw_P (b : Addr) (xs : List Int32) (args : Array Value) (s : State) : Prop := args = #[.ref b] ∧ s.IntsAt b xs ∧ xs.length ≤ 2561 ∧ (Jvm.Cond.and given_1 narrow_1).before args s = true
def lw_Q (_ : Array Value) (s : State) (o : Outcome) (t : State) : Prop := o = .returned (some (.int 1)) ∧ Framed s o t [] room_1.cells room_1.slots
def lw_Z (below : List Frame) (a : Array Value) (s : State) : State → Prop := fun t => ∃ o, t.status = .running ∧ Ended t below o ∧ lw_Q a s o t
/-- the law's own end, with 1 on the stack, nothing written that was there before, its room as the claim has it -/
theorem lw_ret {p : Program} {l : Launch} {e : Env} {s : State} {m : MethodId} {below : List Frame} {meth : Method} {c : Code} {b : Nat} (hx : p.tables.exec = Jvm.exec) (hb : c.code = code) (hr : meth.sig.returnType = ret) (hlocks : meth.locks = false) {pc : Nat} {H : Heap} {ls : Array Slot} (hdg : decode code pc = .ok (.ireturn, 1)) : W p l e room_1 s m #[Value.ref b] below meth c H [] room_1.cells room_1.slots (lw_Z below #[Value.ref b] s) (F0 m pc ls [.int 1]) := by
  intro T hT X
  obtain ⟨fs, hret, hrun, hended, hW, hframe⟩ := X.leave (v := some (.int 1)) (hlocks := hlocks) (fun h => by rw [hr] at h; cases h)
  have hmeth' : T.vm.method? m = some meth := X.method'
  refine ⟨T.setFrames fs, ?_, .returned (some (.int 1)), hrun, hended, rfl, ⟨_, rfl⟩, hW, hframe⟩
  jvm_step X.here [X.here.top, hx, hb, hdg, hmeth', hr, ret, narrow_b1]
  (try refine ⟨rfl, ?_⟩); (try refine ⟨rfl, ?_⟩)
  first | (intro acts; rw [hret _ acts rfl rfl rfl]) | rw [hret _ _ rfl rfl rfl]
  exact Steps.refl _
/-- what holds at the law's entry: the machine, the code, the tables' words (any of lw_tbl by 'hts w (by decide +kernel)'), the script of L ints xs at the cell b, what the Statement gives of the start (any of its parts by flat_of_before) -/
def lw_At (p : Program) (s : State) (m : MethodId) (meth : Method) (c : Code) (b L : Nat) (xs : Nat → Int32) : Prop :=
  p.tables.exec = Jvm.exec ∧ c.code = code ∧ meth.sig.returnType = ret ∧ c.maxLocals = 4 ∧ s.vm.findClass R_law = some m.cls ∧ (∀ w ∈ lw_tbl, w.before #[Value.ref b] s = true) ∧ va_X b L xs s s.heap ∧ b < s.heap.size ∧ meth.locks = false ∧ (Jvm.Cond.and given_1 narrow_1).before #[Value.ref b] s = true
theorem mo_lend {p : Program} {l : Launch} {e : Env} {s : State} {m : MethodId} {below : List Frame} {meth : Method} {c : Code} {H : Heap} {locs : List Loc} {pc : Nat} {ls : Array Slot} {own : String} {Ts : List Cond} {D : va_G} {dA : Nat → ClassId} {h0 h2 h : mo_H} {b : Nat} {x : Int32} (C : mo_C p room_1 s m #[Value.ref b] c code own Ts D dA s.heap.size h0 h2) (A : mo_A D dA s.heap.size s.heap h0 h H locs) (hr : meth.sig.returnType = ret) (hlocks : meth.locks = false) (hdg : decode code pc = .ok (.ireturn, 1)) (hF : (mo_rz x).1 h = some (1, h2)) : W p l e room_1 s m #[Value.ref b] below meth c H locs (h.2.1 - h0.2.1) (h.2.2 - h0.2.2) (lw_Z below #[Value.ref b] s) (F0 m pc ls [.int x]) := by
  obtain ⟨hv, rfl, rfl⟩ := mo_rzE hF
  obtain ⟨hx, hb, -, -, -, hrm, -⟩ := C
  refine va_forget (fun q hq => A.2.1.2.2 q hq) ?_
  refine W.widen (k := room_1.cells) (n := room_1.slots) hrm.1 hrm.2 ?_
  exact lw_ret hx hb hr hlocks hdg
set_option maxHeartbeats 8000000 in
set_option maxRecDepth 100000 in
/-- the law's walk, out of its program -/
theorem mo_law {p : Program} {l : Launch} {e : Env} {s : State} {m : MethodId} {below : List Frame} {meth : Method} {c : Code} {D : va_G} {dA : Nat → ClassId} {h0 h2 : mo_H} {b L : Nat} {xs : Nat → Int32} {ls : Array Slot} (C : mo_C p room_1 s m #[Value.ref b] c cL_law RL wsL_law D dA s.heap.size h0 h2) (hml : c.maxLocals = 4) (hr : meth.sig.returnType = ret) (hlocks : meth.locks = false) (hX : va_X b L xs s s.heap) (hbl : b < s.heap.size) (hF : (F_L_law L xs).1 h0 = some (1, h2)) (A : mo_A D dA s.heap.size s.heap h0 h0 s.heap []) (hl : lv_has ls 4 [(0, .ref b)]) : W p l e room_1 s m #[Value.ref b] below meth c s.heap [] (h0.2.1 - h0.2.1) (h0.2.2 - h0.2.2) (lw_Z below #[Value.ref b] s) (F0 m 0 ls []) := by
  have hx := C.1
  have hb := C.2.1
  have hown := C.2.2.1
  have hts := C.2.2.2.1
  have hK := C.2.2.2.2.1
  have hbA : ¬ s.heap.size ≤ b := Nat.not_le.mpr hbl
  have hfr : 9 ≤ room_1.frames := by decide
  have hlo : 201 ≤ room_1.locals := by decide
  have iX10 := inlX10
  have iX11 := inlX11
  have J771 : ∀ (k28 : Nat → Nat → Int32 → mo_M Int32) (hk28 : ∀ (x1 : Nat) (x2 : Nat) (x3 : Int32) (h : mo_H) (H : Heap) (locs : List Loc) (ls : Array Slot), mo_A D dA s.heap.size s.heap h0 h H locs → lv_has ls 4 [(0, .ref b), (1, .ref x1), (2, .ref x2), (3, .int x3)] → (k28 x1 x2 x3).1 h = some (1, h2) → W p l e room_1 s m #[Value.ref b] below meth c H locs (h.2.1 - h0.2.1) (h.2.2 - h0.2.2) (lw_Z below #[Value.ref b] s) (F0 m 28 ls [])) (x1 : Nat) (x2 : Nat) (x3 : Int32) (h : mo_H) (H : Heap) (locs : List Loc) (ls : Array Slot), mo_A D dA s.heap.size s.heap h0 h H locs → lv_has ls 4 [(0, .ref b), (1, .ref x1), (2, .ref x2), (3, .int x3)] → (F_L_law_771 L xs k28 x1 x2 x3).1 h = some (1, h2) → W p l e room_1 s m #[Value.ref b] below meth c H locs (h.2.1 - h0.2.1) (h.2.2 - h0.2.2) (lw_Z below #[Value.ref b] s) (F0 m 771 ls []) := by
    intro k28 hk28 x1 x2 x3 h H locs ls A hl hF
    unfold F_L_law_771 at hF
    refine lv_iinc (v := (x3 + (5 : Int32))) (lv' := [(3, .int (x3 + (5 : Int32))), (0, .ref b), (1, .ref x1), (2, .ref x2)]) hx hb dL_law_771 hl (k := 3) rfl rfl (by decide) rfl (fun ls hl => ?_)
    refine lv_goto (tgt := 28) hx hb dL_law_774 (by decide) ?_
    exact hk28 x1 x2 (x3 + (5 : Int32)) h H locs ls A (lv_sub hl [1, 2, 3, 0] rfl) hF
  have J183 : ∀ (k28 : Nat → Nat → Int32 → mo_M Int32) (hk28 : ∀ (x1 : Nat) (x2 : Nat) (x3 : Int32) (h : mo_H) (H : Heap) (locs : List Loc) (ls : Array Slot), mo_A D dA s.heap.size s.heap h0 h H locs → lv_has ls 4 [(0, .ref b), (1, .ref x1), (2, .ref x2), (3, .int x3)] → (k28 x1 x2 x3).1 h = some (1, h2) → W p l e room_1 s m #[Value.ref b] below meth c H locs (h.2.1 - h0.2.1) (h.2.2 - h0.2.2) (lw_Z below #[Value.ref b] s) (F0 m 28 ls [])) (x1 : Nat) (x2 : Nat) (x3 : Int32) (s0 : Int32) (s1 : Nat) (s2 : Int32) (s3 : Int32) (s4 : Int32) (h : mo_H) (H : Heap) (locs : List Loc) (ls : Array Slot), mo_A D dA s.heap.size s.heap h0 h H locs → lv_has ls 4 [(0, .ref b), (1, .ref x1), (2, .ref x2), (3, .int x3)] → (F_L_law_183 L xs k28 x1 x2 x3 s0 s1 s2 s3 s4).1 h = some (1, h2) → W p l e room_1 s m #[Value.ref b] below meth c H locs (h.2.1 - h0.2.1) (h.2.2 - h0.2.2) (lw_Z below #[Value.ref b] s) (F0 m 183 ls [.int s4, .int s3, .int s2, .ref s1, .int s0]) := by
    intro k28 hk28 x1 x2 x3 s0 s1 s2 s3 s4 h H locs ls A hl hF
    unfold F_L_law_183 at hF
    refine mo_cV (n := 3) (As := [.int s2, .int s3, .int s4]) (rest := [.int s0]) C A hml hl.1 (c_X11_flow l D dA s.heap.size s1 s2 s3 s4) (ci := 11) (q := (RX11, TX11, 56)) rfl (fun _ e => (mo_ckE e).1) (tb_v tb_192 tb_193 tb_194 tb_5 tb_195) rfl (by decide +kernel) ⟨Nat.le_trans (by decide) hfr, Nat.le_trans (Nat.le_of_ble_eq_true rfl) hlo⟩ rfl (Nat.le_of_ble_eq_true rfl) rfl dL_law_183 hF (fun v1 h H locs hF A => ?_)
    show W _ _ _ _ _ _ _ _ _ _ _ _ _ _ _ (F0 m 186 ls [.int v1, .int s0])
    refine lv_icmp_eq (tgt := 771) hx hb dL_law_186 (by decide) (fun c2 => ?_) (fun c2 => ?_)
    · have hF := mo_ifT c2 hF
      exact J771 k28 hk28 x1 x2 x3 h H locs ls A (lv_sub hl [0, 1, 2, 3] rfl) hF
    · have hF := mo_ifF c2 hF
      refine lv_iconst (v := (0 : Int32)) hx hb dL_law_189 (by decide) ?_
      exact mo_lend C A hr hlocks dL_law_190 hF
  have J156 : ∀ (k28 : Nat → Nat → Int32 → mo_M Int32) (hk28 : ∀ (x1 : Nat) (x2 : Nat) (x3 : Int32) (h : mo_H) (H : Heap) (locs : List Loc) (ls : Array Slot), mo_A D dA s.heap.size s.heap h0 h H locs → lv_has ls 4 [(0, .ref b), (1, .ref x1), (2, .ref x2), (3, .int x3)] → (k28 x1 x2 x3).1 h = some (1, h2) → W p l e room_1 s m #[Value.ref b] below meth c H locs (h.2.1 - h0.2.1) (h.2.2 - h0.2.2) (lw_Z below #[Value.ref b] s) (F0 m 28 ls [])) (x1 : Nat) (x2 : Nat) (x3 : Int32) (s0 : Nat) (s1 : Int32) (s2 : Int32) (s3 : Int32) (h : mo_H) (H : Heap) (locs : List Loc) (ls : Array Slot), mo_A D dA s.heap.size s.heap h0 h H locs → lv_has ls 4 [(0, .ref b), (1, .ref x1), (2, .ref x2), (3, .int x3)] → (F_L_law_156 L xs k28 x1 x2 x3 s0 s1 s2 s3).1 h = some (1, h2) → W p l e room_1 s m #[Value.ref b] below meth c H locs (h.2.1 - h0.2.1) (h.2.2 - h0.2.2) (lw_Z below #[Value.ref b] s) (F0 m 156 ls [.int s3, .int s2, .int s1, .ref s0]) := by
    intro k28 hk28 x1 x2 x3 s0 s1 s2 s3 h H locs ls A hl hF
    unfold F_L_law_156 at hF
    refine mo_cV (n := 3) (As := [.int s1, .int s2, .int s3]) (rest := []) C A hml hl.1 (c_X10_flow l D dA s.heap.size s0 s1 s2 s3) (ci := 10) (q := (RX10, TX10, 5)) rfl (fun _ e => (mo_ckE e).1) (tb_v tb_175 tb_176 tb_177 tb_2 tb_178) rfl (by decide +kernel) ⟨Nat.le_trans (by decide) hfr, Nat.le_trans (Nat.le_of_ble_eq_true rfl) hlo⟩ rfl (Nat.le_of_ble_eq_true rfl) rfl dL_law_156 hF (fun v3 h H locs hF A => ?_)
    show W _ _ _ _ _ _ _ _ _ _ _ _ _ _ _ (F0 m 159 ls [.int v3])
    refine lv_aload_n hx hb dL_law_159 rfl (lv_at hl 2 rfl) ?_
    refine lv_aload_n hx hb dL_law_160 rfl (lv_at hl 0 rfl) ?_
    refine lv_iload_n hx hb dL_law_161 rfl (lv_at hl 3 rfl) ?_
    refine lv_iconst (v := (1 : Int32)) hx hb dL_law_162 (by decide) ?_
    refine lv_iadd hx hb dL_law_163 ?_
    refine mo_wsl C A hX hbl hbA dL_law_164 hF (fun v4 hF => ?_)
    refine lv_aload_n hx hb dL_law_165 rfl (lv_at hl 0 rfl) ?_
    refine lv_iload_n hx hb dL_law_166 rfl (lv_at hl 3 rfl) ?_
    refine lv_iconst (v := (2 : Int32)) hx hb dL_law_167 (by decide) ?_
    refine lv_iadd hx hb dL_law_168 ?_
    refine mo_wsl C A hX hbl hbA dL_law_169 hF (fun v6 hF => ?_)
    refine lv_aload_n hx hb dL_law_170 rfl (lv_at hl 0 rfl) ?_
    refine lv_iload_n hx hb dL_law_171 rfl (lv_at hl 3 rfl) ?_
    refine lv_iconst (v := (3 : Int32)) hx hb dL_law_172 (by decide) ?_
    refine lv_iadd hx hb dL_law_173 ?_
    refine mo_wsl C A hX hbl hbA dL_law_174 hF (fun v8 hF => ?_)
    refine lv_if_eq (tgt := 182) hx hb dL_law_175 (by decide) (fun c10 => ?_) (fun c10 => ?_)
    · have hF := mo_ifT c10 hF
      refine lv_iconst (v := (0 : Int32)) hx hb dL_law_182 (by decide) ?_
      exact J183 k28 hk28 x1 x2 x3 v3 x2 v4 v6 (0 : Int32) h H locs ls A (lv_sub hl [0, 1, 2, 3] rfl) hF
    · have hF := mo_ifF c10 hF
      refine lv_iconst (v := (1 : Int32)) hx hb dL_law_178 (by decide) ?_
      refine lv_goto (tgt := 183) hx hb dL_law_179 (by decide) ?_
      exact J183 k28 hk28 x1 x2 x3 v3 x2 v4 v6 (1 : Int32) h H locs ls A (lv_sub hl [0, 1, 2, 3] rfl) hF
  have J247 : ∀ (k28 : Nat → Nat → Int32 → mo_M Int32) (hk28 : ∀ (x1 : Nat) (x2 : Nat) (x3 : Int32) (h : mo_H) (H : Heap) (locs : List Loc) (ls : Array Slot), mo_A D dA s.heap.size s.heap h0 h H locs → lv_has ls 4 [(0, .ref b), (1, .ref x1), (2, .ref x2), (3, .int x3)] → (k28 x1 x2 x3).1 h = some (1, h2) → W p l e room_1 s m #[Value.ref b] below meth c H locs (h.2.1 - h0.2.1) (h.2.2 - h0.2.2) (lw_Z below #[Value.ref b] s) (F0 m 28 ls [])) (x1 : Nat) (x2 : Nat) (x3 : Int32) (s0 : Int32) (s1 : Nat) (s2 : Int32) (s3 : Int32) (s4 : Int32) (h : mo_H) (H : Heap) (locs : List Loc) (ls : Array Slot), mo_A D dA s.heap.size s.heap h0 h H locs → lv_has ls 4 [(0, .ref b), (1, .ref x1), (2, .ref x2), (3, .int x3)] → (F_L_law_247 L xs k28 x1 x2 x3 s0 s1 s2 s3 s4).1 h = some (1, h2) → W p l e room_1 s m #[Value.ref b] below meth c H locs (h.2.1 - h0.2.1) (h.2.2 - h0.2.2) (lw_Z below #[Value.ref b] s) (F0 m 247 ls [.int s4, .int s3, .int s2, .ref s1, .int s0]) := by
    intro k28 hk28 x1 x2 x3 s0 s1 s2 s3 s4 h H locs ls A hl hF
    unfold F_L_law_247 at hF
    refine lv_aload_n hx hb dL_law_247 rfl (lv_at hl 0 rfl) ?_
    refine lv_iload_n hx hb dL_law_248 rfl (lv_at hl 3 rfl) ?_
    refine lv_iconst (v := (4 : Int32)) hx hb dL_law_249 (by decide) ?_
    refine lv_iadd hx hb dL_law_250 ?_
    refine mo_wsl C A hX hbl hbA dL_law_251 hF (fun v11 hF => ?_)
    refine mo_cV (n := 4) (As := [.int s2, .int s3, .int s4, .int v11]) (rest := [.int s0]) C A hml hl.1 (c_X11_channel l D dA s.heap.size s1 s2 s3 s4 v11) (ci := 11) (q := (RX11, TX11, 56)) rfl (fun _ e => (mo_ckE e).1) (tb_v tb_223 tb_224 tb_225 tb_5 tb_226) rfl (by decide +kernel) ⟨Nat.le_trans (by decide) hfr, Nat.le_trans (Nat.le_of_ble_eq_true rfl) hlo⟩ rfl (Nat.le_of_ble_eq_true rfl) rfl dL_law_252 hF (fun v13 h H locs hF A => ?_)
    show W _ _ _ _ _ _ _ _ _ _ _ _ _ _ _ (F0 m 255 ls [.int v13, .int s0])
    refine lv_icmp_eq (tgt := 771) hx hb dL_law_255 (by decide) (fun c14 => ?_) (fun c14 => ?_)
    · have hF := mo_ifT c14 hF
      exact J771 k28 hk28 x1 x2 x3 h H locs ls A (lv_sub hl [0, 1, 2, 3] rfl) hF
    · have hF := mo_ifF c14 hF
      refine lv_iconst (v := (0 : Int32)) hx hb dL_law_258 (by decide) ?_
      exact mo_lend C A hr hlocks dL_law_259 hF
  have J215 : ∀ (k28 : Nat → Nat → Int32 → mo_M Int32) (hk28 : ∀ (x1 : Nat) (x2 : Nat) (x3 : Int32) (h : mo_H) (H : Heap) (locs : List Loc) (ls : Array Slot), mo_A D dA s.heap.size s.heap h0 h H locs → lv_has ls 4 [(0, .ref b), (1, .ref x1), (2, .ref x2), (3, .int x3)] → (k28 x1 x2 x3).1 h = some (1, h2) → W p l e room_1 s m #[Value.ref b] below meth c H locs (h.2.1 - h0.2.1) (h.2.2 - h0.2.2) (lw_Z below #[Value.ref b] s) (F0 m 28 ls [])) (x1 : Nat) (x2 : Nat) (x3 : Int32) (s0 : Nat) (s1 : Int32) (s2 : Int32) (s3 : Int32) (h : mo_H) (H : Heap) (locs : List Loc) (ls : Array Slot), mo_A D dA s.heap.size s.heap h0 h H locs → lv_has ls 4 [(0, .ref b), (1, .ref x1), (2, .ref x2), (3, .int x3)] → (F_L_law_215 L xs k28 x1 x2 x3 s0 s1 s2 s3).1 h = some (1, h2) → W p l e room_1 s m #[Value.ref b] below meth c H locs (h.2.1 - h0.2.1) (h.2.2 - h0.2.2) (lw_Z below #[Value.ref b] s) (F0 m 215 ls [.int s3, .int s2, .int s1, .ref s0]) := by
    intro k28 hk28 x1 x2 x3 s0 s1 s2 s3 h H locs ls A hl hF
    unfold F_L_law_215 at hF
    refine lv_aload_n hx hb dL_law_215 rfl (lv_at hl 0 rfl) ?_
    refine lv_iload_n hx hb dL_law_216 rfl (lv_at hl 3 rfl) ?_
    refine lv_iconst (v := (4 : Int32)) hx hb dL_law_217 (by decide) ?_
    refine lv_iadd hx hb dL_law_218 ?_
    refine mo_wsl C A hX hbl hbA dL_law_219 hF (fun v15 hF => ?_)
    refine mo_cV (n := 4) (As := [.int s1, .int s2, .int s3, .int v15]) (rest := []) C A hml hl.1 (c_X10_channel l D dA s.heap.size s0 s1 s2 s3 v15) (ci := 10) (q := (RX10, TX10, 5)) rfl (fun _ e => (mo_ckE e).1) (tb_v tb_202 tb_203 tb_204 tb_2 tb_205) rfl (by decide +kernel) ⟨Nat.le_trans (by decide) hfr, Nat.le_trans (Nat.le_of_ble_eq_true rfl) hlo⟩ rfl (Nat.le_of_ble_eq_true rfl) rfl dL_law_220 hF (fun v17 h H locs hF A => ?_)
    show W _ _ _ _ _ _ _ _ _ _ _ _ _ _ _ (F0 m 223 ls [.int v17])
    refine lv_aload_n hx hb dL_law_223 rfl (lv_at hl 2 rfl) ?_
    refine lv_aload_n hx hb dL_law_224 rfl (lv_at hl 0 rfl) ?_
    refine lv_iload_n hx hb dL_law_225 rfl (lv_at hl 3 rfl) ?_
    refine lv_iconst (v := (1 : Int32)) hx hb dL_law_226 (by decide) ?_
    refine lv_iadd hx hb dL_law_227 ?_
    refine mo_wsl C A hX hbl hbA dL_law_228 hF (fun v18 hF => ?_)
    refine lv_aload_n hx hb dL_law_229 rfl (lv_at hl 0 rfl) ?_
    refine lv_iload_n hx hb dL_law_230 rfl (lv_at hl 3 rfl) ?_
    refine lv_iconst (v := (2 : Int32)) hx hb dL_law_231 (by decide) ?_
    refine lv_iadd hx hb dL_law_232 ?_
    refine mo_wsl C A hX hbl hbA dL_law_233 hF (fun v20 hF => ?_)
    refine lv_aload_n hx hb dL_law_234 rfl (lv_at hl 0 rfl) ?_
    refine lv_iload_n hx hb dL_law_235 rfl (lv_at hl 3 rfl) ?_
    refine lv_iconst (v := (3 : Int32)) hx hb dL_law_236 (by decide) ?_
    refine lv_iadd hx hb dL_law_237 ?_
    refine mo_wsl C A hX hbl hbA dL_law_238 hF (fun v22 hF => ?_)
    refine lv_if_eq (tgt := 246) hx hb dL_law_239 (by decide) (fun c24 => ?_) (fun c24 => ?_)
    · have hF := mo_ifT c24 hF
      refine lv_iconst (v := (0 : Int32)) hx hb dL_law_246 (by decide) ?_
      exact J247 k28 hk28 x1 x2 x3 v17 x2 v18 v20 (0 : Int32) h H locs ls A (lv_sub hl [0, 1, 2, 3] rfl) hF
    · have hF := mo_ifF c24 hF
      refine lv_iconst (v := (1 : Int32)) hx hb dL_law_242 (by decide) ?_
      refine lv_goto (tgt := 247) hx hb dL_law_243 (by decide) ?_
      exact J247 k28 hk28 x1 x2 x3 v17 x2 v18 v20 (1 : Int32) h H locs ls A (lv_sub hl [0, 1, 2, 3] rfl) hF
  have J28 : ∀   (fu : Nat) (x1 : Nat) (x2 : Nat) (x3 : Int32) (h : mo_H) (H : Heap) (locs : List Loc) (ls : Array Slot), mo_A D dA s.heap.size s.heap h0 h H locs → lv_has ls 4 [(0, .ref b), (1, .ref x1), (2, .ref x2), (3, .int x3)] → (F_L_law_28 L xs fu x1 x2 x3).1 h = some (1, h2) → W p l e room_1 s m #[Value.ref b] below meth c H locs (h.2.1 - h0.2.1) (h.2.2 - h0.2.2) (lw_Z below #[Value.ref b] s) (F0 m 28 ls []) := by
    intro  fu
    induction fu with
    | zero =>
      intro x1 x2 x3 h H locs ls A hl hF
      unfold F_L_law_28 at hF
      cases hF
    | succ fu ih =>
      intro x1 x2 x3 h H locs ls A hl hF
      unfold F_L_law_28 at hF
      refine lv_iload_n hx hb dL_law_28 rfl (lv_at hl 3 rfl) ?_
      refine lv_aload_n hx hb dL_law_29 rfl (lv_at hl 0 rfl) ?_
      refine va_slen hx hb hX hbl hbA A.2.1 dL_law_30 ?_
      refine lv_iconst (v := (5 : Int32)) hx hb dL_law_31 (by decide) ?_
      refine lv_isub hx hb dL_law_32 ?_
      refine lv_icmp_gt (tgt := 777) hx hb dL_law_33 (by decide) (fun c26 => ?_) (fun c26 => ?_)
      · have hF := mo_ifT c26 hF
        refine lv_iconst (v := (1 : Int32)) hx hb dL_law_777 (by decide) ?_
        exact mo_lend C A hr hlocks dL_law_778 hF
      · have hF := mo_ifF c26 hF
        refine lv_aload_n hx hb dL_law_36 rfl (lv_at hl 0 rfl) ?_
        refine lv_iload_n hx hb dL_law_37 rfl (lv_at hl 3 rfl) ?_
        refine mo_wsl C A hX hbl hbA dL_law_38 hF (fun v27 hF => ?_)
        refine lv_bipush (v := (31 : Int32)) hx hb dL_law_39 (by decide) ?_
        refine lv_iand hx hb dL_law_41 ?_
        by_cases c29 : (v27 &&& (31 : Int32)) = (0 : Int32)
        · have hF := mo_ifT c29 hF
          refine mo_tsI hx hb (0 : Int32) (tgt := 132) (off := 90) dL_law_42 c29 (by decide) (by decide) rfl (by decide) ?_
          refine lv_aload_n hx hb dL_law_132 rfl (lv_at hl 1 rfl) ?_
          refine lv_aload_n hx hb dL_law_133 rfl (lv_at hl 0 rfl) ?_
          refine lv_iload_n hx hb dL_law_134 rfl (lv_at hl 3 rfl) ?_
          refine lv_iconst (v := (1 : Int32)) hx hb dL_law_135 (by decide) ?_
          refine lv_iadd hx hb dL_law_136 ?_
          refine mo_wsl C A hX hbl hbA dL_law_137 hF (fun v30 hF => ?_)
          refine lv_aload_n hx hb dL_law_138 rfl (lv_at hl 0 rfl) ?_
          refine lv_iload_n hx hb dL_law_139 rfl (lv_at hl 3 rfl) ?_
          refine lv_iconst (v := (2 : Int32)) hx hb dL_law_140 (by decide) ?_
          refine lv_iadd hx hb dL_law_141 ?_
          refine mo_wsl C A hX hbl hbA dL_law_142 hF (fun v32 hF => ?_)
          refine lv_aload_n hx hb dL_law_143 rfl (lv_at hl 0 rfl) ?_
          refine lv_iload_n hx hb dL_law_144 rfl (lv_at hl 3 rfl) ?_
          refine lv_iconst (v := (3 : Int32)) hx hb dL_law_145 (by decide) ?_
          refine lv_iadd hx hb dL_law_146 ?_
          refine mo_wsl C A hX hbl hbA dL_law_147 hF (fun v34 hF => ?_)
          refine lv_if_eq (tgt := 155) hx hb dL_law_148 (by decide) (fun c36 => ?_) (fun c36 => ?_)
          · have hF := mo_ifT c36 hF
            refine lv_iconst (v := (0 : Int32)) hx hb dL_law_155 (by decide) ?_
            exact J156 (F_L_law_28 L xs  fu) ih x1 x2 x3 x1 v30 v32 (0 : Int32) h H locs ls A (lv_sub hl [0, 1, 2, 3] rfl) hF
          · have hF := mo_ifF c36 hF
            refine lv_iconst (v := (1 : Int32)) hx hb dL_law_151 (by decide) ?_
            refine lv_goto (tgt := 156) hx hb dL_law_152 (by decide) ?_
            exact J156 (F_L_law_28 L xs  fu) ih x1 x2 x3 x1 v30 v32 (1 : Int32) h H locs ls A (lv_sub hl [0, 1, 2, 3] rfl) hF
        have hF := mo_ifF c29 hF
        by_cases c37 : (v27 &&& (31 : Int32)) = (1 : Int32)
        · have hF := mo_ifT c37 hF
          refine mo_tsI hx hb (1 : Int32) (tgt := 191) (off := 149) dL_law_42 c37 (by decide) (by decide) rfl (by decide) ?_
          refine lv_aload_n hx hb dL_law_191 rfl (lv_at hl 1 rfl) ?_
          refine lv_aload_n hx hb dL_law_192 rfl (lv_at hl 0 rfl) ?_
          refine lv_iload_n hx hb dL_law_193 rfl (lv_at hl 3 rfl) ?_
          refine lv_iconst (v := (1 : Int32)) hx hb dL_law_194 (by decide) ?_
          refine lv_iadd hx hb dL_law_195 ?_
          refine mo_wsl C A hX hbl hbA dL_law_196 hF (fun v38 hF => ?_)
          refine lv_aload_n hx hb dL_law_197 rfl (lv_at hl 0 rfl) ?_
          refine lv_iload_n hx hb dL_law_198 rfl (lv_at hl 3 rfl) ?_
          refine lv_iconst (v := (2 : Int32)) hx hb dL_law_199 (by decide) ?_
          refine lv_iadd hx hb dL_law_200 ?_
          refine mo_wsl C A hX hbl hbA dL_law_201 hF (fun v40 hF => ?_)
          refine lv_aload_n hx hb dL_law_202 rfl (lv_at hl 0 rfl) ?_
          refine lv_iload_n hx hb dL_law_203 rfl (lv_at hl 3 rfl) ?_
          refine lv_iconst (v := (3 : Int32)) hx hb dL_law_204 (by decide) ?_
          refine lv_iadd hx hb dL_law_205 ?_
          refine mo_wsl C A hX hbl hbA dL_law_206 hF (fun v42 hF => ?_)
          refine lv_if_eq (tgt := 214) hx hb dL_law_207 (by decide) (fun c44 => ?_) (fun c44 => ?_)
          · have hF := mo_ifT c44 hF
            refine lv_iconst (v := (0 : Int32)) hx hb dL_law_214 (by decide) ?_
            exact J215 (F_L_law_28 L xs  fu) ih x1 x2 x3 x1 v38 v40 (0 : Int32) h H locs ls A (lv_sub hl [0, 1, 2, 3] rfl) hF
          · have hF := mo_ifF c44 hF
            refine lv_iconst (v := (1 : Int32)) hx hb dL_law_210 (by decide) ?_
            refine lv_goto (tgt := 215) hx hb dL_law_211 (by decide) ?_
            exact J215 (F_L_law_28 L xs  fu) ih x1 x2 x3 x1 v38 v40 (1 : Int32) h H locs ls A (lv_sub hl [0, 1, 2, 3] rfl) hF
        have hF := mo_ifF c37 hF
        by_cases c45 : (v27 &&& (31 : Int32)) = (2 : Int32)
        · have hF := mo_ifT c45 hF
          refine mo_tsI hx hb (2 : Int32) (tgt := 260) (off := 218) dL_law_42 c45 (by decide) (by decide) rfl (by decide) ?_
          refine lv_aload_n hx hb dL_law_260 rfl (lv_at hl 1 rfl) ?_
          refine lv_aload_n hx hb dL_law_261 rfl (lv_at hl 0 rfl) ?_
          refine lv_iload_n hx hb dL_law_262 rfl (lv_at hl 3 rfl) ?_
          refine lv_iconst (v := (1 : Int32)) hx hb dL_law_263 (by decide) ?_
          refine lv_iadd hx hb dL_law_264 ?_
          refine mo_wsl C A hX hbl hbA dL_law_265 hF (fun v46 hF => ?_)
          refine lv_aload_n hx hb dL_law_266 rfl (lv_at hl 0 rfl) ?_
          refine lv_iload_n hx hb dL_law_267 rfl (lv_at hl 3 rfl) ?_
          refine lv_iconst (v := (2 : Int32)) hx hb dL_law_268 (by decide) ?_
          refine lv_iadd hx hb dL_law_269 ?_
          refine mo_wsl C A hX hbl hbA dL_law_270 hF (fun v48 hF => ?_)
          refine mo_cV (n := 2) (As := [.int v46, .int v48]) (rest := []) C A hml hl.1 (c_X10_code l D dA s.heap.size x1 v46 v48) (ci := 10) (q := (RX10, TX10, 5)) rfl (fun _ e => (mo_ckE e).1) (tb_v tb_227 tb_228 tb_229 tb_2 tb_230) rfl (by decide +kernel) ⟨Nat.le_trans (by decide) hfr, Nat.le_trans (Nat.le_of_ble_eq_true rfl) hlo⟩ rfl (Nat.le_of_ble_eq_true rfl) rfl dL_law_271 hF (fun v50 h H locs hF A => ?_)
          show W _ _ _ _ _ _ _ _ _ _ _ _ _ _ _ (F0 m 274 ls [.int v50])
          refine lv_aload_n hx hb dL_law_274 rfl (lv_at hl 2 rfl) ?_
          refine lv_aload_n hx hb dL_law_275 rfl (lv_at hl 0 rfl) ?_
          refine lv_iload_n hx hb dL_law_276 rfl (lv_at hl 3 rfl) ?_
          refine lv_iconst (v := (1 : Int32)) hx hb dL_law_277 (by decide) ?_
          refine lv_iadd hx hb dL_law_278 ?_
          refine mo_wsl C A hX hbl hbA dL_law_279 hF (fun v51 hF => ?_)
          refine lv_aload_n hx hb dL_law_280 rfl (lv_at hl 0 rfl) ?_
          refine lv_iload_n hx hb dL_law_281 rfl (lv_at hl 3 rfl) ?_
          refine lv_iconst (v := (2 : Int32)) hx hb dL_law_282 (by decide) ?_
          refine lv_iadd hx hb dL_law_283 ?_
          refine mo_wsl C A hX hbl hbA dL_law_284 hF (fun v53 hF => ?_)
          refine mo_cV (n := 2) (As := [.int v51, .int v53]) (rest := [.int v50]) C A hml hl.1 (c_X11_code l D dA s.heap.size x2 v51 v53) (ci := 11) (q := (RX11, TX11, 56)) rfl (fun _ e => (mo_ckE e).1) (tb_v tb_251 tb_252 tb_253 tb_5 tb_254) rfl (by decide +kernel) ⟨Nat.le_trans (by decide) hfr, Nat.le_trans (Nat.le_of_ble_eq_true rfl) hlo⟩ rfl (Nat.le_of_ble_eq_true rfl) rfl dL_law_285 hF (fun v55 h H locs hF A => ?_)
          show W _ _ _ _ _ _ _ _ _ _ _ _ _ _ _ (F0 m 288 ls [.int v55, .int v50])
          refine lv_icmp_eq (tgt := 771) hx hb dL_law_288 (by decide) (fun c56 => ?_) (fun c56 => ?_)
          · have hF := mo_ifT c56 hF
            exact J771 (F_L_law_28 L xs  fu) ih x1 x2 x3 h H locs ls A (lv_sub hl [0, 1, 2, 3] rfl) hF
          · have hF := mo_ifF c56 hF
            refine lv_iconst (v := (0 : Int32)) hx hb dL_law_291 (by decide) ?_
            exact mo_lend C A hr hlocks dL_law_292 hF
        have hF := mo_ifF c45 hF
        by_cases c57 : (v27 &&& (31 : Int32)) = (3 : Int32)
        · have hF := mo_ifT c57 hF
          refine mo_tsI hx hb (3 : Int32) (tgt := 293) (off := 251) dL_law_42 c57 (by decide) (by decide) rfl (by decide) ?_
          refine lv_aload_n hx hb dL_law_293 rfl (lv_at hl 1 rfl) ?_
          refine lv_aload_n hx hb dL_law_294 rfl (lv_at hl 0 rfl) ?_
          refine lv_iload_n hx hb dL_law_295 rfl (lv_at hl 3 rfl) ?_
          refine lv_iconst (v := (1 : Int32)) hx hb dL_law_296 (by decide) ?_
          refine lv_iadd hx hb dL_law_297 ?_
          refine mo_wsl C A hX hbl hbA dL_law_298 hF (fun v58 hF => ?_)
          refine lv_aload_n hx hb dL_law_299 rfl (lv_at hl 0 rfl) ?_
          refine lv_iload_n hx hb dL_law_300 rfl (lv_at hl 3 rfl) ?_
          refine lv_iconst (v := (2 : Int32)) hx hb dL_law_301 (by decide) ?_
          refine lv_iadd hx hb dL_law_302 ?_
          refine mo_wsl C A hX hbl hbA dL_law_303 hF (fun v60 hF => ?_)
          refine mo_cV (n := 2) (As := [.int v58, .int v60]) (rest := []) C A hml hl.1 (c_X10_onFail l D dA s.heap.size x1 v58 v60) (ci := 10) (q := (RX10, TX10, 5)) rfl (fun _ e => (mo_ckE e).1) (tb_v tb_255 tb_256 tb_257 tb_2 tb_258) rfl (by decide +kernel) ⟨Nat.le_trans (by decide) hfr, Nat.le_trans (Nat.le_of_ble_eq_true rfl) hlo⟩ rfl (Nat.le_of_ble_eq_true rfl) rfl dL_law_304 hF (fun v62 h H locs hF A => ?_)
          show W _ _ _ _ _ _ _ _ _ _ _ _ _ _ _ (F0 m 307 ls [.int v62])
          refine lv_aload_n hx hb dL_law_307 rfl (lv_at hl 2 rfl) ?_
          refine lv_aload_n hx hb dL_law_308 rfl (lv_at hl 0 rfl) ?_
          refine lv_iload_n hx hb dL_law_309 rfl (lv_at hl 3 rfl) ?_
          refine lv_iconst (v := (1 : Int32)) hx hb dL_law_310 (by decide) ?_
          refine lv_iadd hx hb dL_law_311 ?_
          refine mo_wsl C A hX hbl hbA dL_law_312 hF (fun v63 hF => ?_)
          refine lv_aload_n hx hb dL_law_313 rfl (lv_at hl 0 rfl) ?_
          refine lv_iload_n hx hb dL_law_314 rfl (lv_at hl 3 rfl) ?_
          refine lv_iconst (v := (2 : Int32)) hx hb dL_law_315 (by decide) ?_
          refine lv_iadd hx hb dL_law_316 ?_
          refine mo_wsl C A hX hbl hbA dL_law_317 hF (fun v65 hF => ?_)
          refine mo_cV (n := 2) (As := [.int v63, .int v65]) (rest := [.int v62]) C A hml hl.1 (c_X11_onFail l D dA s.heap.size x2 v63 v65) (ci := 11) (q := (RX11, TX11, 56)) rfl (fun _ e => (mo_ckE e).1) (tb_v tb_259 tb_260 tb_261 tb_5 tb_262) rfl (by decide +kernel) ⟨Nat.le_trans (by decide) hfr, Nat.le_trans (Nat.le_of_ble_eq_true rfl) hlo⟩ rfl (Nat.le_of_ble_eq_true rfl) rfl dL_law_318 hF (fun v67 h H locs hF A => ?_)
          show W _ _ _ _ _ _ _ _ _ _ _ _ _ _ _ (F0 m 321 ls [.int v67, .int v62])
          refine lv_icmp_eq (tgt := 771) hx hb dL_law_321 (by decide) (fun c68 => ?_) (fun c68 => ?_)
          · have hF := mo_ifT c68 hF
            exact J771 (F_L_law_28 L xs  fu) ih x1 x2 x3 h H locs ls A (lv_sub hl [0, 1, 2, 3] rfl) hF
          · have hF := mo_ifF c68 hF
            refine lv_iconst (v := (0 : Int32)) hx hb dL_law_324 (by decide) ?_
            exact mo_lend C A hr hlocks dL_law_325 hF
        have hF := mo_ifF c57 hF
        by_cases c69 : (v27 &&& (31 : Int32)) = (4 : Int32)
        · have hF := mo_ifT c69 hF
          refine mo_tsI hx hb (4 : Int32) (tgt := 326) (off := 284) dL_law_42 c69 (by decide) (by decide) rfl (by decide) ?_
          refine lv_aload_n hx hb dL_law_326 rfl (lv_at hl 1 rfl) ?_
          refine lv_aload_n hx hb dL_law_327 rfl (lv_at hl 0 rfl) ?_
          refine lv_iload_n hx hb dL_law_328 rfl (lv_at hl 3 rfl) ?_
          refine lv_iconst (v := (1 : Int32)) hx hb dL_law_329 (by decide) ?_
          refine lv_iadd hx hb dL_law_330 ?_
          refine mo_wsl C A hX hbl hbA dL_law_331 hF (fun v70 hF => ?_)
          refine lv_aload_n hx hb dL_law_332 rfl (lv_at hl 0 rfl) ?_
          refine lv_iload_n hx hb dL_law_333 rfl (lv_at hl 3 rfl) ?_
          refine lv_iconst (v := (2 : Int32)) hx hb dL_law_334 (by decide) ?_
          refine lv_iadd hx hb dL_law_335 ?_
          refine mo_wsl C A hX hbl hbA dL_law_336 hF (fun v72 hF => ?_)
          refine lv_aload_n hx hb dL_law_337 rfl (lv_at hl 0 rfl) ?_
          refine lv_iload_n hx hb dL_law_338 rfl (lv_at hl 3 rfl) ?_
          refine lv_iconst (v := (3 : Int32)) hx hb dL_law_339 (by decide) ?_
          refine lv_iadd hx hb dL_law_340 ?_
          refine mo_wsl C A hX hbl hbA dL_law_341 hF (fun v74 hF => ?_)
          refine mo_cV (n := 3) (As := [.int v70, .int v72, .int v74]) (rest := []) C A hml hl.1 (c_X10_slot l D dA s.heap.size x1 v70 v72 v74) (ci := 10) (q := (RX10, TX10, 5)) rfl (fun _ e => (mo_ckE e).1) (tb_v tb_263 tb_264 tb_265 tb_2 tb_266) rfl (by decide +kernel) ⟨Nat.le_trans (by decide) hfr, Nat.le_trans (Nat.le_of_ble_eq_true rfl) hlo⟩ rfl (Nat.le_of_ble_eq_true rfl) rfl dL_law_342 hF (fun v76 h H locs hF A => ?_)
          show W _ _ _ _ _ _ _ _ _ _ _ _ _ _ _ (F0 m 345 ls [.int v76])
          refine lv_aload_n hx hb dL_law_345 rfl (lv_at hl 2 rfl) ?_
          refine lv_aload_n hx hb dL_law_346 rfl (lv_at hl 0 rfl) ?_
          refine lv_iload_n hx hb dL_law_347 rfl (lv_at hl 3 rfl) ?_
          refine lv_iconst (v := (1 : Int32)) hx hb dL_law_348 (by decide) ?_
          refine lv_iadd hx hb dL_law_349 ?_
          refine mo_wsl C A hX hbl hbA dL_law_350 hF (fun v77 hF => ?_)
          refine lv_aload_n hx hb dL_law_351 rfl (lv_at hl 0 rfl) ?_
          refine lv_iload_n hx hb dL_law_352 rfl (lv_at hl 3 rfl) ?_
          refine lv_iconst (v := (2 : Int32)) hx hb dL_law_353 (by decide) ?_
          refine lv_iadd hx hb dL_law_354 ?_
          refine mo_wsl C A hX hbl hbA dL_law_355 hF (fun v79 hF => ?_)
          refine lv_aload_n hx hb dL_law_356 rfl (lv_at hl 0 rfl) ?_
          refine lv_iload_n hx hb dL_law_357 rfl (lv_at hl 3 rfl) ?_
          refine lv_iconst (v := (3 : Int32)) hx hb dL_law_358 (by decide) ?_
          refine lv_iadd hx hb dL_law_359 ?_
          refine mo_wsl C A hX hbl hbA dL_law_360 hF (fun v81 hF => ?_)
          refine mo_cV (n := 3) (As := [.int v77, .int v79, .int v81]) (rest := [.int v76]) C A hml hl.1 (c_X11_slot l D dA s.heap.size x2 v77 v79 v81) (ci := 11) (q := (RX11, TX11, 56)) rfl (fun _ e => (mo_ckE e).1) (tb_v tb_270 tb_271 tb_272 tb_5 tb_273) rfl (by decide +kernel) ⟨Nat.le_trans (by decide) hfr, Nat.le_trans (Nat.le_of_ble_eq_true rfl) hlo⟩ rfl (Nat.le_of_ble_eq_true rfl) rfl dL_law_361 hF (fun v83 h H locs hF A => ?_)
          show W _ _ _ _ _ _ _ _ _ _ _ _ _ _ _ (F0 m 364 ls [.int v83, .int v76])
          refine lv_icmp_eq (tgt := 771) hx hb dL_law_364 (by decide) (fun c84 => ?_) (fun c84 => ?_)
          · have hF := mo_ifT c84 hF
            exact J771 (F_L_law_28 L xs  fu) ih x1 x2 x3 h H locs ls A (lv_sub hl [0, 1, 2, 3] rfl) hF
          · have hF := mo_ifF c84 hF
            refine lv_iconst (v := (0 : Int32)) hx hb dL_law_367 (by decide) ?_
            exact mo_lend C A hr hlocks dL_law_368 hF
        have hF := mo_ifF c69 hF
        by_cases c85 : (v27 &&& (31 : Int32)) = (5 : Int32)
        · have hF := mo_ifT c85 hF
          refine mo_tsI hx hb (5 : Int32) (tgt := 369) (off := 327) dL_law_42 c85 (by decide) (by decide) rfl (by decide) ?_
          refine lv_aload_n hx hb dL_law_369 rfl (lv_at hl 1 rfl) ?_
          refine mo_cV (n := 0) (As := []) (rest := []) C A hml hl.1 (c_X10_seal l D dA s.heap.size x1) (ci := 10) (q := (RX10, TX10, 5)) rfl (fun _ e => (mo_ckE e).1) (tb_v tb_274 tb_275 tb_276 tb_2 tb_277) rfl (by decide +kernel) ⟨Nat.le_trans (by decide) hfr, Nat.le_trans (Nat.le_of_ble_eq_true rfl) hlo⟩ rfl (Nat.le_of_ble_eq_true rfl) rfl dL_law_370 hF (fun v86 h H locs hF A => ?_)
          show W _ _ _ _ _ _ _ _ _ _ _ _ _ _ _ (F0 m 373 ls [.int v86])
          refine lv_aload_n hx hb dL_law_373 rfl (lv_at hl 2 rfl) ?_
          refine mo_cV (n := 0) (As := []) (rest := [.int v86]) C A hml hl.1 (c_X11_seal l D dA s.heap.size x2) (ci := 11) (q := (RX11, TX11, 56)) rfl (fun _ e => (mo_ckE e).1) (tb_v tb_291 tb_292 tb_293 tb_5 tb_294) rfl (by decide +kernel) ⟨Nat.le_trans (by decide) hfr, Nat.le_trans (Nat.le_of_ble_eq_true rfl) hlo⟩ rfl (Nat.le_of_ble_eq_true rfl) rfl dL_law_374 hF (fun v87 h H locs hF A => ?_)
          show W _ _ _ _ _ _ _ _ _ _ _ _ _ _ _ (F0 m 377 ls [.int v87, .int v86])
          refine lv_icmp_eq (tgt := 771) hx hb dL_law_377 (by decide) (fun c88 => ?_) (fun c88 => ?_)
          · have hF := mo_ifT c88 hF
            exact J771 (F_L_law_28 L xs  fu) ih x1 x2 x3 h H locs ls A (lv_sub hl [0, 1, 2, 3] rfl) hF
          · have hF := mo_ifF c88 hF
            refine lv_iconst (v := (0 : Int32)) hx hb dL_law_380 (by decide) ?_
            exact mo_lend C A hr hlocks dL_law_381 hF
        have hF := mo_ifF c85 hF
        by_cases c89 : (v27 &&& (31 : Int32)) = (6 : Int32)
        · have hF := mo_ifT c89 hF
          refine mo_tsI hx hb (6 : Int32) (tgt := 382) (off := 340) dL_law_42 c89 (by decide) (by decide) rfl (by decide) ?_
          refine lv_aload_n hx hb dL_law_382 rfl (lv_at hl 1 rfl) ?_
          refine lv_aload_n hx hb dL_law_383 rfl (lv_at hl 0 rfl) ?_
          refine lv_iload_n hx hb dL_law_384 rfl (lv_at hl 3 rfl) ?_
          refine lv_iconst (v := (1 : Int32)) hx hb dL_law_385 (by decide) ?_
          refine lv_iadd hx hb dL_law_386 ?_
          refine mo_wsl C A hX hbl hbA dL_law_387 hF (fun v90 hF => ?_)
          refine lv_aload_n hx hb dL_law_388 rfl (lv_at hl 0 rfl) ?_
          refine lv_iload_n hx hb dL_law_389 rfl (lv_at hl 3 rfl) ?_
          refine lv_iconst (v := (2 : Int32)) hx hb dL_law_390 (by decide) ?_
          refine lv_iadd hx hb dL_law_391 ?_
          refine mo_wsl C A hX hbl hbA dL_law_392 hF (fun v92 hF => ?_)
          refine mo_cV (n := 2) (As := [.int v90, .int v92]) (rest := []) C A hml hl.1 (c_X10_input l D dA s.heap.size x1 v90 v92) (ci := 10) (q := (RX10, TX10, 5)) rfl (fun _ e => (mo_ckE e).1) (tb_v tb_299 tb_300 tb_301 tb_2 tb_302) rfl (by decide +kernel) ⟨Nat.le_trans (by decide) hfr, Nat.le_trans (Nat.le_of_ble_eq_true rfl) hlo⟩ rfl (Nat.le_of_ble_eq_true rfl) rfl dL_law_393 hF (fun v94 h H locs hF A => ?_)
          show W _ _ _ _ _ _ _ _ _ _ _ _ _ _ _ (F0 m 396 ls [.int v94])
          refine lv_aload_n hx hb dL_law_396 rfl (lv_at hl 2 rfl) ?_
          refine lv_aload_n hx hb dL_law_397 rfl (lv_at hl 0 rfl) ?_
          refine lv_iload_n hx hb dL_law_398 rfl (lv_at hl 3 rfl) ?_
          refine lv_iconst (v := (1 : Int32)) hx hb dL_law_399 (by decide) ?_
          refine lv_iadd hx hb dL_law_400 ?_
          refine mo_wsl C A hX hbl hbA dL_law_401 hF (fun v95 hF => ?_)
          refine lv_aload_n hx hb dL_law_402 rfl (lv_at hl 0 rfl) ?_
          refine lv_iload_n hx hb dL_law_403 rfl (lv_at hl 3 rfl) ?_
          refine lv_iconst (v := (2 : Int32)) hx hb dL_law_404 (by decide) ?_
          refine lv_iadd hx hb dL_law_405 ?_
          refine mo_wsl C A hX hbl hbA dL_law_406 hF (fun v97 hF => ?_)
          refine mo_cV (n := 2) (As := [.int v95, .int v97]) (rest := [.int v94]) C A hml hl.1 (c_X11_input l D dA s.heap.size x2 v95 v97) (ci := 11) (q := (RX11, TX11, 56)) rfl (fun _ e => (mo_ckE e).1) (tb_v tb_312 tb_313 tb_314 tb_5 tb_315) rfl (by decide +kernel) ⟨Nat.le_trans (by decide) hfr, Nat.le_trans (Nat.le_of_ble_eq_true rfl) hlo⟩ rfl (Nat.le_of_ble_eq_true rfl) rfl dL_law_407 hF (fun v99 h H locs hF A => ?_)
          show W _ _ _ _ _ _ _ _ _ _ _ _ _ _ _ (F0 m 410 ls [.int v99, .int v94])
          refine lv_icmp_eq (tgt := 771) hx hb dL_law_410 (by decide) (fun c100 => ?_) (fun c100 => ?_)
          · have hF := mo_ifT c100 hF
            exact J771 (F_L_law_28 L xs  fu) ih x1 x2 x3 h H locs ls A (lv_sub hl [0, 1, 2, 3] rfl) hF
          · have hF := mo_ifF c100 hF
            refine lv_iconst (v := (0 : Int32)) hx hb dL_law_413 (by decide) ?_
            exact mo_lend C A hr hlocks dL_law_414 hF
        have hF := mo_ifF c89 hF
        by_cases c101 : (v27 &&& (31 : Int32)) = (7 : Int32)
        · have hF := mo_ifT c101 hF
          refine mo_tsI hx hb (7 : Int32) (tgt := 415) (off := 373) dL_law_42 c101 (by decide) (by decide) rfl (by decide) ?_
          refine lv_aload_n hx hb dL_law_415 rfl (lv_at hl 1 rfl) ?_
          refine lv_aload_n hx hb dL_law_416 rfl (lv_at hl 0 rfl) ?_
          refine lv_iload_n hx hb dL_law_417 rfl (lv_at hl 3 rfl) ?_
          refine lv_iconst (v := (1 : Int32)) hx hb dL_law_418 (by decide) ?_
          refine lv_iadd hx hb dL_law_419 ?_
          refine mo_wsl C A hX hbl hbA dL_law_420 hF (fun v102 hF => ?_)
          refine mo_cV (n := 1) (As := [.int v102]) (rest := []) C A hml hl.1 (c_X10_tick l D dA s.heap.size x1 v102) (ci := 10) (q := (RX10, TX10, 5)) rfl (fun _ e => (mo_ckE e).1) (tb_v tb_325 tb_326 tb_327 tb_2 tb_328) rfl (by decide +kernel) ⟨Nat.le_trans (by decide) hfr, Nat.le_trans (Nat.le_of_ble_eq_true rfl) hlo⟩ rfl (Nat.le_of_ble_eq_true rfl) rfl dL_law_421 hF (fun v104 h H locs hF A => ?_)
          show W _ _ _ _ _ _ _ _ _ _ _ _ _ _ _ (F0 m 424 ls [.int v104])
          refine lv_aload_n hx hb dL_law_424 rfl (lv_at hl 2 rfl) ?_
          refine lv_aload_n hx hb dL_law_425 rfl (lv_at hl 0 rfl) ?_
          refine lv_iload_n hx hb dL_law_426 rfl (lv_at hl 3 rfl) ?_
          refine lv_iconst (v := (1 : Int32)) hx hb dL_law_427 (by decide) ?_
          refine lv_iadd hx hb dL_law_428 ?_
          refine mo_wsl C A hX hbl hbA dL_law_429 hF (fun v105 hF => ?_)
          refine mo_cV (n := 1) (As := [.int v105]) (rest := [.int v104]) C A hml hl.1 (c_X11_tick l D dA s.heap.size x2 v105) (ci := 11) (q := (RX11, TX11, 56)) rfl (fun _ e => (mo_ckE e).1) (tb_v tb_527 tb_528 tb_529 tb_5 tb_530) rfl (by decide +kernel) ⟨Nat.le_trans (by decide) hfr, Nat.le_trans (Nat.le_of_ble_eq_true rfl) hlo⟩ rfl (Nat.le_of_ble_eq_true rfl) rfl dL_law_430 hF (fun v107 h H locs hF A => ?_)
          show W _ _ _ _ _ _ _ _ _ _ _ _ _ _ _ (F0 m 433 ls [.int v107, .int v104])
          refine lv_icmp_eq (tgt := 771) hx hb dL_law_433 (by decide) (fun c108 => ?_) (fun c108 => ?_)
          · have hF := mo_ifT c108 hF
            exact J771 (F_L_law_28 L xs  fu) ih x1 x2 x3 h H locs ls A (lv_sub hl [0, 1, 2, 3] rfl) hF
          · have hF := mo_ifF c108 hF
            refine lv_iconst (v := (0 : Int32)) hx hb dL_law_436 (by decide) ?_
            exact mo_lend C A hr hlocks dL_law_437 hF
        have hF := mo_ifF c101 hF
        by_cases c109 : (v27 &&& (31 : Int32)) = (8 : Int32)
        · have hF := mo_ifT c109 hF
          refine mo_tsI hx hb (8 : Int32) (tgt := 438) (off := 396) dL_law_42 c109 (by decide) (by decide) rfl (by decide) ?_
          refine lv_aload_n hx hb dL_law_438 rfl (lv_at hl 1 rfl) ?_
          refine lv_aload_n hx hb dL_law_439 rfl (lv_at hl 0 rfl) ?_
          refine lv_iload_n hx hb dL_law_440 rfl (lv_at hl 3 rfl) ?_
          refine lv_iconst (v := (1 : Int32)) hx hb dL_law_441 (by decide) ?_
          refine lv_iadd hx hb dL_law_442 ?_
          refine mo_wsl C A hX hbl hbA dL_law_443 hF (fun v110 hF => ?_)
          refine lv_aload_n hx hb dL_law_444 rfl (lv_at hl 0 rfl) ?_
          refine lv_iload_n hx hb dL_law_445 rfl (lv_at hl 3 rfl) ?_
          refine lv_iconst (v := (2 : Int32)) hx hb dL_law_446 (by decide) ?_
          refine lv_iadd hx hb dL_law_447 ?_
          refine mo_wsl C A hX hbl hbA dL_law_448 hF (fun v112 hF => ?_)
          refine mo_cV (n := 2) (As := [.int v110, .int v112]) (rest := []) C A hml hl.1 (c_X10_register l D dA s.heap.size x1 v110 v112) (ci := 10) (q := (RX10, TX10, 5)) rfl (fun _ e => (mo_ckE e).1) (tb_v tb_588 tb_589 tb_590 tb_2 tb_591) rfl (by decide +kernel) ⟨Nat.le_trans (by decide) hfr, Nat.le_trans (Nat.le_of_ble_eq_true rfl) hlo⟩ rfl (Nat.le_of_ble_eq_true rfl) rfl dL_law_449 hF (fun v114 h H locs hF A => ?_)
          show W _ _ _ _ _ _ _ _ _ _ _ _ _ _ _ (F0 m 452 ls [.int v114])
          refine lv_aload_n hx hb dL_law_452 rfl (lv_at hl 2 rfl) ?_
          refine lv_aload_n hx hb dL_law_453 rfl (lv_at hl 0 rfl) ?_
          refine lv_iload_n hx hb dL_law_454 rfl (lv_at hl 3 rfl) ?_
          refine lv_iconst (v := (1 : Int32)) hx hb dL_law_455 (by decide) ?_
          refine lv_iadd hx hb dL_law_456 ?_
          refine mo_wsl C A hX hbl hbA dL_law_457 hF (fun v115 hF => ?_)
          refine lv_aload_n hx hb dL_law_458 rfl (lv_at hl 0 rfl) ?_
          refine lv_iload_n hx hb dL_law_459 rfl (lv_at hl 3 rfl) ?_
          refine lv_iconst (v := (2 : Int32)) hx hb dL_law_460 (by decide) ?_
          refine lv_iadd hx hb dL_law_461 ?_
          refine mo_wsl C A hX hbl hbA dL_law_462 hF (fun v117 hF => ?_)
          refine mo_cV (n := 2) (As := [.int v115, .int v117]) (rest := [.int v114]) C A hml hl.1 (c_X11_register l D dA s.heap.size x2 v115 v117) (ci := 11) (q := (RX11, TX11, 56)) rfl (fun _ e => (mo_ckE e).1) (tb_v tb_596 tb_597 tb_598 tb_5 tb_599) rfl (by decide +kernel) ⟨Nat.le_trans (by decide) hfr, Nat.le_trans (Nat.le_of_ble_eq_true rfl) hlo⟩ rfl (Nat.le_of_ble_eq_true rfl) rfl dL_law_463 hF (fun v119 h H locs hF A => ?_)
          show W _ _ _ _ _ _ _ _ _ _ _ _ _ _ _ (F0 m 466 ls [.int v119, .int v114])
          refine lv_icmp_eq (tgt := 771) hx hb dL_law_466 (by decide) (fun c120 => ?_) (fun c120 => ?_)
          · have hF := mo_ifT c120 hF
            exact J771 (F_L_law_28 L xs  fu) ih x1 x2 x3 h H locs ls A (lv_sub hl [0, 1, 2, 3] rfl) hF
          · have hF := mo_ifF c120 hF
            refine lv_iconst (v := (0 : Int32)) hx hb dL_law_469 (by decide) ?_
            exact mo_lend C A hr hlocks dL_law_470 hF
        have hF := mo_ifF c109 hF
        by_cases c121 : (v27 &&& (31 : Int32)) = (9 : Int32)
        · have hF := mo_ifT c121 hF
          refine mo_tsI hx hb (9 : Int32) (tgt := 471) (off := 429) dL_law_42 c121 (by decide) (by decide) rfl (by decide) ?_
          refine lv_aload_n hx hb dL_law_471 rfl (lv_at hl 1 rfl) ?_
          refine lv_aload_n hx hb dL_law_472 rfl (lv_at hl 0 rfl) ?_
          refine lv_iload_n hx hb dL_law_473 rfl (lv_at hl 3 rfl) ?_
          refine lv_iconst (v := (1 : Int32)) hx hb dL_law_474 (by decide) ?_
          refine lv_iadd hx hb dL_law_475 ?_
          refine mo_wsl C A hX hbl hbA dL_law_476 hF (fun v122 hF => ?_)
          refine lv_aload_n hx hb dL_law_477 rfl (lv_at hl 0 rfl) ?_
          refine lv_iload_n hx hb dL_law_478 rfl (lv_at hl 3 rfl) ?_
          refine lv_iconst (v := (2 : Int32)) hx hb dL_law_479 (by decide) ?_
          refine lv_iadd hx hb dL_law_480 ?_
          refine mo_wsl C A hX hbl hbA dL_law_481 hF (fun v124 hF => ?_)
          refine mo_cV (n := 2) (As := [.int v122, .int v124]) (rest := []) C A hml hl.1 (c_X10_cell l D dA s.heap.size x1 v122 v124) (ci := 10) (q := (RX10, TX10, 5)) rfl (fun _ e => (mo_ckE e).1) (tb_v tb_600 tb_601 tb_602 tb_2 tb_603) rfl (by decide +kernel) ⟨Nat.le_trans (by decide) hfr, Nat.le_trans (Nat.le_of_ble_eq_true rfl) hlo⟩ rfl (Nat.le_of_ble_eq_true rfl) rfl dL_law_482 hF (fun v126 h H locs hF A => ?_)
          show W _ _ _ _ _ _ _ _ _ _ _ _ _ _ _ (F0 m 485 ls [.int v126])
          refine lv_aload_n hx hb dL_law_485 rfl (lv_at hl 2 rfl) ?_
          refine lv_aload_n hx hb dL_law_486 rfl (lv_at hl 0 rfl) ?_
          refine lv_iload_n hx hb dL_law_487 rfl (lv_at hl 3 rfl) ?_
          refine lv_iconst (v := (1 : Int32)) hx hb dL_law_488 (by decide) ?_
          refine lv_iadd hx hb dL_law_489 ?_
          refine mo_wsl C A hX hbl hbA dL_law_490 hF (fun v127 hF => ?_)
          refine lv_aload_n hx hb dL_law_491 rfl (lv_at hl 0 rfl) ?_
          refine lv_iload_n hx hb dL_law_492 rfl (lv_at hl 3 rfl) ?_
          refine lv_iconst (v := (2 : Int32)) hx hb dL_law_493 (by decide) ?_
          refine lv_iadd hx hb dL_law_494 ?_
          refine mo_wsl C A hX hbl hbA dL_law_495 hF (fun v129 hF => ?_)
          refine mo_cV (n := 2) (As := [.int v127, .int v129]) (rest := [.int v126]) C A hml hl.1 (c_X11_cell l D dA s.heap.size x2 v127 v129) (ci := 11) (q := (RX11, TX11, 56)) rfl (fun _ e => (mo_ckE e).1) (tb_v tb_608 tb_609 tb_610 tb_5 tb_611) rfl (by decide +kernel) ⟨Nat.le_trans (by decide) hfr, Nat.le_trans (Nat.le_of_ble_eq_true rfl) hlo⟩ rfl (Nat.le_of_ble_eq_true rfl) rfl dL_law_496 hF (fun v131 h H locs hF A => ?_)
          show W _ _ _ _ _ _ _ _ _ _ _ _ _ _ _ (F0 m 499 ls [.int v131, .int v126])
          refine lv_icmp_eq (tgt := 771) hx hb dL_law_499 (by decide) (fun c132 => ?_) (fun c132 => ?_)
          · have hF := mo_ifT c132 hF
            exact J771 (F_L_law_28 L xs  fu) ih x1 x2 x3 h H locs ls A (lv_sub hl [0, 1, 2, 3] rfl) hF
          · have hF := mo_ifF c132 hF
            refine lv_iconst (v := (0 : Int32)) hx hb dL_law_502 (by decide) ?_
            exact mo_lend C A hr hlocks dL_law_503 hF
        have hF := mo_ifF c121 hF
        by_cases c133 : (v27 &&& (31 : Int32)) = (10 : Int32)
        · have hF := mo_ifT c133 hF
          refine mo_tsI hx hb (10 : Int32) (tgt := 504) (off := 462) dL_law_42 c133 (by decide) (by decide) rfl (by decide) ?_
          refine lv_aload_n hx hb dL_law_504 rfl (lv_at hl 1 rfl) ?_
          refine lv_aload_n hx hb dL_law_505 rfl (lv_at hl 0 rfl) ?_
          refine lv_iload_n hx hb dL_law_506 rfl (lv_at hl 3 rfl) ?_
          refine lv_iconst (v := (1 : Int32)) hx hb dL_law_507 (by decide) ?_
          refine lv_iadd hx hb dL_law_508 ?_
          refine mo_wsl C A hX hbl hbA dL_law_509 hF (fun v134 hF => ?_)
          refine lv_aload_n hx hb dL_law_510 rfl (lv_at hl 0 rfl) ?_
          refine lv_iload_n hx hb dL_law_511 rfl (lv_at hl 3 rfl) ?_
          refine lv_iconst (v := (2 : Int32)) hx hb dL_law_512 (by decide) ?_
          refine lv_iadd hx hb dL_law_513 ?_
          refine mo_wsl C A hX hbl hbA dL_law_514 hF (fun v136 hF => ?_)
          refine mo_cV (n := 2) (As := [.int v134, .int v136]) (rest := []) C A hml hl.1 (c_X10_of l D dA s.heap.size x1 v134 v136) (ci := 10) (q := (RX10, TX10, 5)) rfl (fun _ e => (mo_ckE e).1) (tb_v tb_612 tb_613 tb_614 tb_2 tb_615) rfl (by decide +kernel) ⟨Nat.le_trans (by decide) hfr, Nat.le_trans (Nat.le_of_ble_eq_true rfl) hlo⟩ rfl (Nat.le_of_ble_eq_true rfl) rfl dL_law_515 hF (fun v138 h H locs hF A => ?_)
          show W _ _ _ _ _ _ _ _ _ _ _ _ _ _ _ (F0 m 518 ls [.int v138])
          refine lv_aload_n hx hb dL_law_518 rfl (lv_at hl 2 rfl) ?_
          refine lv_aload_n hx hb dL_law_519 rfl (lv_at hl 0 rfl) ?_
          refine lv_iload_n hx hb dL_law_520 rfl (lv_at hl 3 rfl) ?_
          refine lv_iconst (v := (1 : Int32)) hx hb dL_law_521 (by decide) ?_
          refine lv_iadd hx hb dL_law_522 ?_
          refine mo_wsl C A hX hbl hbA dL_law_523 hF (fun v139 hF => ?_)
          refine lv_aload_n hx hb dL_law_524 rfl (lv_at hl 0 rfl) ?_
          refine lv_iload_n hx hb dL_law_525 rfl (lv_at hl 3 rfl) ?_
          refine lv_iconst (v := (2 : Int32)) hx hb dL_law_526 (by decide) ?_
          refine lv_iadd hx hb dL_law_527 ?_
          refine mo_wsl C A hX hbl hbA dL_law_528 hF (fun v141 hF => ?_)
          refine mo_cV (n := 2) (As := [.int v139, .int v141]) (rest := [.int v138]) C A hml hl.1 (c_X11_of l D dA s.heap.size x2 v139 v141) (ci := 11) (q := (RX11, TX11, 56)) rfl (fun _ e => (mo_ckE e).1) (tb_v tb_617 tb_618 tb_619 tb_5 tb_620) rfl (by decide +kernel) ⟨Nat.le_trans (by decide) hfr, Nat.le_trans (Nat.le_of_ble_eq_true rfl) hlo⟩ rfl (Nat.le_of_ble_eq_true rfl) rfl dL_law_529 hF (fun v143 h H locs hF A => ?_)
          show W _ _ _ _ _ _ _ _ _ _ _ _ _ _ _ (F0 m 532 ls [.int v143, .int v138])
          refine lv_icmp_eq (tgt := 771) hx hb dL_law_532 (by decide) (fun c144 => ?_) (fun c144 => ?_)
          · have hF := mo_ifT c144 hF
            exact J771 (F_L_law_28 L xs  fu) ih x1 x2 x3 h H locs ls A (lv_sub hl [0, 1, 2, 3] rfl) hF
          · have hF := mo_ifF c144 hF
            refine lv_iconst (v := (0 : Int32)) hx hb dL_law_535 (by decide) ?_
            exact mo_lend C A hr hlocks dL_law_536 hF
        have hF := mo_ifF c133 hF
        by_cases c145 : (v27 &&& (31 : Int32)) = (11 : Int32)
        · have hF := mo_ifT c145 hF
          refine mo_tsI hx hb (11 : Int32) (tgt := 537) (off := 495) dL_law_42 c145 (by decide) (by decide) rfl (by decide) ?_
          refine lv_aload_n hx hb dL_law_537 rfl (lv_at hl 1 rfl) ?_
          refine lv_aload_n hx hb dL_law_538 rfl (lv_at hl 0 rfl) ?_
          refine lv_iload_n hx hb dL_law_539 rfl (lv_at hl 3 rfl) ?_
          refine lv_iconst (v := (1 : Int32)) hx hb dL_law_540 (by decide) ?_
          refine lv_iadd hx hb dL_law_541 ?_
          refine mo_wsl C A hX hbl hbA dL_law_542 hF (fun v146 hF => ?_)
          refine lv_aload_n hx hb dL_law_543 rfl (lv_at hl 0 rfl) ?_
          refine lv_iload_n hx hb dL_law_544 rfl (lv_at hl 3 rfl) ?_
          refine lv_iconst (v := (2 : Int32)) hx hb dL_law_545 (by decide) ?_
          refine lv_iadd hx hb dL_law_546 ?_
          refine mo_wsl C A hX hbl hbA dL_law_547 hF (fun v148 hF => ?_)
          refine mo_cV (n := 2) (As := [.int v146, .int v148]) (rest := []) C A hml hl.1 (c_X10_output l D dA s.heap.size x1 v146 v148) (ci := 10) (q := (RX10, TX10, 5)) rfl (fun _ e => (mo_ckE e).1) (tb_v tb_621 tb_622 tb_623 tb_2 tb_624) rfl (by decide +kernel) ⟨Nat.le_trans (by decide) hfr, Nat.le_trans (Nat.le_of_ble_eq_true rfl) hlo⟩ rfl (Nat.le_of_ble_eq_true rfl) rfl dL_law_548 hF (fun v150 h H locs hF A => ?_)
          show W _ _ _ _ _ _ _ _ _ _ _ _ _ _ _ (F0 m 551 ls [.int v150])
          refine lv_aload_n hx hb dL_law_551 rfl (lv_at hl 2 rfl) ?_
          refine lv_aload_n hx hb dL_law_552 rfl (lv_at hl 0 rfl) ?_
          refine lv_iload_n hx hb dL_law_553 rfl (lv_at hl 3 rfl) ?_
          refine lv_iconst (v := (1 : Int32)) hx hb dL_law_554 (by decide) ?_
          refine lv_iadd hx hb dL_law_555 ?_
          refine mo_wsl C A hX hbl hbA dL_law_556 hF (fun v151 hF => ?_)
          refine lv_aload_n hx hb dL_law_557 rfl (lv_at hl 0 rfl) ?_
          refine lv_iload_n hx hb dL_law_558 rfl (lv_at hl 3 rfl) ?_
          refine lv_iconst (v := (2 : Int32)) hx hb dL_law_559 (by decide) ?_
          refine lv_iadd hx hb dL_law_560 ?_
          refine mo_wsl C A hX hbl hbA dL_law_561 hF (fun v153 hF => ?_)
          refine mo_cV (n := 2) (As := [.int v151, .int v153]) (rest := [.int v150]) C A hml hl.1 (c_X11_output l D dA s.heap.size x2 v151 v153) (ci := 11) (q := (RX11, TX11, 56)) rfl (fun _ e => (mo_ckE e).1) (tb_v tb_626 tb_627 tb_628 tb_5 tb_629) rfl (by decide +kernel) ⟨Nat.le_trans (by decide) hfr, Nat.le_trans (Nat.le_of_ble_eq_true rfl) hlo⟩ rfl (Nat.le_of_ble_eq_true rfl) rfl dL_law_562 hF (fun v155 h H locs hF A => ?_)
          show W _ _ _ _ _ _ _ _ _ _ _ _ _ _ _ (F0 m 565 ls [.int v155, .int v150])
          refine lv_icmp_eq (tgt := 771) hx hb dL_law_565 (by decide) (fun c156 => ?_) (fun c156 => ?_)
          · have hF := mo_ifT c156 hF
            exact J771 (F_L_law_28 L xs  fu) ih x1 x2 x3 h H locs ls A (lv_sub hl [0, 1, 2, 3] rfl) hF
          · have hF := mo_ifF c156 hF
            refine lv_iconst (v := (0 : Int32)) hx hb dL_law_568 (by decide) ?_
            exact mo_lend C A hr hlocks dL_law_569 hF
        have hF := mo_ifF c145 hF
        by_cases c157 : (v27 &&& (31 : Int32)) = (12 : Int32)
        · have hF := mo_ifT c157 hF
          refine mo_tsI hx hb (12 : Int32) (tgt := 570) (off := 528) dL_law_42 c157 (by decide) (by decide) rfl (by decide) ?_
          refine lv_aload_n hx hb dL_law_570 rfl (lv_at hl 1 rfl) ?_
          refine lv_aload_n hx hb dL_law_571 rfl (lv_at hl 0 rfl) ?_
          refine lv_iload_n hx hb dL_law_572 rfl (lv_at hl 3 rfl) ?_
          refine lv_iconst (v := (1 : Int32)) hx hb dL_law_573 (by decide) ?_
          refine lv_iadd hx hb dL_law_574 ?_
          refine mo_wsl C A hX hbl hbA dL_law_575 hF (fun v158 hF => ?_)
          refine lv_aload_n hx hb dL_law_576 rfl (lv_at hl 0 rfl) ?_
          refine lv_iload_n hx hb dL_law_577 rfl (lv_at hl 3 rfl) ?_
          refine lv_iconst (v := (2 : Int32)) hx hb dL_law_578 (by decide) ?_
          refine lv_iadd hx hb dL_law_579 ?_
          refine mo_wsl C A hX hbl hbA dL_law_580 hF (fun v160 hF => ?_)
          refine mo_cV (n := 2) (As := [.int v158, .int v160]) (rest := []) C A hml hl.1 (c_X10_at l D dA s.heap.size x1 v158 v160) (ci := 10) (q := (RX10, TX10, 5)) rfl (fun _ e => (mo_ckE e).1) (tb_v tb_630 tb_631 tb_632 tb_2 tb_633) rfl (by decide +kernel) ⟨Nat.le_trans (by decide) hfr, Nat.le_trans (Nat.le_of_ble_eq_true rfl) hlo⟩ rfl (Nat.le_of_ble_eq_true rfl) rfl dL_law_581 hF (fun v162 h H locs hF A => ?_)
          show W _ _ _ _ _ _ _ _ _ _ _ _ _ _ _ (F0 m 584 ls [.int v162])
          refine lv_aload_n hx hb dL_law_584 rfl (lv_at hl 2 rfl) ?_
          refine lv_aload_n hx hb dL_law_585 rfl (lv_at hl 0 rfl) ?_
          refine lv_iload_n hx hb dL_law_586 rfl (lv_at hl 3 rfl) ?_
          refine lv_iconst (v := (1 : Int32)) hx hb dL_law_587 (by decide) ?_
          refine lv_iadd hx hb dL_law_588 ?_
          refine mo_wsl C A hX hbl hbA dL_law_589 hF (fun v163 hF => ?_)
          refine lv_aload_n hx hb dL_law_590 rfl (lv_at hl 0 rfl) ?_
          refine lv_iload_n hx hb dL_law_591 rfl (lv_at hl 3 rfl) ?_
          refine lv_iconst (v := (2 : Int32)) hx hb dL_law_592 (by decide) ?_
          refine lv_iadd hx hb dL_law_593 ?_
          refine mo_wsl C A hX hbl hbA dL_law_594 hF (fun v165 hF => ?_)
          refine mo_cV (n := 2) (As := [.int v163, .int v165]) (rest := [.int v162]) C A hml hl.1 (c_X11_at l D dA s.heap.size x2 v163 v165) (ci := 11) (q := (RX11, TX11, 56)) rfl (fun _ e => (mo_ckE e).1) (tb_v tb_636 tb_637 tb_638 tb_5 tb_639) rfl (by decide +kernel) ⟨Nat.le_trans (by decide) hfr, Nat.le_trans (Nat.le_of_ble_eq_true rfl) hlo⟩ rfl (Nat.le_of_ble_eq_true rfl) rfl dL_law_595 hF (fun v167 h H locs hF A => ?_)
          show W _ _ _ _ _ _ _ _ _ _ _ _ _ _ _ (F0 m 598 ls [.int v167, .int v162])
          refine lv_icmp_eq (tgt := 771) hx hb dL_law_598 (by decide) (fun c168 => ?_) (fun c168 => ?_)
          · have hF := mo_ifT c168 hF
            exact J771 (F_L_law_28 L xs  fu) ih x1 x2 x3 h H locs ls A (lv_sub hl [0, 1, 2, 3] rfl) hF
          · have hF := mo_ifF c168 hF
            refine lv_iconst (v := (0 : Int32)) hx hb dL_law_601 (by decide) ?_
            exact mo_lend C A hr hlocks dL_law_602 hF
        have hF := mo_ifF c157 hF
        by_cases c169 : (v27 &&& (31 : Int32)) = (13 : Int32)
        · have hF := mo_ifT c169 hF
          refine mo_tsI hx hb (13 : Int32) (tgt := 603) (off := 561) dL_law_42 c169 (by decide) (by decide) rfl (by decide) ?_
          refine lv_aload_n hx hb dL_law_603 rfl (lv_at hl 1 rfl) ?_
          refine lv_aload_n hx hb dL_law_604 rfl (lv_at hl 0 rfl) ?_
          refine lv_iload_n hx hb dL_law_605 rfl (lv_at hl 3 rfl) ?_
          refine lv_iconst (v := (1 : Int32)) hx hb dL_law_606 (by decide) ?_
          refine lv_iadd hx hb dL_law_607 ?_
          refine mo_wsl C A hX hbl hbA dL_law_608 hF (fun v170 hF => ?_)
          refine mo_cV (n := 1) (As := [.int v170]) (rest := []) C A hml hl.1 (c_X10_told l D dA s.heap.size x1 v170) (ci := 10) (q := (RX10, TX10, 5)) rfl (fun _ e => (mo_ckE e).1) (tb_v tb_640 tb_641 tb_642 tb_2 tb_643) rfl (by decide +kernel) ⟨Nat.le_trans (by decide) hfr, Nat.le_trans (Nat.le_of_ble_eq_true rfl) hlo⟩ rfl (Nat.le_of_ble_eq_true rfl) rfl dL_law_609 hF (fun v172 h H locs hF A => ?_)
          show W _ _ _ _ _ _ _ _ _ _ _ _ _ _ _ (F0 m 612 ls [.int v172])
          refine lv_aload_n hx hb dL_law_612 rfl (lv_at hl 2 rfl) ?_
          refine lv_aload_n hx hb dL_law_613 rfl (lv_at hl 0 rfl) ?_
          refine lv_iload_n hx hb dL_law_614 rfl (lv_at hl 3 rfl) ?_
          refine lv_iconst (v := (1 : Int32)) hx hb dL_law_615 (by decide) ?_
          refine lv_iadd hx hb dL_law_616 ?_
          refine mo_wsl C A hX hbl hbA dL_law_617 hF (fun v173 hF => ?_)
          refine mo_cV (n := 1) (As := [.int v173]) (rest := [.int v172]) C A hml hl.1 (c_X11_told l D dA s.heap.size x2 v173) (ci := 11) (q := (RX11, TX11, 56)) rfl (fun _ e => (mo_ckE e).1) (tb_v tb_644 tb_645 tb_646 tb_5 tb_647) rfl (by decide +kernel) ⟨Nat.le_trans (by decide) hfr, Nat.le_trans (Nat.le_of_ble_eq_true rfl) hlo⟩ rfl (Nat.le_of_ble_eq_true rfl) rfl dL_law_618 hF (fun v175 h H locs hF A => ?_)
          show W _ _ _ _ _ _ _ _ _ _ _ _ _ _ _ (F0 m 621 ls [.int v175, .int v172])
          refine lv_icmp_eq (tgt := 771) hx hb dL_law_621 (by decide) (fun c176 => ?_) (fun c176 => ?_)
          · have hF := mo_ifT c176 hF
            exact J771 (F_L_law_28 L xs  fu) ih x1 x2 x3 h H locs ls A (lv_sub hl [0, 1, 2, 3] rfl) hF
          · have hF := mo_ifF c176 hF
            refine lv_iconst (v := (0 : Int32)) hx hb dL_law_624 (by decide) ?_
            exact mo_lend C A hr hlocks dL_law_625 hF
        have hF := mo_ifF c169 hF
        by_cases c177 : (v27 &&& (31 : Int32)) = (14 : Int32)
        · have hF := mo_ifT c177 hF
          refine mo_tsI hx hb (14 : Int32) (tgt := 626) (off := 584) dL_law_42 c177 (by decide) (by decide) rfl (by decide) ?_
          refine lv_aload_n hx hb dL_law_626 rfl (lv_at hl 1 rfl) ?_
          refine lv_aload_n hx hb dL_law_627 rfl (lv_at hl 0 rfl) ?_
          refine lv_iload_n hx hb dL_law_628 rfl (lv_at hl 3 rfl) ?_
          refine lv_iconst (v := (1 : Int32)) hx hb dL_law_629 (by decide) ?_
          refine lv_iadd hx hb dL_law_630 ?_
          refine mo_wsl C A hX hbl hbA dL_law_631 hF (fun v178 hF => ?_)
          refine lv_aload_n hx hb dL_law_632 rfl (lv_at hl 0 rfl) ?_
          refine lv_iload_n hx hb dL_law_633 rfl (lv_at hl 3 rfl) ?_
          refine lv_iconst (v := (2 : Int32)) hx hb dL_law_634 (by decide) ?_
          refine lv_iadd hx hb dL_law_635 ?_
          refine mo_wsl C A hX hbl hbA dL_law_636 hF (fun v180 hF => ?_)
          refine mo_cV (n := 2) (As := [.int v178, .int v180]) (rest := []) C A hml hl.1 (c_X10_action l D dA s.heap.size x1 v178 v180) (ci := 10) (q := (RX10, TX10, 5)) rfl (fun _ e => (mo_ckE e).1) (tb_v tb_648 tb_649 tb_650 tb_2 tb_651) rfl (by decide +kernel) ⟨Nat.le_trans (by decide) hfr, Nat.le_trans (Nat.le_of_ble_eq_true rfl) hlo⟩ rfl (Nat.le_of_ble_eq_true rfl) rfl dL_law_637 hF (fun v182 h H locs hF A => ?_)
          show W _ _ _ _ _ _ _ _ _ _ _ _ _ _ _ (F0 m 640 ls [.int v182])
          refine lv_aload_n hx hb dL_law_640 rfl (lv_at hl 2 rfl) ?_
          refine lv_aload_n hx hb dL_law_641 rfl (lv_at hl 0 rfl) ?_
          refine lv_iload_n hx hb dL_law_642 rfl (lv_at hl 3 rfl) ?_
          refine lv_iconst (v := (1 : Int32)) hx hb dL_law_643 (by decide) ?_
          refine lv_iadd hx hb dL_law_644 ?_
          refine mo_wsl C A hX hbl hbA dL_law_645 hF (fun v183 hF => ?_)
          refine lv_aload_n hx hb dL_law_646 rfl (lv_at hl 0 rfl) ?_
          refine lv_iload_n hx hb dL_law_647 rfl (lv_at hl 3 rfl) ?_
          refine lv_iconst (v := (2 : Int32)) hx hb dL_law_648 (by decide) ?_
          refine lv_iadd hx hb dL_law_649 ?_
          refine mo_wsl C A hX hbl hbA dL_law_650 hF (fun v185 hF => ?_)
          refine mo_cV (n := 2) (As := [.int v183, .int v185]) (rest := [.int v182]) C A hml hl.1 (c_X11_action l D dA s.heap.size x2 v183 v185) (ci := 11) (q := (RX11, TX11, 56)) rfl (fun _ e => (mo_ckE e).1) (tb_v tb_652 tb_653 tb_654 tb_5 tb_655) rfl (by decide +kernel) ⟨Nat.le_trans (by decide) hfr, Nat.le_trans (Nat.le_of_ble_eq_true rfl) hlo⟩ rfl (Nat.le_of_ble_eq_true rfl) rfl dL_law_651 hF (fun v187 h H locs hF A => ?_)
          show W _ _ _ _ _ _ _ _ _ _ _ _ _ _ _ (F0 m 654 ls [.int v187, .int v182])
          refine lv_icmp_eq (tgt := 771) hx hb dL_law_654 (by decide) (fun c188 => ?_) (fun c188 => ?_)
          · have hF := mo_ifT c188 hF
            exact J771 (F_L_law_28 L xs  fu) ih x1 x2 x3 h H locs ls A (lv_sub hl [0, 1, 2, 3] rfl) hF
          · have hF := mo_ifF c188 hF
            refine lv_iconst (v := (0 : Int32)) hx hb dL_law_657 (by decide) ?_
            exact mo_lend C A hr hlocks dL_law_658 hF
        have hF := mo_ifF c177 hF
        by_cases c189 : (v27 &&& (31 : Int32)) = (15 : Int32)
        · have hF := mo_ifT c189 hF
          refine mo_tsI hx hb (15 : Int32) (tgt := 659) (off := 617) dL_law_42 c189 (by decide) (by decide) rfl (by decide) ?_
          refine lv_aload_n hx hb dL_law_659 rfl (lv_at hl 1 rfl) ?_
          refine lv_aload_n hx hb dL_law_660 rfl (lv_at hl 0 rfl) ?_
          refine lv_iload_n hx hb dL_law_661 rfl (lv_at hl 3 rfl) ?_
          refine lv_iconst (v := (1 : Int32)) hx hb dL_law_662 (by decide) ?_
          refine lv_iadd hx hb dL_law_663 ?_
          refine mo_wsl C A hX hbl hbA dL_law_664 hF (fun v190 hF => ?_)
          refine mo_cV (n := 1) (As := [.int v190]) (rest := []) C A hml hl.1 (c_X10_purge l D dA s.heap.size x1 v190) (ci := 10) (q := (RX10, TX10, 5)) rfl (fun _ e => (mo_ckE e).1) (tb_v tb_656 tb_657 tb_658 tb_2 tb_659) rfl (by decide +kernel) ⟨Nat.le_trans (by decide) hfr, Nat.le_trans (Nat.le_of_ble_eq_true rfl) hlo⟩ rfl (Nat.le_of_ble_eq_true rfl) rfl dL_law_665 hF (fun v192 h H locs hF A => ?_)
          show W _ _ _ _ _ _ _ _ _ _ _ _ _ _ _ (F0 m 668 ls [.int v192])
          refine lv_aload_n hx hb dL_law_668 rfl (lv_at hl 2 rfl) ?_
          refine lv_aload_n hx hb dL_law_669 rfl (lv_at hl 0 rfl) ?_
          refine lv_iload_n hx hb dL_law_670 rfl (lv_at hl 3 rfl) ?_
          refine lv_iconst (v := (1 : Int32)) hx hb dL_law_671 (by decide) ?_
          refine lv_iadd hx hb dL_law_672 ?_
          refine mo_wsl C A hX hbl hbA dL_law_673 hF (fun v193 hF => ?_)
          refine mo_cV (n := 1) (As := [.int v193]) (rest := [.int v192]) C A hml hl.1 (c_X11_purge l D dA s.heap.size x2 v193) (ci := 11) (q := (RX11, TX11, 56)) rfl (fun _ e => (mo_ckE e).1) (tb_v tb_714 tb_715 tb_716 tb_5 tb_717) rfl (by decide +kernel) ⟨Nat.le_trans (by decide) hfr, Nat.le_trans (Nat.le_of_ble_eq_true rfl) hlo⟩ rfl (Nat.le_of_ble_eq_true rfl) rfl dL_law_674 hF (fun v195 h H locs hF A => ?_)
          show W _ _ _ _ _ _ _ _ _ _ _ _ _ _ _ (F0 m 677 ls [.int v195, .int v192])
          refine lv_icmp_eq (tgt := 771) hx hb dL_law_677 (by decide) (fun c196 => ?_) (fun c196 => ?_)
          · have hF := mo_ifT c196 hF
            exact J771 (F_L_law_28 L xs  fu) ih x1 x2 x3 h H locs ls A (lv_sub hl [0, 1, 2, 3] rfl) hF
          · have hF := mo_ifF c196 hF
            refine lv_iconst (v := (0 : Int32)) hx hb dL_law_680 (by decide) ?_
            exact mo_lend C A hr hlocks dL_law_681 hF
        have hF := mo_ifF c189 hF
        by_cases c197 : (v27 &&& (31 : Int32)) = (16 : Int32)
        · have hF := mo_ifT c197 hF
          refine mo_tsI hx hb (16 : Int32) (tgt := 682) (off := 640) dL_law_42 c197 (by decide) (by decide) rfl (by decide) ?_
          refine lv_aload_n hx hb dL_law_682 rfl (lv_at hl 1 rfl) ?_
          refine lv_aload_n hx hb dL_law_683 rfl (lv_at hl 0 rfl) ?_
          refine lv_iload_n hx hb dL_law_684 rfl (lv_at hl 3 rfl) ?_
          refine lv_iconst (v := (1 : Int32)) hx hb dL_law_685 (by decide) ?_
          refine lv_iadd hx hb dL_law_686 ?_
          refine mo_wsl C A hX hbl hbA dL_law_687 hF (fun v198 hF => ?_)
          refine mo_cV (n := 1) (As := [.int v198]) (rest := []) C A hml hl.1 (c_X10_kept l D dA s.heap.size x1 v198) (ci := 10) (q := (RX10, TX10, 5)) rfl (fun _ e => (mo_ckE e).1) (tb_v tb_726 tb_727 tb_728 tb_2 tb_729) rfl (by decide +kernel) ⟨Nat.le_trans (by decide) hfr, Nat.le_trans (Nat.le_of_ble_eq_true rfl) hlo⟩ rfl (Nat.le_of_ble_eq_true rfl) rfl dL_law_688 hF (fun v200 h H locs hF A => ?_)
          show W _ _ _ _ _ _ _ _ _ _ _ _ _ _ _ (F0 m 691 ls [.int v200])
          refine lv_aload_n hx hb dL_law_691 rfl (lv_at hl 2 rfl) ?_
          refine lv_aload_n hx hb dL_law_692 rfl (lv_at hl 0 rfl) ?_
          refine lv_iload_n hx hb dL_law_693 rfl (lv_at hl 3 rfl) ?_
          refine lv_iconst (v := (1 : Int32)) hx hb dL_law_694 (by decide) ?_
          refine lv_iadd hx hb dL_law_695 ?_
          refine mo_wsl C A hX hbl hbA dL_law_696 hF (fun v201 hF => ?_)
          refine mo_cV (n := 1) (As := [.int v201]) (rest := [.int v200]) C A hml hl.1 (c_X11_kept l D dA s.heap.size x2 v201) (ci := 11) (q := (RX11, TX11, 56)) rfl (fun _ e => (mo_ckE e).1) (tb_v tb_730 tb_731 tb_732 tb_5 tb_733) rfl (by decide +kernel) ⟨Nat.le_trans (by decide) hfr, Nat.le_trans (Nat.le_of_ble_eq_true rfl) hlo⟩ rfl (Nat.le_of_ble_eq_true rfl) rfl dL_law_697 hF (fun v203 h H locs hF A => ?_)
          show W _ _ _ _ _ _ _ _ _ _ _ _ _ _ _ (F0 m 700 ls [.int v203, .int v200])
          refine lv_icmp_eq (tgt := 771) hx hb dL_law_700 (by decide) (fun c204 => ?_) (fun c204 => ?_)
          · have hF := mo_ifT c204 hF
            exact J771 (F_L_law_28 L xs  fu) ih x1 x2 x3 h H locs ls A (lv_sub hl [0, 1, 2, 3] rfl) hF
          · have hF := mo_ifF c204 hF
            refine lv_iconst (v := (0 : Int32)) hx hb dL_law_703 (by decide) ?_
            exact mo_lend C A hr hlocks dL_law_704 hF
        have hF := mo_ifF c197 hF
        by_cases c205 : (v27 &&& (31 : Int32)) = (17 : Int32)
        · have hF := mo_ifT c205 hF
          refine mo_tsI hx hb (17 : Int32) (tgt := 705) (off := 663) dL_law_42 c205 (by decide) (by decide) rfl (by decide) ?_
          refine lv_aload_n hx hb dL_law_705 rfl (lv_at hl 1 rfl) ?_
          refine lv_aload_n hx hb dL_law_706 rfl (lv_at hl 0 rfl) ?_
          refine lv_iload_n hx hb dL_law_707 rfl (lv_at hl 3 rfl) ?_
          refine lv_iconst (v := (1 : Int32)) hx hb dL_law_708 (by decide) ?_
          refine lv_iadd hx hb dL_law_709 ?_
          refine mo_wsl C A hX hbl hbA dL_law_710 hF (fun v206 hF => ?_)
          refine lv_aload_n hx hb dL_law_711 rfl (lv_at hl 0 rfl) ?_
          refine lv_iload_n hx hb dL_law_712 rfl (lv_at hl 3 rfl) ?_
          refine lv_iconst (v := (2 : Int32)) hx hb dL_law_713 (by decide) ?_
          refine lv_iadd hx hb dL_law_714 ?_
          refine mo_wsl C A hX hbl hbA dL_law_715 hF (fun v208 hF => ?_)
          refine lv_aload_n hx hb dL_law_716 rfl (lv_at hl 0 rfl) ?_
          refine lv_iload_n hx hb dL_law_717 rfl (lv_at hl 3 rfl) ?_
          refine lv_iconst (v := (3 : Int32)) hx hb dL_law_718 (by decide) ?_
          refine lv_iadd hx hb dL_law_719 ?_
          refine mo_wsl C A hX hbl hbA dL_law_720 hF (fun v210 hF => ?_)
          refine mo_cV (n := 3) (As := [.int v206, .int v208, .int v210]) (rest := []) C A hml hl.1 (c_X10_purged l D dA s.heap.size x1 v206 v208 v210) (ci := 10) (q := (RX10, TX10, 5)) rfl (fun _ e => (mo_ckE e).1) (tb_v tb_734 tb_735 tb_736 tb_2 tb_737) rfl (by decide +kernel) ⟨Nat.le_trans (by decide) hfr, Nat.le_trans (Nat.le_of_ble_eq_true rfl) hlo⟩ rfl (Nat.le_of_ble_eq_true rfl) rfl dL_law_721 hF (fun v212 h H locs hF A => ?_)
          show W _ _ _ _ _ _ _ _ _ _ _ _ _ _ _ (F0 m 724 ls [.int v212])
          refine lv_aload_n hx hb dL_law_724 rfl (lv_at hl 2 rfl) ?_
          refine lv_aload_n hx hb dL_law_725 rfl (lv_at hl 0 rfl) ?_
          refine lv_iload_n hx hb dL_law_726 rfl (lv_at hl 3 rfl) ?_
          refine lv_iconst (v := (1 : Int32)) hx hb dL_law_727 (by decide) ?_
          refine lv_iadd hx hb dL_law_728 ?_
          refine mo_wsl C A hX hbl hbA dL_law_729 hF (fun v213 hF => ?_)
          refine lv_aload_n hx hb dL_law_730 rfl (lv_at hl 0 rfl) ?_
          refine lv_iload_n hx hb dL_law_731 rfl (lv_at hl 3 rfl) ?_
          refine lv_iconst (v := (2 : Int32)) hx hb dL_law_732 (by decide) ?_
          refine lv_iadd hx hb dL_law_733 ?_
          refine mo_wsl C A hX hbl hbA dL_law_734 hF (fun v215 hF => ?_)
          refine lv_aload_n hx hb dL_law_735 rfl (lv_at hl 0 rfl) ?_
          refine lv_iload_n hx hb dL_law_736 rfl (lv_at hl 3 rfl) ?_
          refine lv_iconst (v := (3 : Int32)) hx hb dL_law_737 (by decide) ?_
          refine lv_iadd hx hb dL_law_738 ?_
          refine mo_wsl C A hX hbl hbA dL_law_739 hF (fun v217 hF => ?_)
          refine mo_cV (n := 3) (As := [.int v213, .int v215, .int v217]) (rest := [.int v212]) C A hml hl.1 (c_X11_purged l D dA s.heap.size x2 v213 v215 v217) (ci := 11) (q := (RX11, TX11, 56)) rfl (fun _ e => (mo_ckE e).1) (tb_v tb_738 tb_739 tb_740 tb_5 tb_741) rfl (by decide +kernel) ⟨Nat.le_trans (by decide) hfr, Nat.le_trans (Nat.le_of_ble_eq_true rfl) hlo⟩ rfl (Nat.le_of_ble_eq_true rfl) rfl dL_law_740 hF (fun v219 h H locs hF A => ?_)
          show W _ _ _ _ _ _ _ _ _ _ _ _ _ _ _ (F0 m 743 ls [.int v219, .int v212])
          refine lv_icmp_eq (tgt := 771) hx hb dL_law_743 (by decide) (fun c220 => ?_) (fun c220 => ?_)
          · have hF := mo_ifT c220 hF
            exact J771 (F_L_law_28 L xs  fu) ih x1 x2 x3 h H locs ls A (lv_sub hl [0, 1, 2, 3] rfl) hF
          · have hF := mo_ifF c220 hF
            refine lv_iconst (v := (0 : Int32)) hx hb dL_law_746 (by decide) ?_
            exact mo_lend C A hr hlocks dL_law_747 hF
        have hF := mo_ifF c205 hF
        by_cases c221 : (v27 &&& (31 : Int32)) = (18 : Int32)
        · have hF := mo_ifT c221 hF
          refine mo_tsI hx hb (18 : Int32) (tgt := 748) (off := 706) dL_law_42 c221 (by decide) (by decide) rfl (by decide) ?_
          refine lv_aload_n hx hb dL_law_748 rfl (lv_at hl 1 rfl) ?_
          refine lv_aload_n hx hb dL_law_749 rfl (lv_at hl 0 rfl) ?_
          refine lv_iload_n hx hb dL_law_750 rfl (lv_at hl 3 rfl) ?_
          refine lv_iconst (v := (1 : Int32)) hx hb dL_law_751 (by decide) ?_
          refine lv_iadd hx hb dL_law_752 ?_
          refine mo_wsl C A hX hbl hbA dL_law_753 hF (fun v222 hF => ?_)
          refine mo_cV (n := 1) (As := [.int v222]) (rest := []) C A hml hl.1 (c_X10_undisturbed l D dA s.heap.size x1 v222) (ci := 10) (q := (RX10, TX10, 5)) rfl (fun _ e => (mo_ckE e).1) (tb_v tb_742 tb_743 tb_744 tb_2 tb_745) rfl (by decide +kernel) ⟨Nat.le_trans (by decide) hfr, Nat.le_trans (Nat.le_of_ble_eq_true rfl) hlo⟩ rfl (Nat.le_of_ble_eq_true rfl) rfl dL_law_754 hF (fun v224 h H locs hF A => ?_)
          show W _ _ _ _ _ _ _ _ _ _ _ _ _ _ _ (F0 m 757 ls [.int v224])
          refine lv_aload_n hx hb dL_law_757 rfl (lv_at hl 2 rfl) ?_
          refine lv_aload_n hx hb dL_law_758 rfl (lv_at hl 0 rfl) ?_
          refine lv_iload_n hx hb dL_law_759 rfl (lv_at hl 3 rfl) ?_
          refine lv_iconst (v := (1 : Int32)) hx hb dL_law_760 (by decide) ?_
          refine lv_iadd hx hb dL_law_761 ?_
          refine mo_wsl C A hX hbl hbA dL_law_762 hF (fun v225 hF => ?_)
          refine mo_cV (n := 1) (As := [.int v225]) (rest := [.int v224]) C A hml hl.1 (c_X11_undisturbed l D dA s.heap.size x2 v225) (ci := 11) (q := (RX11, TX11, 56)) rfl (fun _ e => (mo_ckE e).1) (tb_v tb_773 tb_774 tb_775 tb_5 tb_776) rfl (by decide +kernel) ⟨Nat.le_trans (by decide) hfr, Nat.le_trans (Nat.le_of_ble_eq_true rfl) hlo⟩ rfl (Nat.le_of_ble_eq_true rfl) rfl dL_law_763 hF (fun v227 h H locs hF A => ?_)
          show W _ _ _ _ _ _ _ _ _ _ _ _ _ _ _ (F0 m 766 ls [.int v227, .int v224])
          refine lv_icmp_eq (tgt := 771) hx hb dL_law_766 (by decide) (fun c228 => ?_) (fun c228 => ?_)
          · have hF := mo_ifT c228 hF
            exact J771 (F_L_law_28 L xs  fu) ih x1 x2 x3 h H locs ls A (lv_sub hl [0, 1, 2, 3] rfl) hF
          · have hF := mo_ifF c228 hF
            refine lv_iconst (v := (0 : Int32)) hx hb dL_law_769 (by decide) ?_
            exact mo_lend C A hr hlocks dL_law_770 hF
        have hF := mo_ifF c221 hF
        refine mo_tsD hx hb [(0 : Int32), (1 : Int32), (2 : Int32), (3 : Int32), (4 : Int32), (5 : Int32), (6 : Int32), (7 : Int32), (8 : Int32), (9 : Int32), (10 : Int32), (11 : Int32), (12 : Int32), (13 : Int32), (14 : Int32), (15 : Int32), (16 : Int32), (17 : Int32), (18 : Int32)] (tgt := 771) dL_law_42 (List.forall_mem_cons.mpr ⟨c29, (List.forall_mem_cons.mpr ⟨c37, (List.forall_mem_cons.mpr ⟨c45, (List.forall_mem_cons.mpr ⟨c57, (List.forall_mem_cons.mpr ⟨c69, (List.forall_mem_cons.mpr ⟨c85, (List.forall_mem_cons.mpr ⟨c89, (List.forall_mem_cons.mpr ⟨c101, (List.forall_mem_cons.mpr ⟨c109, (List.forall_mem_cons.mpr ⟨c121, (List.forall_mem_cons.mpr ⟨c133, (List.forall_mem_cons.mpr ⟨c145, (List.forall_mem_cons.mpr ⟨c157, (List.forall_mem_cons.mpr ⟨c169, (List.forall_mem_cons.mpr ⟨c177, (List.forall_mem_cons.mpr ⟨c189, (List.forall_mem_cons.mpr ⟨c197, (List.forall_mem_cons.mpr ⟨c205, (List.forall_mem_cons.mpr ⟨c221, (fun _ h => absurd h List.not_mem_nil)⟩)⟩)⟩)⟩)⟩)⟩)⟩)⟩)⟩)⟩)⟩)⟩)⟩)⟩)⟩)⟩)⟩)⟩)⟩) (by decide) (by decide) (by decide) ?_
        exact J771 (F_L_law_28 L xs  fu) ih x1 x2 x3 h H locs ls A (lv_sub hl [0, 1, 2, 3] rfl) hF
  unfold F_L_law at hF
  have E : ∀ (h : mo_H) (H : Heap) (locs : List Loc), (mo_b (mo_nc 10 dfX10) fun v229 => mo_b (F_L_cell L xs (0 : Int32)) fun v230 => mo_b (F_X10_init v229 v230) fun v231 => mo_b (mo_nc 11 dfX11) fun v232 => mo_b (F_L_cell L xs (0 : Int32)) fun v233 => mo_b (F_X11_init v232 v233) fun v234 => F_L_law_28 L xs mo_fu v229 v232 (1 : Int32)).1 h = some (1, h2) → mo_A D dA s.heap.size s.heap h0 h H locs → W p l e room_1 s m #[Value.ref b] below meth c H locs (h.2.1 - h0.2.1) (h.2.2 - h0.2.2) (lw_Z below #[Value.ref b] s) (F0 m 0 ls []) := by
    intro h H locs hF A
    refine mo_wnc C A (T := TX10) iX10 tyX10 tyX10_ok rfl tb_0 tb_1 tb_2 dfX10_ok rfl dL_law_0 hF (fun v229 h H hF A => ?_)
    refine lv_dup hx hb dL_law_3 rfl ?_
    refine lv_aload_n hx hb dL_law_4 rfl (lv_at hl 0 rfl) ?_
    refine lv_iconst (v := (0 : Int32)) hx hb dL_law_5 (by decide) ?_
    refine mo_cX (As := [.ref b, .int (0 : Int32)]) (rest := [.ref v229, .ref v229]) C A hml hl.1 hX hbl (c_L_cell l D dA s.heap.size b L xs (0 : Int32) hbl) (tb_s tb_6 tb_7 tb_8 tb_9) rfl (by decide +kernel) ⟨Nat.le_trans (by decide) hfr, Nat.le_trans (Nat.le_of_ble_eq_true rfl) hlo⟩ (n := 2) rfl (Nat.le_of_ble_eq_true rfl) rfl dL_law_6 hF (fun v230 h H locs hF A => ?_)
    show W _ _ _ _ _ _ _ _ _ _ _ _ _ _ _ (F0 m 9 ls [.int v230, .ref v229, .ref v229])
    refine mo_cI (n := 1) (As := [.int v230]) (rest := [.ref v229]) C A hml hl.1 (c_X10_init l D dA s.heap.size v229 v230) (tb_o tb_12) rfl tb_2 tb_10 tb_11 rfl (by decide +kernel) ⟨Nat.le_trans (by decide) hfr, Nat.le_trans (Nat.le_of_ble_eq_true rfl) hlo⟩ rfl (Nat.le_of_ble_eq_true rfl) rfl dL_law_9 hF (fun v231 h H locs hF A => ?_)
    show W _ _ _ _ _ _ _ _ _ _ _ _ _ _ _ (F0 m 12 ls [.ref v229])
    refine lv_astore_n (lv' := [(1, .ref v229), (0, .ref b)]) hx hb dL_law_12 rfl hl (by decide) rfl (fun ls hl => ?_)
    refine mo_wnc C A (T := TX11) iX11 tyX11 tyX11_ok rfl tb_3 tb_4 tb_5 dfX11_ok rfl dL_law_13 hF (fun v232 h H hF A => ?_)
    refine lv_dup hx hb dL_law_16 rfl ?_
    refine lv_aload_n hx hb dL_law_17 rfl (lv_at hl 1 rfl) ?_
    refine lv_iconst (v := (0 : Int32)) hx hb dL_law_18 (by decide) ?_
    refine mo_cX (As := [.ref b, .int (0 : Int32)]) (rest := [.ref v232, .ref v232]) C A hml hl.1 hX hbl (c_L_cell l D dA s.heap.size b L xs (0 : Int32) hbl) (tb_s tb_6 tb_7 tb_8 tb_9) rfl (by decide +kernel) ⟨Nat.le_trans (by decide) hfr, Nat.le_trans (Nat.le_of_ble_eq_true rfl) hlo⟩ (n := 2) rfl (Nat.le_of_ble_eq_true rfl) rfl dL_law_19 hF (fun v233 h H locs hF A => ?_)
    show W _ _ _ _ _ _ _ _ _ _ _ _ _ _ _ (F0 m 22 ls [.int v233, .ref v232, .ref v232])
    refine mo_cI (n := 1) (As := [.int v233]) (rest := [.ref v232]) C A hml hl.1 (c_X11_init l D dA s.heap.size v232 v233) (tb_o tb_118) rfl tb_5 tb_116 tb_117 rfl (by decide +kernel) ⟨Nat.le_trans (by decide) hfr, Nat.le_trans (Nat.le_of_ble_eq_true rfl) hlo⟩ rfl (Nat.le_of_ble_eq_true rfl) rfl dL_law_22 hF (fun v234 h H locs hF A => ?_)
    show W _ _ _ _ _ _ _ _ _ _ _ _ _ _ _ (F0 m 25 ls [.ref v232])
    refine lv_astore_n (lv' := [(2, .ref v232), (1, .ref v229), (0, .ref b)]) hx hb dL_law_25 rfl hl (by decide) rfl (fun ls hl => ?_)
    refine lv_iconst (v := (1 : Int32)) hx hb dL_law_26 (by decide) ?_
    refine lv_istore_n (lv' := [(3, .int (1 : Int32)), (2, .ref v232), (1, .ref v229), (0, .ref b)]) hx hb dL_law_27 rfl hl (by decide) rfl (fun ls hl => ?_)
    exact J28 mo_fu v229 v232 (1 : Int32) h H locs ls A (lv_sub hl [3, 2, 1, 0] rfl) hF
  exact E h0 s.heap [] hF A
