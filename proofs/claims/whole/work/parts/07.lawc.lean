/-! THE LAW: its script, its helper, its walk -/
def mo_PX (D : va_G) (dA : Nat → ClassId) (b0 : Nat) (h : mo_H) (b L : Nat) (xs : Nat → Int32) (av : List Value) : Array Value → State → Prop := fun v U => v = av.toArray ∧ mo_R D dA b0 h U.heap ∧ mo_K D dA U ∧ va_X b L xs U U.heap
theorem mo_blindX {D : va_G} {dA : Nat → ClassId} {b0 b L : Nat} {xs : Nat → Int32} {h : mo_H} {av : List Value} : FrameBlind (mo_PX D dA b0 h b L xs av) := fun a U g mk q => ⟨q.1, q.2.1, mo_K.calling q.2.2.1, va_X.moved (u := U) (U := U.calling g mk a) (Vm.Alike.refl U.vm) q.2.2.2⟩
section MLAW
variable {p : Program} {l : Launch} {e : Env} {R : Room} {s : State} {m : MethodId} {args : Array Value} {below : List Frame} {meth : Method} {c : Code} {H : Heap} {locs : List Loc} {cells slots : Nat} {Q : State → Prop}
variable {cc : ByteArray} {pc : Nat} {ls : Array Slot} {rest : List Value} {own : String} {Ts : List Cond} {D : va_G} {dA : Nat → ClassId} {b0 : Nat} {h0 h2 h : mo_H} {β : Type} {z : β} {b L : Nat} {xs : Nat → Int32}
theorem mo_wsl (C : mo_C p R s m args c cc own Ts D dA b0 h0 h2) (A : mo_A D dA b0 s.heap h0 h H locs) (hX : va_X b L xs s s.heap) (hbl : b < s.heap.size) (hbA : ¬ b0 ≤ b) {i : Int32} (hdg : decode cc pc = .ok (.iaload, 1)) {K : Int32 → mo_M β} {zz : β × mo_H} (hF : (mo_b (mo_sl L xs i) K).1 h = some zz)
    (kk : ∀ x : Int32, (K x).1 h = some zz → W p l e R s m args below meth c H locs cells slots Q (F0 m (pc + 1) ls (.int x :: rest))) : W p l e R s m args below meth c H locs cells slots Q (F0 m pc ls (.int i :: .ref b :: rest)) := by
  obtain ⟨e2, e3⟩ := mo_slE hF
  obtain ⟨hx, hb, -⟩ := C
  exact va_sld hx hb hX hbl hbA A.2.1 e2 hdg (kk _ e3)
theorem mo_cX {α : Type} {y : MethodName} {bytes : ByteArray} {maxL nL n index fr lo : Nat} {ret : Option FieldType} {ws ws' : List Cond} {As : List Value} {F : mo_M α} {K : α → mo_M β} {enc : α → Option Value} (C : mo_C p R s m args c cc own Ts D dA b0 h0 h2) (A : mo_A D dA b0 s.heap h0 h H locs) (hml : c.maxLocals = nL) (hls : ls.size = nL) (hX : va_X b L xs s s.heap) (hbl : b < b0) (hM : ∀ (h h2 : mo_H) (z : α), F.1 h = some (z, h2) → Met l y ws ({ frames := fr, cells := h2.2.1 - h.2.1, slots := h2.2.2 - h.2.2, locals := lo }) (mo_PX D dA b0 h b L xs As) (mo_Q D dA b0 h2 (enc z)) (h2.2.1 - h.2.1) (h2.2.2 - h.2.2) (fun q => b0 ≤ q)) (hT : GoodIn Ts (va_wsS own index y ws)) (hw : ws = Cond.code y bytes maxL ret :: ws') (hd : y.cls ≠ "java/lang/invoke/MethodHandle" ∧ y.cls ≠ "java/lang/invoke/VarHandle" ∧ (parseMethodDescriptor y.desc).map (fun d => d.parameters.length) = some n) (hR : fr + 1 ≤ R.frames ∧ 8 + (maxL + 11) + lo ≤ R.locals) (hn : As.length = n) (hW : (rest.map fun v => v.category).sum ≤ 8) {st0 : List Value} (hst : st0 = As.reverse ++ rest) (hdg : decode cc pc = .ok (.invokestatic index, 3)) (hF : (mo_b F K).1 h = some (z, h2))
    (kk : ∀ (r : α) (h1 : mo_H) (H' : Heap) (locs' : List Loc), (K r).1 h1 = some (z, h2) → mo_A D dA b0 s.heap h0 h1 H' locs' → W p l e R s m args below meth c H' locs' (h1.2.1 - h0.2.1) (h1.2.2 - h0.2.2) Q (F0 m (pc + 3) ls ((enc r).toList ++ rest))) : W p l e R s m args below meth c H locs (h.2.1 - h0.2.1) (h.2.2 - h0.2.2) Q (F0 m pc ls st0) := by
  obtain ⟨r, h1, e1, e2⟩ := mo_bE hF
  obtain ⟨hx, hb, hown, hts, hK, hrm, hb0⟩ := id C
  have l1 := F.2 _ _ _ e1
  have l2 := (K r).2 _ _ _ e2
  subst hst
  have hX1 : va_X b L xs s H := hX.kept (A.2.1.2.1 b (Nat.lt_of_lt_of_le hbl hb0) (Nat.not_le.mpr hbl))
  exact mo_call (va_runS (As := As) (rest := rest) ⟨hx, hb, hml, hown, hts⟩ (hM h h1 r e1) (va_cwS n hts hT hw rfl rfl hd hR) ⟨mo_blindX, fun U hU hW => ⟨rfl, by rw [hU]; exact A.1, hK.warm hW, by rw [hU]; exact hX1.moved hW.alike⟩⟩ rfl hn hls rfl (lv_room hW) hdg (mo_rmc A.2.2 l1 l2 hrm)) A l1 (fun H' locs' A' => kk r h1 H' locs' e2 A')
end MLAW
set_option maxHeartbeats 4000000 in
set_option maxRecDepth 100000 in
theorem c_L_cell (l : Launch) (D : va_G) (dA : Nat → ClassId) (b0 b L : Nat) (xs : Nat → Int32) (x1 : Int32) (hbb : b < b0) : ∀ (h h2 : mo_H) (z : Int32), (F_L_cell L xs x1).1 h = some (z, h2) → Met l yL_cell [Cond.code yL_cell cL_cell 2 (some .int)] ({ frames := 0, cells := h2.2.1 - h.2.1, slots := h2.2.2 - h.2.2, locals := 0 }) (mo_PX D dA b0 h b L xs [.ref b, .int x1]) (mo_Q D dA b0 h2 (some (.int z))) (h2.2.1 - h.2.1) (h2.2.2 - h.2.2) (fun q => b0 ≤ q) := by
  intro h0 h2 z hF
  refine Met.ofW (cc := cL_cell) (maxL := 2) (ret := (some .int)) (ws' := []) (by decide) rfl ?_
  intro p e s m args below meth c s₁ B hml hv
  obtain ⟨rfl, hR, hK, hX⟩ := hv
  have hts := mo_K.words hK ([.ref b, .int x1] : List Value).toArray
  have hown : s.vm.findClass RL = some m.cls := findClass_of_methodNamed B.named
  have hl := lv_entry ([.ref b, .int x1]) (n := 2) (Nat.le_of_ble_eq_true rfl)
  rw [lg_entry_eq]
  generalize (lg_sl ([.ref b, .int x1]) ++ List.replicate (2 - (lg_sl ([.ref b, .int x1])).length) Slot.unset).toArray = ls at hl ⊢
  have hl : lv_has ls 2 [(0, .ref b), (1, .int x1)] := hl
  have hb0 : b0 ≤ s.heap.size := by rw [hR.1]; exact hR.2.1
  have hbl : b < s.heap.size := Nat.lt_of_lt_of_le hbb hb0
  have hbA : ¬ b0 ≤ b := Nat.not_le.mpr hbb
  have hr := B.returns
  have hlocks := B.notSynchronized
  have C : mo_C p ({ frames := 0, cells := h2.2.1 - h0.2.1, slots := h2.2.2 - h0.2.2, locals := 0 } : Room) s m ([.ref b, .int x1] : List Value).toArray c cL_cell RL wsL_law D dA b0 h0 h2 := ⟨B.exec, B.bytes, hown, hts, hK, ⟨Nat.le_refl _, Nat.le_refl _⟩, hb0⟩
  have A : mo_A D dA b0 s.heap h0 h0 s.heap [] := ⟨hR, va_S.rf, mo_le.rf _⟩
  have hx := C.1
  have hb := C.2.1
  unfold F_L_cell at hF
  have E : ∀ (Q : State → Prop), Q = MQ below (mo_Q D dA b0 h2 (some (.int z))) ([.ref b, .int x1] : List Value).toArray s (h2.2.1 - h0.2.1) (h2.2.2 - h0.2.2) (fun q => b0 ≤ q) → ∀ (h : mo_H) (H : Heap) (locs : List Loc), ((if (Int32.ofNat L) ≤ x1 then mo_ret (0 : Int32) else mo_b (mo_sl L xs x1) fun v3 => mo_ret v3)).1 h = some (z, h2) → mo_A D dA b0 s.heap h0 h H locs → W p l e ({ frames := 0, cells := h2.2.1 - h0.2.1, slots := h2.2.2 - h0.2.2, locals := 0 } : Room) s m ([.ref b, .int x1] : List Value).toArray below meth c H locs (h.2.1 - h0.2.1) (h.2.2 - h0.2.2) Q (F0 m 0 ls []) := by
    intro Q hQ h H locs hF A
    refine lv_iload_n hx hb dL_cell_0 rfl (lv_at hl 1 rfl) ?_
    refine lv_aload_n hx hb dL_cell_1 rfl (lv_at hl 0 rfl) ?_
    refine va_slen hx hb hX hbl hbA A.2.1 dL_cell_2 ?_
    refine lv_icmp_ge (tgt := 12) hx hb dL_cell_3 (by decide) (fun c2 => ?_) (fun c2 => ?_)
    · have hF := mo_ifT c2 hF
      refine lv_iconst (v := (0 : Int32)) hx hb dL_cell_12 (by decide) ?_
      rw [hQ]
      exact mo_iret C A hr hlocks dL_cell_13 hF
    · have hF := mo_ifF c2 hF
      refine lv_aload_n hx hb dL_cell_6 rfl (lv_at hl 0 rfl) ?_
      refine lv_iload_n hx hb dL_cell_7 rfl (lv_at hl 1 rfl) ?_
      refine mo_wsl C A hX hbl hbA dL_cell_8 hF (fun v3 hF => ?_)
      refine lv_goto (tgt := 13) hx hb dL_cell_9 (by decide) ?_
      rw [hQ]
      exact mo_iret C A hr hlocks dL_cell_13 hF
  have hk := E _ rfl h0 s.heap [] hF A
  rw [Nat.sub_self, Nat.sub_self] at hk
  exact hk
