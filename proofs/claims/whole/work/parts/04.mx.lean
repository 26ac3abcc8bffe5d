/-! MORE ROWS: a contract out of a walk; switches; loads of what may be null; Math -/
theorem mo_MetOf {α : Type} {l : Launch} {y : MethodName} {fr lo : Nat} {D : va_G} {dA : Nat → ClassId} {b0 : Nat} {av : List Value} {enc : α → Option Value} {F : mo_M α} {cc : ByteArray} {maxL : Nat} {ret : Option FieldType} {own : String} (hy : plainName y.cls = true) (hlen : (lg_sl av).length ≤ maxL) (lv0 : List (Nat × Value)) (hlv : lv_args 0 av = lv0) (hcls : y.cls = own)
    (body : ∀ (p : Program) (e : Env) (R : Room) (s : State) (m : MethodId) (args : Array Value) (below : List Frame) (meth : Method) (c : Code) (Q : State → Prop) (h0 h2 : mo_H) (z : α) (ls : Array Slot), Q = MQ below (mo_Q D dA b0 h2 (enc z)) args s (h2.2.1 - h0.2.1) (h2.2.2 - h0.2.2) (fun q => b0 ≤ q) → mo_C p R s m args c cc own wsL_law D dA b0 h0 h2 → c.maxLocals = maxL → meth.sig.returnType = ret → meth.locks = false → meth.name = y.name → fr ≤ R.frames → lo ≤ R.locals → F.1 h0 = some (z, h2) → mo_A D dA b0 s.heap h0 h0 s.heap [] → lv_has ls maxL lv0 →
      W p l e R s m args below meth c s.heap [] (h0.2.1 - h0.2.1) (h0.2.2 - h0.2.2) Q (F0 m 0 ls [])) : mo_Met l y [Cond.code y cc maxL ret] fr lo D dA b0 av enc F := by
  intro h h2 z hF
  refine Met.ofW (cc := cc) (maxL := maxL) (ret := ret) (ws' := []) hy rfl ?_
  intro p e s m args below meth c s₁ B hml hv
  obtain ⟨rfl, hR, hK⟩ := hv
  have hts := mo_K.words hK av.toArray
  have hown : s.vm.findClass own = some m.cls := by rw [← hcls]; exact findClass_of_methodNamed B.named
  have hl := lv_entry av (n := maxL) hlen
  rw [lg_entry_eq]
  generalize (lg_sl av ++ List.replicate (maxL - (lg_sl av).length) Slot.unset).toArray = ls at hl ⊢
  rw [hlv] at hl
  have hb0 : b0 ≤ s.heap.size := by rw [hR.1]; exact hR.2.1
  have hk := body p e ({ frames := fr, cells := h2.2.1 - h.2.1, slots := h2.2.2 - h.2.2, locals := lo } : Room) s m av.toArray below meth c _ h h2 z ls rfl ⟨B.exec, B.bytes, hown, hts, hK, ⟨Nat.le_refl _, Nat.le_refl _⟩, hb0⟩ hml B.returns B.notSynchronized (name_of_methodNamed B.named B.method).1 (Nat.le_refl _) (Nat.le_refl _) hF ⟨hR, va_S.rf, mo_le.rf _⟩ hl
  rw [Nat.sub_self, Nat.sub_self] at hk
  exact hk
section MX
variable {p : Program} {l : Launch} {e : Env} {R : Room} {s : State} {m : MethodId} {args : Array Value} {below : List Frame} {meth : Method} {c : Code} {H : Heap} {locs : List Loc} {cells slots : Nat} {Q : State → Prop}
variable {cc : ByteArray} {pc : Nat} {ls : Array Slot} {rest : List Value} {own : String} {Ts : List Cond} {D : va_G} {dA : Nat → ClassId} {b0 : Nat} {h0 h2 h : mo_H} {β : Type} {z : β} {a : Nat}
theorem mo_wmx (C : mo_C p R s m args c cc own Ts D dA b0 h0 h2) (A : mo_A D dA b0 s.heap h0 h H locs) (hml : c.maxLocals = ls.size) {index : Nat} (hlink : Cond.methodLink own index Lib.Math.max.name ∈ Ts) (hstat : Cond.static Lib.Math.max.name ∈ Ts) (hini : Cond.initialized "java/lang/Math" ∈ Ts) (hcode : Cond.code Lib.Math.max.name Lib.Math.max.code 2 (some .int) ∈ Ts) (hframes : 1 ≤ R.frames) (hlocals : (rest.map fun v => v.category).sum + 13 ≤ R.locals) {x y : Int32} (hdg : decode cc pc = .ok (.invokestatic index, 3)) {F : mo_M β} (hF : F.1 h = some (z, h2))
    (kk : W p l e R s m args below meth c H locs (h.2.1 - h0.2.1) (h.2.2 - h0.2.2) Q (F0 m (pc + 3) ls (.int (if x < y then y else x) :: rest))) : W p l e R s m args below meth c H locs (h.2.1 - h0.2.1) (h.2.2 - h0.2.2) Q (F0 m pc ls (.int y :: .int x :: rest)) := by
  obtain ⟨hx, hb, hown, hts, hK, hrm, -⟩ := C
  have hle := F.2 _ _ _ hF
  exact va_mmax hx hb hml hown (hts _ hlink) (hts _ hstat) (hts _ hini) (hts _ hcode) hframes hlocals (by have := hle.1; omega) (by have := hle.2; omega) hdg kk
theorem mo_wmn (C : mo_C p R s m args c cc own Ts D dA b0 h0 h2) (A : mo_A D dA b0 s.heap h0 h H locs) (hml : c.maxLocals = ls.size) {index : Nat} (hlink : Cond.methodLink own index Lib.Math.min.name ∈ Ts) (hstat : Cond.static Lib.Math.min.name ∈ Ts) (hini : Cond.initialized "java/lang/Math" ∈ Ts) (hcode : Cond.code Lib.Math.min.name Lib.Math.min.code 2 (some .int) ∈ Ts) (hframes : 1 ≤ R.frames) (hlocals : (rest.map fun v => v.category).sum + 13 ≤ R.locals) {x y : Int32} (hdg : decode cc pc = .ok (.invokestatic index, 3)) {F : mo_M β} (hF : F.1 h = some (z, h2))
    (kk : W p l e R s m args below meth c H locs (h.2.1 - h0.2.1) (h.2.2 - h0.2.2) Q (F0 m (pc + 3) ls (.int (if y < x then y else x) :: rest))) : W p l e R s m args below meth c H locs (h.2.1 - h0.2.1) (h.2.2 - h0.2.2) Q (F0 m pc ls (.int y :: .int x :: rest)) := by
  obtain ⟨hx, hb, hown, hts, hK, hrm, -⟩ := C
  have hle := F.2 _ _ _ hF
  exact va_mmin hx hb hml hown (hts _ hlink) (hts _ hstat) (hts _ hini) (hts _ hcode) hframes hlocals (by have := hle.1; omega) (by have := hle.2; omega) hdg kk
theorem mo_aldn (hexec : p.tables.exec = Jvm.exec) (hb : c.code = cc) {k : Fin 4} {i : Nat} {x : Option Nat} (hdg : decode cc pc = .ok (.aload_n k, 1)) (hi : (k : Nat) = i) (hl : ls[i]? = some (.val (va_rf x)))
    (kk : W p l e R s m args below meth c H locs cells slots Q (F0 m (pc + 1) ls (va_rf x :: rest))) : W p l e R s m args below meth c H locs cells slots Q (F0 m pc ls rest) := by
  cases x with
  | none => exact lv_aload_nN hexec hb hdg hi hl kk
  | some y => exact lv_aload_n hexec hb hdg hi hl kk
theorem mo_ald (hexec : p.tables.exec = Jvm.exec) (hb : c.code = cc) {i : Nat} {x : Option Nat} (hdg : decode cc pc = .ok (.aload i, 2)) (hl : ls[i]? = some (.val (va_rf x)))
    (kk : W p l e R s m args below meth c H locs cells slots Q (F0 m (pc + 2) ls (va_rf x :: rest))) : W p l e R s m args below meth c H locs cells slots Q (F0 m pc ls rest) := by
  cases x with
  | none => exact lv_aloadN hexec hb hdg hl kk
  | some y => exact lv_aload hexec hb hdg hl kk
theorem mo_astn (hexec : p.tables.exec = Jvm.exec) (hb : c.code = cc) {k : Fin 4} {i nL : Nat} {x : Option Nat} {lv lv' : List (Nat × Value)} (hdg : decode cc pc = .ok (.astore_n k, 1)) (hi : (k : Nat) = i) (h : lv_has ls nL lv) (hn : i < nL) (hl : (i, va_rf x) :: lv.filter (fun q => !(q.1 == i) && !(q.1 + 1 == i && q.2.category == 2)) = lv')
    (kk : ∀ ls' : Array Slot, lv_has ls' nL lv' → W p l e R s m args below meth c H locs cells slots Q (F0 m (pc + 1) ls' rest)) : W p l e R s m args below meth c H locs cells slots Q (F0 m pc ls (va_rf x :: rest)) := by
  cases x with
  | none => exact lv_astore_nN hexec hb hdg hi h hn hl kk
  | some y => exact lv_astore_n hexec hb hdg hi h hn hl kk
theorem mo_ast (hexec : p.tables.exec = Jvm.exec) (hb : c.code = cc) {i nL : Nat} {x : Option Nat} {lv lv' : List (Nat × Value)} (hdg : decode cc pc = .ok (.astore i, 2)) (h : lv_has ls nL lv) (hn : i < nL) (hl : (i, va_rf x) :: lv.filter (fun q => !(q.1 == i) && !(q.1 + 1 == i && q.2.category == 2)) = lv')
    (kk : ∀ ls' : Array Slot, lv_has ls' nL lv' → W p l e R s m args below meth c H locs cells slots Q (F0 m (pc + 2) ls' rest)) : W p l e R s m args below meth c H locs cells slots Q (F0 m pc ls (va_rf x :: rest)) := by
  cases x with
  | none => exact lv_astoreN hexec hb hdg h hn hl kk
  | some y => exact lv_astore hexec hb hdg h hn hl kk
/-- a table switch at a known value -/
theorem mo_tsI (hexec : p.tables.exec = Jvm.exec) (hb : c.code = cc) {dflt lo hi : Int} {offs : Array Int} {len : Nat} {x : Int32} (v : Int32) {off : Int} {tgt : Nat} (hdg : decode cc pc = .ok (.tableswitch dflt lo hi offs, len)) (hv : x = v) (h1 : ¬ v.toInt < lo) (h2 : ¬ hi < v.toInt) (ho : offs[(v.toInt - lo).toNat]? = some off) (ht : (pc : Int) + off = (tgt : Int))
    (k : W p l e R s m args below meth c H locs cells slots Q (F0 m tgt ls rest)) : W p l e R s m args below meth c H locs cells slots Q (F0 m pc ls (.int x :: rest)) := by
  subst hv
  exact lv_tableIn hexec hb hdg h1 h2 ho ht k
/-- a table switch at a value that is none of those that go elsewhere -/
theorem mo_tsD (hexec : p.tables.exec = Jvm.exec) (hb : c.code = cc) {dflt lo hi : Int} {offs : Array Int} {len : Nat} {x : Int32} (L : List Int32) {tgt : Nat} (hdg : decode cc pc = .ok (.tableswitch dflt lo hi offs, len)) (hL : ∀ v ∈ L, ¬ x = v) (hD : ∀ k, k < offs.size → offs[k]? = some dflt ∨ Int32.ofInt (lo + (k : Int)) ∈ L) (hz : hi - lo < (offs.size : Int)) (ht : (pc : Int) + dflt = (tgt : Int))
    (k : W p l e R s m args below meth c H locs cells slots Q (F0 m tgt ls rest)) : W p l e R s m args below meth c H locs cells slots Q (F0 m pc ls (.int x :: rest)) := by
  by_cases h1 : x.toInt < lo
  · exact lv_tableOut hexec hb hdg (Or.inl h1) ht k
  · by_cases h2 : hi < x.toInt
    · exact lv_tableOut hexec hb hdg (Or.inr h2) ht k
    · have hk : (x.toInt - lo).toNat < offs.size := by omega
      rcases hD _ hk with h3 | h3
      · exact lv_tableIn hexec hb hdg h1 h2 h3 ht k
      · refine absurd ?_ (hL _ h3)
        have e1 : lo + ((x.toInt - lo).toNat : Int) = x.toInt := by omega
        rw [e1, Int32.ofInt_toInt]
theorem mo_lsI (hexec : p.tables.exec = Jvm.exec) (hb : c.code = cc) {dflt : Int} {ps : Array (Int × Int)} {len : Nat} {x : Int32} (v : Int32) {off : Int} {tgt : Nat} (hdg : decode cc pc = .ok (.lookupswitch dflt ps, len)) (hv : x = v) (hp : (ps.toList.zip (ps.toList.drop 1)).all (fun (a, next) => a.1 < next.1) = true) (ho : Op.lookupswitch.offset ps.toList dflt v.toInt = off) (ht : (pc : Int) + off = (tgt : Int))
    (k : W p l e R s m args below meth c H locs cells slots Q (F0 m tgt ls rest)) : W p l e R s m args below meth c H locs cells slots Q (F0 m pc ls (.int x :: rest)) := by
  subst hv
  exact lv_lookup hexec hb hdg hp ho ht k
end MX
theorem mo_offD (L : List (Int × Int)) (dflt : Int) (x : Int32) (h : ∀ q ∈ L, ¬ x = Int32.ofInt q.1) : Op.lookupswitch.offset L dflt x.toInt = dflt := by
  induction L with
  | nil => rfl
  | cons a t ih =>
    have h1 : ¬ a.1 = x.toInt := fun hq => h a List.mem_cons_self (by rw [hq, Int32.ofInt_toInt])
    have h2 := ih (fun q hq => h q (List.mem_cons_of_mem _ hq))
    have h3 : ¬ x.toInt = a.1 := fun hq => h1 hq.symm
    simp [Op.lookupswitch.offset, h1, h3, h2]
