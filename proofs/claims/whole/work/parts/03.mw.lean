/-! THE MACHINE AGAINST A PROGRAM OVER THE FUNCTION HEAP -/
def mo_Ns : List Cond := [
  .fieldLinkNest "SplitKernel$Actions" 27 "SplitKernel$Row" "size" "I" "SplitKernel",
  .fieldLinkNest "SplitKernel" 88 "SplitKernel$Row" "size" "I" "SplitKernel",
  .fieldLinkNest "SplitKernel$Clock" 44 "SplitKernel$Row" "size" "I" "SplitKernel",
  .fieldLinkNest "SplitKernel$Machine" 134 "SplitKernel$Row" "size" "I" "SplitKernel",
  .fieldLinkNest "SplitKernel$Domain" 98 "SplitKernel$Row" "size" "I" "SplitKernel",
  .fieldLinkNest "SplitKernel$Machine" 15 "SplitKernel$Plan" "domainCount" "I" "SplitKernel",
  .fieldLinkNest "SplitKernel" 231 "SplitKernel$Plan" "domainCount" "I" "SplitKernel",
  .fieldLinkNest "SplitKernel$Purge" 55 "SplitKernel$Plan" "flowBits" "[I" "SplitKernel",
  .fieldLinkNest "SplitKernel$Machine" 37 "SplitKernel$Plan" "links" "[LSplitKernel$Link;" "SplitKernel",
  .fieldLinkNest "SplitKernel" 71 "SplitKernel$Plan" "links" "[LSplitKernel$Link;" "SplitKernel",
  .fieldLinkNest "SplitKernel$Machine" 34 "SplitKernel$Plan" "linkCount" "I" "SplitKernel",
  .fieldLinkNest "SplitKernel" 62 "SplitKernel$Plan" "linkCount" "I" "SplitKernel",
  .fieldLinkNest "SplitKernel$Machine" 75 "SplitKernel$Plan" "programs" "[LSplitKernel$Row;" "SplitKernel",
  .fieldLinkNest "SplitKernel" 84 "SplitKernel$Plan" "programs" "[LSplitKernel$Row;" "SplitKernel",
  .fieldLinkNest "SplitKernel" 96 "SplitKernel$Plan" "failRules" "[I" "SplitKernel",
  .fieldLinkNest "SplitKernel$Machine" 154 "SplitKernel$Plan" "failRules" "[I" "SplitKernel",
  .fieldLinkNest "SplitKernel$Clock" 41 "SplitKernel$Plan" "slotDomains" "[LSplitKernel$Row;" "SplitKernel",
  .fieldLinkNest "SplitKernel" 106 "SplitKernel$Plan" "slotDomains" "[LSplitKernel$Row;" "SplitKernel",
  .fieldLinkNest "SplitKernel$Clock" 23 "SplitKernel$Plan" "slotTicks" "[LSplitKernel$Row;" "SplitKernel",
  .fieldLinkNest "SplitKernel" 103 "SplitKernel$Plan" "slotTicks" "[LSplitKernel$Row;" "SplitKernel",
  .fieldLinkNest "SplitKernel" 43 "SplitKernel$Plan" "isSealed" "Z" "SplitKernel",
  .fieldLinkNest "SplitKernel$Machine" 216 "SplitKernel$Domain" "cells" "[I" "SplitKernel",
  .fieldLinkNest "SplitKernel$Purge" 77 "SplitKernel$Domain" "inputs" "LSplitKernel$Row;" "SplitKernel",
  .fieldLinkNest "SplitKernel" 126 "SplitKernel$Domain" "inputs" "LSplitKernel$Row;" "SplitKernel",
  .fieldLinkNest "SplitKernel" 167 "SplitKernel$Domain" "outputs" "LSplitKernel$Row;" "SplitKernel",
  .fieldLinkNest "SplitKernel$Machine" 79 "SplitKernel$Domain" "place" "I" "SplitKernel",
  .fieldLinkNest "SplitKernel" 161 "SplitKernel$Domain" "place" "I" "SplitKernel",
  .fieldLinkNest "SplitKernel$Machine" 72 "SplitKernel$Domain" "state" "I" "SplitKernel",
  .fieldLinkNest "SplitKernel" 164 "SplitKernel$Domain" "state" "I" "SplitKernel",
  .fieldLinkNest "SplitKernel" 170 "SplitKernel$Domain" "fails" "I" "SplitKernel",
  .fieldLinkNest "SplitKernel$Machine" 128 "SplitKernel$Domain" "steps" "I" "SplitKernel",
  .fieldLinkNest "SplitKernel" 173 "SplitKernel$Domain" "steps" "I" "SplitKernel",
  .fieldLinkNest "SplitKernel$Machine" 122 "SplitKernel$Domain" "ticks" "I" "SplitKernel",
  .fieldLinkNest "SplitKernel" 176 "SplitKernel$Domain" "ticks" "I" "SplitKernel",
  .fieldLinkNest "SplitKernel$Machine" 104 "SplitKernel$Channel" "link" "LSplitKernel$Link;" "SplitKernel",
  .fieldLinkNest "SplitKernel" 185 "SplitKernel$Channel" "link" "LSplitKernel$Link;" "SplitKernel",
  .fieldLinkNest "SplitKernel" 199 "SplitKernel$Channel" "toTake" "LSplitKernel$Messages;" "SplitKernel",
  .fieldLinkNest "SplitKernel$Machine" 225 "SplitKernel$Channel" "toTake" "LSplitKernel$Messages;" "SplitKernel",
  .fieldLinkNest "SplitKernel$Machine" 212 "SplitKernel$Channel" "waiting" "LSplitKernel$Messages;" "SplitKernel",
  .fieldLinkNest "SplitKernel" 208 "SplitKernel$Channel" "waiting" "LSplitKernel$Messages;" "SplitKernel",
  .fieldLinkNest "SplitKernel$Machine" 113 "SplitKernel$Channel" "sentInSlot" "I" "SplitKernel",
  .fieldLinkNest "SplitKernel" 211 "SplitKernel$Channel" "lost" "I" "SplitKernel",
  .fieldLinkNest "SplitKernel$Machine" 237 "SplitKernel$Channel" "shown" "[I" "SplitKernel",
  .fieldLinkNest "SplitKernel" 214 "SplitKernel$Channel" "writes" "I" "SplitKernel",
  .fieldLinkNest "SplitKernel$Machine" 246 "SplitKernel$Channel" "writes" "I" "SplitKernel",
  .fieldLinkNest "SplitKernel$Machine" 249 "SplitKernel$Channel" "writtenAt" "I" "SplitKernel",
  .fieldLinkNest "SplitKernel$Machine" 98 "SplitKernel$Clock" "time" "I" "SplitKernel",
  .fieldLinkNest "SplitKernel" 132 "SplitKernel$Clock" "time" "I" "SplitKernel",
  .fieldLinkNest "SplitKernel" 223 "SplitKernel$Clock" "schedule" "I" "SplitKernel",
  .fieldLinkNest "SplitKernel" 220 "SplitKernel$Clock" "number" "I" "SplitKernel",
  .fieldLinkNest "SplitKernel$Machine" 186 "SplitKernel$Clock" "left" "I" "SplitKernel",
  .fieldLinkNest "SplitKernel" 226 "SplitKernel$Clock" "left" "I" "SplitKernel",
  .fieldLinkNest "SplitKernel" 228 "SplitKernel$Clock" "asked" "I" "SplitKernel",
  .fieldLinkNest "SplitKernel$Machine" 267 "SplitKernel$Clock" "asked" "I" "SplitKernel",
  .fieldLinkNest "SplitKernel$Purge" 74 "SplitKernel$Machine" "domains" "[LSplitKernel$Domain;" "SplitKernel",
  .fieldLinkNest "SplitKernel" 122 "SplitKernel$Machine" "domains" "[LSplitKernel$Domain;" "SplitKernel",
  .fieldLinkNest "SplitKernel" 75 "SplitKernel$Machine" "channels" "[LSplitKernel$Channel;" "SplitKernel",
  .fieldLinkNest "SplitKernel" 109 "SplitKernel$Machine" "clock" "LSplitKernel$Clock;" "SplitKernel",
  .fieldLinkNest "SplitKernel$Purge" 45 "SplitKernel$Actions" "domains" "LSplitKernel$Row;" "SplitKernel",
  .fieldLinkNest "SplitKernel" 234 "SplitKernel$Actions" "domains" "LSplitKernel$Row;" "SplitKernel",
  .fieldLinkNest "SplitKernel$Purge" 71 "SplitKernel$Actions" "inputMarks" "LSplitKernel$Row;" "SplitKernel",
  .fieldLinkNest "SplitKernel" 236 "SplitKernel$Actions" "inputMarks" "LSplitKernel$Row;" "SplitKernel",
  .fieldLinkNest "SplitKernel$Purge" 64 "SplitKernel$Actions" "times" "LSplitKernel$Row;" "SplitKernel",
  .fieldLinkNest "SplitKernel" 239 "SplitKernel$Actions" "times" "LSplitKernel$Row;" "SplitKernel",
  .fieldLinkNest "SplitKernel$Purge" 82 "SplitKernel$Actions" "values" "LSplitKernel$Row;" "SplitKernel",
  .fieldLinkNest "SplitKernel" 242 "SplitKernel$Actions" "values" "LSplitKernel$Row;" "SplitKernel",
  .fieldLinkNest "SplitKernel$Plan" 46 "SplitKernel$Link" "from" "I" "SplitKernel",
  .fieldLinkNest "SplitKernel$Machine" 108 "SplitKernel$Link" "from" "I" "SplitKernel",
  .fieldLinkNest "SplitKernel" 189 "SplitKernel$Link" "from" "I" "SplitKernel",
  .fieldLinkNest "SplitKernel$Plan" 49 "SplitKernel$Link" "to" "I" "SplitKernel",
  .fieldLinkNest "SplitKernel$Machine" 116 "SplitKernel$Link" "to" "I" "SplitKernel",
  .fieldLinkNest "SplitKernel" 192 "SplitKernel$Link" "to" "I" "SplitKernel",
  .fieldLinkNest "SplitKernel$Channel" 15 "SplitKernel$Link" "isBoard" "Z" "SplitKernel",
  .fieldLinkNest "SplitKernel$Machine" 189 "SplitKernel$Link" "isBoard" "Z" "SplitKernel",
  .fieldLinkNest "SplitKernel" 195 "SplitKernel$Link" "isBoard" "Z" "SplitKernel",
  .fieldLinkNest "SplitKernel$Channel" 21 "SplitKernel$Link" "size" "I" "SplitKernel",
  .fieldLinkNest "SplitKernel$Machine" 208 "SplitKernel$Link" "size" "I" "SplitKernel",
  .fieldLinkNest "SplitKernel" 198 "SplitKernel$Link" "size" "I" "SplitKernel",
  .fieldLinkNest "SplitKernel" 269 "SplitKernel$Purge" "machine" "LSplitKernel$Machine;" "SplitKernel",
  .fieldLinkNest "SplitKernel" 265 "SplitKernel$Purge" "isKept" "[Z" "SplitKernel",
  .fieldLinkNest "SplitKernel" 262 "SplitKernel$Purge" "actionCount" "I" "SplitKernel",
  .fieldLinkNest "SplitKernel" 259 "SplitKernel$Purge" "keptCount" "I" "SplitKernel",
  .methodLinkNest "SplitKernel$Machine" 137 ⟨"SplitKernel", "operation", "(I)I"⟩ "SplitKernel",
  .methodLinkNest "SplitKernel$Domain" 62 ⟨"SplitKernel", "partA", "(I)I"⟩ "SplitKernel",
  .methodLinkNest "SplitKernel$Domain" 66 ⟨"SplitKernel", "partB", "(I)I"⟩ "SplitKernel",
  .methodLinkNest "SplitKernel$Domain" 72 ⟨"SplitKernel", "operation", "(I)I"⟩ "SplitKernel",
  .methodLinkNest "SplitKernel$Domain" 95 ⟨"SplitKernel", "partC", "(I)I"⟩ "SplitKernel",
  .methodLinkNest "SplitKernel$Machine" 161 ⟨"SplitKernel", "partA", "(I)I"⟩ "SplitKernel",
  .methodLinkNest "SplitKernel$Machine" 196 ⟨"SplitKernel", "partB", "(I)I"⟩ "SplitKernel",
  .methodLinkNest "SplitKernel$Machine" 202 ⟨"SplitKernel", "partC", "(I)I"⟩ "SplitKernel",
  .methodLinkNest "SplitKernel$Machine" 261 ⟨"SplitKernel", "isSchedule", "(I)Z"⟩ "SplitKernel"]
def mo_isN (w : Cond) : Bool := match w with
  | .fieldLinkNest _ _ _ _ _ _ => true
  | .methodLinkNest _ _ _ _ => true
  | _ => false
theorem mo_Ns_ok : mo_Ns.all mo_isN = true := by decide +kernel
def mo_v (dA : Nat → ClassId) (e : mo_E) : va_E := match e with
  | .inl q => .inl (dA q.1, q.2)
  | .inr o => .inr o
def mo_R (D : va_G) (dA : Nat → ClassId) (b0 : Nat) (h : mo_H) (H : Heap) : Prop := H.size = h.2.1 ∧ b0 ≤ h.2.1 ∧ ∀ a e, h.1 a = some e → b0 ≤ a ∧ va_at D vwCl (a, mo_v dA e) H
theorem mo_R.up {D : va_G} {dA : Nat → ClassId} {b0 a : Nat} {h : mo_H} {H H1 : Heap} {e0 e : mo_E} (hR : mo_R D dA b0 h H) (ha : h.1 a = some e0) (e1 : va_at D vwCl (a, mo_v dA e) H1) (z : H1.size = H.size) (oq : ∀ q : Nat, q ≠ a → H1[q]? = H[q]?) : mo_R D dA b0 (mo_up h a e) H1 := by
  refine ⟨by rw [z]; exact hR.1, hR.2.1, fun q c hq => ?_⟩
  by_cases hqa : q = a
  · subst hqa
    have h3 : (if q = q then some e else h.1 q) = some c := hq
    rw [if_pos rfl] at h3
    cases h3
    exact ⟨(hR.2.2 q e0 ha).1, e1⟩
  · have h3 : (if q = a then some e else h.1 q) = some c := hq
    rw [if_neg hqa] at h3
    obtain ⟨g1, g2⟩ := hR.2.2 q c h3
    exact ⟨g1, g2.kept (oq q hqa)⟩
theorem mo_R.lt {D : va_G} {dA : Nat → ClassId} {b0 a : Nat} {h : mo_H} {H : Heap} {e : mo_E} (hR : mo_R D dA b0 h H) (ha : h.1 a = some e) : a < H.size := ((hR.2.2 a e ha).2).lt
theorem mo_R.nw {D : va_G} {dA : Nat → ClassId} {b0 n : Nat} {h : mo_H} {H H1 : Heap} {e : mo_E} (hR : mo_R D dA b0 h H) (e1 : va_at D vwCl (H.size, mo_v dA e) H1) (z : H1.size = H.size + 1) (oq : ∀ q : Nat, q < H.size → H1[q]? = H[q]?) : mo_R D dA b0 (mo_nw h e n) H1 := by
  refine ⟨by rw [z, hR.1]; rfl, Nat.le_succ_of_le hR.2.1, fun q c hq => ?_⟩
  have h3 : (if q = h.2.1 then some e else h.1 q) = some c := hq
  by_cases hqa : q = h.2.1
  · rw [if_pos hqa] at h3
    cases h3
    rw [hqa, ← hR.1]
    exact ⟨by rw [hR.1]; exact hR.2.1, e1⟩
  · rw [if_neg hqa] at h3
    obtain ⟨g1, g2⟩ := hR.2.2 q c h3
    exact ⟨g1, g2.kept (oq q g2.lt)⟩
abbrev mo_T (dA : Nat → ClassId) : List (ClassId × FieldType) := [(dA 0, .int), (dA 1, .boolean), (dA 2, .object RX9), (dA 3, .object RX4), (dA 4, .object RX3), (dA 5, .object RX1)]
def mo_K (D : va_G) (dA : Nat → ClassId) (U : State) : Prop := va_K D vwCl (mo_T dA) U ∧ (∀ w ∈ mo_Ns, va_Nw w U) ∧ va_AO RX9 U ∧ va_AO RX4 U ∧ va_AO RX3 U ∧ va_AO RX1 U ∧ ∀ w ∈ wsL_law, w.before #[] U = true
theorem mo_K.words {D : va_G} {dA : Nat → ClassId} {s : State} (h : mo_K D dA s) (args : Array Value) : ∀ w ∈ wsL_law, w.before args s = true := fun w hw => word_at (State.WarmedH.refl s) (tb_gd hw) (h.2.2.2.2.2.2 w hw)
theorem mo_K.warm {D : va_G} {dA : Nat → ClassId} {s U : State} (hW : s.WarmedH U.vm) (h : mo_K D dA s) : mo_K D dA U := by
  obtain ⟨h1, h2, h3, h4, h5, h6, h7⟩ := h
  refine ⟨h1.moved hW.alike, fun w hw => ?_, h3.moved hW.alike, h4.moved hW.alike, h5.moved hW.alike, h6.moved hW.alike, fun w hw => word_at hW (tb_gd hw) (h7 w hw)⟩
  have hn := List.all_eq_true.mp mo_Ns_ok w hw
  have hz := h2 w hw
  unfold mo_isN at hn
  split at hn
  · exact va_Nw.warmF hW hz
  · exact va_Nw.warmM hW hz
  · cases hn
theorem mo_K.calling {D : va_G} {dA : Nat → ClassId} {U : State} {g : JFrame} {mk : MethodId} {a : Array Value} (h : mo_K D dA U) : mo_K D dA (U.calling g mk a) := by
  obtain ⟨h1, h2, h3, h4, h5, h6, h7⟩ := h
  have ha : U.vm.Alike (U.calling g mk a).vm := Vm.Alike.refl U.vm
  refine ⟨va_K.moved ha h1, fun w hw => ?_, h3.moved ha, h4.moved ha, h5.moved ha, h6.moved ha, fun w hw => word_at (show U.WarmedH (U.calling g mk a).vm from State.WarmedH.refl U) (tb_gd hw) (h7 w hw)⟩
  have hn := List.all_eq_true.mp mo_Ns_ok w hw
  have hz := h2 w hw
  unfold mo_isN at hn
  split at hn
  · exact va_Nw.same rfl (rfl : U.vm = (U.calling g mk a).vm) hz
  · exact va_Nw.same rfl (rfl : U.vm = (U.calling g mk a).vm) hz
  · cases hn
/-- a method's start: the arguments, the heap as h tells it, the tables -/
def mo_P (D : va_G) (dA : Nat → ClassId) (b0 : Nat) (h : mo_H) (av : List Value) : Array Value → State → Prop := fun v U => v = av.toArray ∧ mo_R D dA b0 h U.heap ∧ mo_K D dA U
/-- a method's end: the answer, the heap as h tells it, nothing below b0 written -/
def mo_Q (D : va_G) (dA : Nat → ClassId) (b0 : Nat) (h : mo_H) (r : Option Value) : Array Value → State → Outcome → State → Prop := fun _ st o t => o = .returned r ∧ mo_R D dA b0 h t.heap ∧ va_F (fun q => b0 ≤ q) st t
theorem mo_blind {D : va_G} {dA : Nat → ClassId} {b0 : Nat} {h : mo_H} {av : List Value} : FrameBlind (mo_P D dA b0 h av) := fun a U g mk q => ⟨q.1, q.2.1, mo_K.calling q.2.2⟩
/-- what is fixed while a method runs -/
def mo_C (p : Program) (R : Room) (s : State) (m : MethodId) (args : Array Value) (c : Code) (cc : ByteArray) (own : String) (Ts : List Cond) (D : va_G) (dA : Nat → ClassId) (b0 : Nat) (h0 h2 : mo_H) : Prop :=
  p.tables.exec = Jvm.exec ∧ c.code = cc ∧ s.vm.findClass own = some m.cls ∧ (∀ w ∈ Ts, w.before args s = true) ∧ mo_K D dA s ∧ (h2.2.1 - h0.2.1 ≤ R.cells ∧ h2.2.2 - h0.2.2 ≤ R.slots) ∧ b0 ≤ s.heap.size
/-- where a method stands: the heap as h tells it -/
def mo_A (D : va_G) (dA : Nat → ClassId) (b0 : Nat) (H0 : Heap) (h0 h : mo_H) (H : Heap) (locs : List Loc) : Prop := mo_R D dA b0 h H ∧ va_S (fun q => b0 ≤ q) H0 H locs ∧ mo_le h0 h
theorem mo_P1 {D : va_G} {dA : Nat → ClassId} {b0 a : Nat} {h : mo_H} {H : Heap} {e : mo_E} (hR : mo_R D dA b0 h H) (ha : h.1 a = some e) : va_P D vwCl [(a, mo_v dA e)] H := by
  intro k q hk
  have hz : k < 1 := (List.getElem?_eq_some_iff.mp hk).1
  rw [show k = 0 by omega] at hk
  cases hk
  exact (hR.2.2 a e ha).2
section MW
variable {p : Program} {l : Launch} {e : Env} {R : Room} {s : State} {m : MethodId} {args : Array Value} {below : List Frame} {meth : Method} {c : Code} {H : Heap} {locs : List Loc} {cells slots : Nat} {Q : State → Prop}
variable {cc : ByteArray} {pc : Nat} {ls : Array Slot} {rest : List Value} {own : String} {Ts : List Cond} {D : va_G} {dA : Nat → ClassId} {b0 : Nat} {h0 h2 h : mo_H} {β : Type} {z : β} {a : Nat}
theorem mo_wI (C : mo_C p R s m args c cc own Ts D dA b0 h0 h2) (A : mo_A D dA b0 s.heap h0 h H locs) {ref Cn : String} {T : u_T} {N ci index : Nat} (hin : ∀ w ∈ u_ws Cn T N, w ∈ Ts) (hc : vwCl[ci]? = some (Cn, T, N)) (k : Nat) (hk : k < N) (hlink : Cond.fieldLink own index ref (T k).2.1 (T k).2.2.1 ∈ Ts) (hsame : (T k).1 = ref) (hdg : decode cc pc = .ok (.getfield index, 3)) {K : Int32 → mo_M β} {zz : β × mo_H} (hF : (mo_b (mo_gI a ci k) K).1 h = some zz)
    (kk : ∀ x : Int32, (K x).1 h = some zz → W p l e R s m args below meth c H locs cells slots Q (F0 m (pc + 3) ls (.int x :: rest))) : W p l e R s m args below meth c H locs cells slots Q (F0 m pc ls (.ref a :: rest)) := by
  obtain ⟨fs, x, e1, e2, e3⟩ := mo_gIE hF
  obtain ⟨hx, hb, hown, hts, hK, -, -⟩ := C
  exact va_get hx hb hts hin hown hK.1 (mo_P1 A.1 e1) 0 rfl hc k hk (hts _ hlink) (fun y hy => by rw [← hsame]; exact hy) e2 hdg (kk x e3)
theorem mo_wIN (C : mo_C p R s m args c cc own Ts D dA b0 h0 h2) (A : mo_A D dA b0 s.heap h0 h H locs) {ref Cn host : String} {T : u_T} {N ci index : Nat} (hin : ∀ w ∈ u_ws Cn T N, w ∈ Ts) (hc : vwCl[ci]? = some (Cn, T, N)) (k : Nat) (hk : k < N) (hlink : Cond.fieldLinkNest own index ref (T k).2.1 (T k).2.2.1 host ∈ mo_Ns) (hsame : (T k).1 = ref) (hdg : decode cc pc = .ok (.getfield index, 3)) {K : Int32 → mo_M β} {zz : β × mo_H} (hF : (mo_b (mo_gI a ci k) K).1 h = some zz)
    (kk : ∀ x : Int32, (K x).1 h = some zz → W p l e R s m args below meth c H locs cells slots Q (F0 m (pc + 3) ls (.int x :: rest))) : W p l e R s m args below meth c H locs cells slots Q (F0 m pc ls (.ref a :: rest)) := by
  obtain ⟨fs, x, e1, e2, e3⟩ := mo_gIE hF
  obtain ⟨hx, hb, hown, hts, hK, -, -⟩ := C
  exact va_getN hx hb hts hin hown hK.1 (mo_P1 A.1 e1) 0 rfl hc k hk (va_Nw.use rfl (hK.2.1 _ hlink)) (fun y hy => by rw [← hsame]; exact hy) e2 hdg (kk x e3)
theorem mo_wR (C : mo_C p R s m args c cc own Ts D dA b0 h0 h2) (A : mo_A D dA b0 s.heap h0 h H locs) {ref Cn : String} {T : u_T} {N ci index : Nat} (hin : ∀ w ∈ u_ws Cn T N, w ∈ Ts) (hc : vwCl[ci]? = some (Cn, T, N)) (k : Nat) (hk : k < N) (hlink : Cond.fieldLink own index ref (T k).2.1 (T k).2.2.1 ∈ Ts) (hsame : (T k).1 = ref) (hdg : decode cc pc = .ok (.getfield index, 3)) {K : Nat → mo_M β} {zz : β × mo_H} (hF : (mo_b (mo_gR a ci k) K).1 h = some zz)
    (kk : ∀ x : Nat, (K x).1 h = some zz → W p l e R s m args below meth c H locs cells slots Q (F0 m (pc + 3) ls (.ref x :: rest))) : W p l e R s m args below meth c H locs cells slots Q (F0 m pc ls (.ref a :: rest)) := by
  obtain ⟨fs, x, e1, e2, e3⟩ := mo_gRE hF
  obtain ⟨hx, hb, hown, hts, hK, -, -⟩ := C
  exact va_get hx hb hts hin hown hK.1 (mo_P1 A.1 e1) 0 rfl hc k hk (hts _ hlink) (fun y hy => by rw [← hsame]; exact hy) e2 hdg (kk x e3)
theorem mo_wRN (C : mo_C p R s m args c cc own Ts D dA b0 h0 h2) (A : mo_A D dA b0 s.heap h0 h H locs) {ref Cn host : String} {T : u_T} {N ci index : Nat} (hin : ∀ w ∈ u_ws Cn T N, w ∈ Ts) (hc : vwCl[ci]? = some (Cn, T, N)) (k : Nat) (hk : k < N) (hlink : Cond.fieldLinkNest own index ref (T k).2.1 (T k).2.2.1 host ∈ mo_Ns) (hsame : (T k).1 = ref) (hdg : decode cc pc = .ok (.getfield index, 3)) {K : Nat → mo_M β} {zz : β × mo_H} (hF : (mo_b (mo_gR a ci k) K).1 h = some zz)
    (kk : ∀ x : Nat, (K x).1 h = some zz → W p l e R s m args below meth c H locs cells slots Q (F0 m (pc + 3) ls (.ref x :: rest))) : W p l e R s m args below meth c H locs cells slots Q (F0 m pc ls (.ref a :: rest)) := by
  obtain ⟨fs, x, e1, e2, e3⟩ := mo_gRE hF
  obtain ⟨hx, hb, hown, hts, hK, -, -⟩ := C
  exact va_getN hx hb hts hin hown hK.1 (mo_P1 A.1 e1) 0 rfl hc k hk (va_Nw.use rfl (hK.2.1 _ hlink)) (fun y hy => by rw [← hsame]; exact hy) e2 hdg (kk x e3)
theorem mo_wO (C : mo_C p R s m args c cc own Ts D dA b0 h0 h2) (A : mo_A D dA b0 s.heap h0 h H locs) {ref Cn : String} {T : u_T} {N ci index : Nat} (hin : ∀ w ∈ u_ws Cn T N, w ∈ Ts) (hc : vwCl[ci]? = some (Cn, T, N)) (k : Nat) (hk : k < N) (hlink : Cond.fieldLink own index ref (T k).2.1 (T k).2.2.1 ∈ Ts) (hsame : (T k).1 = ref) (hdg : decode cc pc = .ok (.getfield index, 3)) {K : Option Nat → mo_M β} {zz : β × mo_H} (hF : (mo_b (mo_gO a ci k) K).1 h = some zz)
    (kk : ∀ x : Option Nat, (K x).1 h = some zz → W p l e R s m args below meth c H locs cells slots Q (F0 m (pc + 3) ls (va_rf x :: rest))) : W p l e R s m args below meth c H locs cells slots Q (F0 m pc ls (.ref a :: rest)) := by
  obtain ⟨fs, x, e1, e2, e3⟩ := mo_gOE hF
  obtain ⟨hx, hb, hown, hts, hK, -, -⟩ := C
  exact va_get hx hb hts hin hown hK.1 (mo_P1 A.1 e1) 0 rfl hc k hk (hts _ hlink) (fun y hy => by rw [← hsame]; exact hy) e2 hdg (kk x e3)
theorem mo_wpV (C : mo_C p R s m args c cc own Ts D dA b0 h0 h2) (A : mo_A D dA b0 s.heap h0 h H locs) {ref Cn : String} {T : u_T} {N ci index : Nat} (hin : ∀ w ∈ u_ws Cn T N, w ∈ Ts) (ty0 : Nat → FieldType) (hty : ∀ k, k < N → parseFieldDescriptor (T k).2.2.1 = some (ty0 k)) (hnm : ∀ a, a < N → ∀ b, b < N → a ≠ b → (T a).2.1 ≠ (T b).2.1) (hc : vwCl[ci]? = some (Cn, T, N)) (k : Nat) (hk : k < N) (hlink : Cond.fieldLink own index ref (T k).2.1 (T k).2.2.1 ∈ Ts) (hsame : (T k).1 = ref) (hfin : (T k).2.2.2 = false) {v : Value} (hn : narrow (ty0 k) v = v) (hfit : fits (ty0 k) v = true) (hdg : decode cc pc = .ok (.putfield index, 3)) {K : Unit → mo_M β} {zz : β × mo_H} (hF : (mo_b (mo_pV a ci k v) K).1 h = some zz)
    (kk : ∀ (h' : mo_H) (H' : Heap) (locs' : List Loc), (K ()).1 h' = some zz → mo_A D dA b0 s.heap h0 h' H' locs' → W p l e R s m args below meth c H' locs' (h'.2.1 - h0.2.1) (h'.2.2 - h0.2.2) Q (F0 m (pc + 3) ls rest)) : W p l e R s m args below meth c H locs (h.2.1 - h0.2.1) (h.2.2 - h0.2.2) Q (F0 m pc ls (v :: .ref a :: rest)) := by
  obtain ⟨fs, eh, hl, e3⟩ := mo_pVE hF
  obtain ⟨hx, hb, hown, hts, hK, -, -⟩ := C
  have hap := va_apart (own := own) hts hin ty0 hty hnm hK.1 hc
  obtain ⟨r, h1, cell, q1, q2, q3, q4⟩ := (A.1.2.2 a _ eh).2
  have hr : r = (Cn, T, N) := Option.some.inj (h1.symm.trans hc)
  subst hr
  obtain ⟨hS, hfc, kC, hkC, hkind⟩ := hK.1.1 ci _ hc
  obtain ⟨cf, kf, fi, f, hi, hsl⟩ := hS k hk
  have hlay := hts _ (hin _ (u_in_lay hk))
  unfold u_lay at hlay
  rw [if_neg (by rw [hfin]; decide)] at hlay
  have hst := (u_facts hfc hkC (u_lays hts hin hk) hi).1
  have h6 := u_store hfc hkC hkind hlay hi (hty k hk) hn hfit
  refine W.putK hx hb (f := f) ⟨hown, hts _ hlink, ⟨_, _, _, by rw [← hsame]; exact hi⟩, hst⟩ (by rw [q2]; exact h6) q1 q3 (by rw [hsl]; exact k2_hasslot (q4 k hk)) rfl rfl hdg fun H' e1 e2 e4 => ?_
  rw [hsl] at e1 ⊢
  have hat : va_at D vwCl (a, mo_v dA (.inr (ci, fs.set k v))) H' := ⟨_, hc, t_OB.to (V := updV (vp_V fs) k v) ⟨_, e1, q2, q3, t_set q4 hap hk v⟩ (fun j _ => vp_updV_set hl v j)⟩
  exact kk (mo_up h a (.inr (ci, fs.set k v))) H' _ e3 ⟨A.1.up eh hat e2 e4, A.2.1.put e2 e4 (A.1.2.2 a _ eh).1, A.2.2⟩
theorem mo_wpF (C : mo_C p R s m args c cc own Ts D dA b0 h0 h2) (A : mo_A D dA b0 s.heap h0 h H locs) {ref Cn : String} {T : u_T} {N ci index : Nat} (hin : ∀ w ∈ u_ws Cn T N, w ∈ Ts) (ty0 : Nat → FieldType) (hty : ∀ k, k < N → parseFieldDescriptor (T k).2.2.1 = some (ty0 k)) (hnm : ∀ a, a < N → ∀ b, b < N → a ≠ b → (T a).2.1 ≠ (T b).2.1) (hc : vwCl[ci]? = some (Cn, T, N)) (k : Nat) (hk : k < N) (hlink : Cond.fieldLink own index ref (T k).2.1 (T k).2.2.1 ∈ Ts) (hsame : (T k).1 = ref) (hfin : (T k).2.2.2 = true) (hin2 : meth.name = "<init>") (hdecl : (T k).1 = own) {v : Value} (hn : narrow (ty0 k) v = v) (hfit : fits (ty0 k) v = true) (hdg : decode cc pc = .ok (.putfield index, 3)) {K : Unit → mo_M β} {zz : β × mo_H} (hF : (mo_b (mo_pV a ci k v) K).1 h = some zz)
    (kk : ∀ (h' : mo_H) (H' : Heap) (locs' : List Loc), (K ()).1 h' = some zz → mo_A D dA b0 s.heap h0 h' H' locs' → W p l e R s m args below meth c H' locs' (h'.2.1 - h0.2.1) (h'.2.2 - h0.2.2) Q (F0 m (pc + 3) ls rest)) : W p l e R s m args below meth c H locs (h.2.1 - h0.2.1) (h.2.2 - h0.2.2) Q (F0 m pc ls (v :: .ref a :: rest)) := by
  obtain ⟨fs, eh, hl, e3⟩ := mo_pVE hF
  obtain ⟨hx, hb, hown, hts, hK, -, -⟩ := C
  have hap := va_apart (own := own) hts hin ty0 hty hnm hK.1 hc
  obtain ⟨r, h1, cell, q1, q2, q3, q4⟩ := (A.1.2.2 a _ eh).2
  have hr : r = (Cn, T, N) := Option.some.inj (h1.symm.trans hc)
  subst hr
  obtain ⟨hS, hfc, kC, hkC, hkind⟩ := hK.1.1 ci _ hc
  obtain ⟨cf, kf, fi, f, hi, hsl⟩ := hS k hk
  have hlay := hts _ (hin _ (u_in_lay hk))
  unfold u_lay at hlay
  rw [if_pos hfin] at hlay
  have hst := (u_facts hfc hkC (u_lays hts hin hk) hi).1
  have hcf : m.cls = cf := by
    obtain ⟨_, _, c', _, _, _, -, -, hf', -, -, -, hown2, -⟩ := Cond.laysFinal_spec hlay
    have e1 : c' = cf := by have := hi.symm.trans hf'; simp at this; exact this.1.symm
    rw [hdecl] at hown2
    rw [← e1]; exact Option.some.inj (hown.symm.trans hown2)
  have h6 := u_fits hfc hkC hkind (Or.inr hlay) hi (hty k hk) hn hfit
  refine W.putFinK hx hb hown (hts _ hlink) (by rw [← hsame]; exact hi) hst hcf hin2 (by rw [q2]; exact h6) q1 q3 (by rw [hsl]; exact k2_hasslot (q4 k hk)) rfl rfl hdg fun H' e1 e2 e4 => ?_
  rw [hsl] at e1 ⊢
  have hat : va_at D vwCl (a, mo_v dA (.inr (ci, fs.set k v))) H' := ⟨_, hc, t_OB.to (V := updV (vp_V fs) k v) ⟨_, e1, q2, q3, t_set q4 hap hk v⟩ (fun j _ => vp_updV_set hl v j)⟩
  exact kk (mo_up h a (.inr (ci, fs.set k v))) H' _ e3 ⟨A.1.up eh hat e2 e4, A.2.1.put e2 e4 (A.1.2.2 a _ eh).1, A.2.2⟩
theorem mo_wpN (C : mo_C p R s m args c cc own Ts D dA b0 h0 h2) (A : mo_A D dA b0 s.heap h0 h H locs) {ref Cn host : String} {T : u_T} {N ci index : Nat} (hin : ∀ w ∈ u_ws Cn T N, w ∈ Ts) (ty0 : Nat → FieldType) (hty : ∀ k, k < N → parseFieldDescriptor (T k).2.2.1 = some (ty0 k)) (hnm : ∀ a, a < N → ∀ b, b < N → a ≠ b → (T a).2.1 ≠ (T b).2.1) (hc : vwCl[ci]? = some (Cn, T, N)) (k : Nat) (hk : k < N) (hlink : Cond.fieldLinkNest own index ref (T k).2.1 (T k).2.2.1 host ∈ mo_Ns) (hsame : (T k).1 = ref) (hfin : (T k).2.2.2 = false) {v : Value} (hn : narrow (ty0 k) v = v) (hfit : fits (ty0 k) v = true) (hdg : decode cc pc = .ok (.putfield index, 3)) {K : Unit → mo_M β} {zz : β × mo_H} (hF : (mo_b (mo_pV a ci k v) K).1 h = some zz)
    (kk : ∀ (h' : mo_H) (H' : Heap) (locs' : List Loc), (K ()).1 h' = some zz → mo_A D dA b0 s.heap h0 h' H' locs' → W p l e R s m args below meth c H' locs' (h'.2.1 - h0.2.1) (h'.2.2 - h0.2.2) Q (F0 m (pc + 3) ls rest)) : W p l e R s m args below meth c H locs (h.2.1 - h0.2.1) (h.2.2 - h0.2.2) Q (F0 m pc ls (v :: .ref a :: rest)) := by
  obtain ⟨fs, eh, hl, e3⟩ := mo_pVE hF
  obtain ⟨hx, hb, hown, hts, hK, -, -⟩ := C
  have hap := va_apart (own := own) hts hin ty0 hty hnm hK.1 hc
  obtain ⟨r, h1, cell, q1, q2, q3, q4⟩ := (A.1.2.2 a _ eh).2
  have hr : r = (Cn, T, N) := Option.some.inj (h1.symm.trans hc)
  subst hr
  obtain ⟨hS, hfc, kC, hkC, hkind⟩ := hK.1.1 ci _ hc
  obtain ⟨cf, kf, fi, f, hi, hsl⟩ := hS k hk
  have hlay := hts _ (hin _ (u_in_lay hk))
  unfold u_lay at hlay
  rw [if_neg (by rw [hfin]; decide)] at hlay
  have hst := (u_facts hfc hkC (u_lays hts hin hk) hi).1
  have h6 := u_store hfc hkC hkind hlay hi (hty k hk) hn hfit
  refine va_WputK hx hb (f := f) hown (va_Nw.use rfl (hK.2.1 _ hlink)) (by rw [← hsame]; exact hi) hst (by rw [q2]; exact h6) q1 q3 (by rw [hsl]; exact k2_hasslot (q4 k hk)) rfl rfl hdg fun H' e1 e2 e4 => ?_
  rw [hsl] at e1 ⊢
  have hat : va_at D vwCl (a, mo_v dA (.inr (ci, fs.set k v))) H' := ⟨_, hc, t_OB.to (V := updV (vp_V fs) k v) ⟨_, e1, q2, q3, t_set q4 hap hk v⟩ (fun j _ => vp_updV_set hl v j)⟩
  exact kk (mo_up h a (.inr (ci, fs.set k v))) H' _ e3 ⟨A.1.up eh hat e2 e4, A.2.1.put e2 e4 (A.1.2.2 a _ eh).1, A.2.2⟩
theorem mo_wla (C : mo_C p R s m args c cc own Ts D dA b0 h0 h2) (A : mo_A D dA b0 s.heap h0 h H locs) {i : Int32} (hdg : decode cc pc = .ok (.iaload, 1)) {K : Int32 → mo_M β} {zz : β × mo_H} (hF : (mo_b (mo_la 0 a i) K).1 h = some zz)
    (kk : ∀ x : Int32, (K x).1 h = some zz → W p l e R s m args below meth c H locs cells slots Q (F0 m (pc + 1) ls (.int x :: rest))) : W p l e R s m args below meth c H locs cells slots Q (F0 m pc ls (.int i :: .ref a :: rest)) := by
  obtain ⟨n, f, e1, e2, e3⟩ := mo_laE hF
  obtain ⟨hx, hb, hown, hts, hK, -, -⟩ := C
  exact va_iald hx hb hK.1 (mo_P1 A.1 e1) 0 0 rfl rfl e2 hdg (kk _ e3)
theorem mo_wlz (C : mo_C p R s m args c cc own Ts D dA b0 h0 h2) (A : mo_A D dA b0 s.heap h0 h H locs) {i : Int32} (hdg : decode cc pc = .ok (.baload, 1)) {K : Int32 → mo_M β} {zz : β × mo_H} (hF : (mo_b (mo_la 1 a i) K).1 h = some zz)
    (kk : ∀ x : Int32, (K x).1 h = some zz → W p l e R s m args below meth c H locs cells slots Q (F0 m (pc + 1) ls (.int x :: rest))) : W p l e R s m args below meth c H locs cells slots Q (F0 m pc ls (.int i :: .ref a :: rest)) := by
  obtain ⟨n, f, e1, e2, e3⟩ := mo_laE hF
  obtain ⟨hx, hb, hown, hts, hK, -, -⟩ := C
  exact va_zald hx hb hK.1 (mo_P1 A.1 e1) 0 1 rfl rfl e2 hdg (kk _ e3)
theorem mo_wlq (C : mo_C p R s m args c cc own Ts D dA b0 h0 h2) (A : mo_A D dA b0 s.heap h0 h H locs) {t : Nat} {Cn : String} (ht : ∀ dA : Nat → ClassId, (mo_T dA)[t]? = some (dA t, .object Cn)) {i : Int32} (hdg : decode cc pc = .ok (.aaload, 1)) {K : Nat → mo_M β} {zz : β × mo_H} (hF : (mo_b (mo_lq t a i) K).1 h = some zz)
    (kk : ∀ x : Nat, (K x).1 h = some zz → W p l e R s m args below meth c H locs cells slots Q (F0 m (pc + 1) ls (.ref x :: rest))) : W p l e R s m args below meth c H locs cells slots Q (F0 m pc ls (.int i :: .ref a :: rest)) := by
  obtain ⟨n, f, x, e1, e2, e4, e3⟩ := mo_lqE hF
  obtain ⟨hx, hb, hown, hts, hK, -, -⟩ := C
  refine va_aldq hx hb hK.1 (mo_P1 A.1 e1) 0 t rfl (ht dA) e2 hdg ?_
  rw [e4]
  exact kk _ e3
theorem mo_wln (C : mo_C p R s m args c cc own Ts D dA b0 h0 h2) (A : mo_A D dA b0 s.heap h0 h H locs) (hdg : decode cc pc = .ok (.arraylength, 1)) {K : Int32 → mo_M β} {zz : β × mo_H} (hF : (mo_b (mo_ln a) K).1 h = some zz)
    (kk : ∀ x : Int32, (K x).1 h = some zz → W p l e R s m args below meth c H locs cells slots Q (F0 m (pc + 1) ls (.int x :: rest))) : W p l e R s m args below meth c H locs cells slots Q (F0 m pc ls (.ref a :: rest)) := by
  obtain ⟨t, x, e1, e2, e3⟩ := mo_lnE hF
  obtain ⟨hx, hb, hown, hts, hK, -, -⟩ := C
  have ht : ∃ ty, (mo_T dA)[t]? = some (dA t, ty) := by
    match t, e2 with
    | 0, _ => exact ⟨_, rfl⟩
    | 1, _ => exact ⟨_, rfl⟩
    | 2, _ => exact ⟨_, rfl⟩
    | 3, _ => exact ⟨_, rfl⟩
    | 4, _ => exact ⟨_, rfl⟩
    | 5, _ => exact ⟨_, rfl⟩
    | n + 6, h => exact absurd h (by omega)
  obtain ⟨ty, ht⟩ := ht
  exact va_alen hx hb hK.1 (mo_P1 A.1 e1) 0 t rfl ht rfl hdg (kk _ e3)
theorem mo_wsa (C : mo_C p R s m args c cc own Ts D dA b0 h0 h2) (A : mo_A D dA b0 s.heap h0 h H locs) {i x : Int32} (hdg : decode cc pc = .ok (.iastore, 1)) {K : Unit → mo_M β} {zz : β × mo_H} (hF : (mo_b (mo_sa 0 a i x) K).1 h = some zz)
    (kk : ∀ (h' : mo_H) (H' : Heap) (locs' : List Loc), (K ()).1 h' = some zz → mo_A D dA b0 s.heap h0 h' H' locs' → W p l e R s m args below meth c H' locs' (h'.2.1 - h0.2.1) (h'.2.2 - h0.2.2) Q (F0 m (pc + 1) ls rest)) : W p l e R s m args below meth c H locs (h.2.1 - h0.2.1) (h.2.2 - h0.2.2) Q (F0 m pc ls (.int x :: .int i :: .ref a :: rest)) := by
  obtain ⟨n, f, e1, e2, e3⟩ := mo_saE hF
  obtain ⟨hx, hb, hown, hts, hK, -, -⟩ := C
  refine W.iast hx hb (show H[a]? = some (vp_cell (dA 0) (n, .inl f)) from (A.1.2.2 a _ e1).2) ((hK.1.2 0 _ rfl).1 n (fun j => .int (f j))) (fun q => by cases q) (by show ¬ (i < 0 ∨ (arrV _ _ _).slots.size ≤ _); rw [arrV_size]; exact e2) rfl rfl hdg fun H1 e z oq => ?_
  have hat : va_at D vwCl (a, mo_v dA (.inl (0, n, .inl (upd f i.toNatClampNeg x)))) H1 := by
    show H1[a]? = some (vp_cell _ _)
    rw [e]
    rw [vp_cell_i, vp_cell_i, arrV_store]
    congr 2
    funext q
    by_cases hq : q = i.toNatClampNeg
    · subst hq
      simp [updV, upd]
    · simp [updV, upd, hq]
  exact kk (mo_up h a (.inl (0, n, .inl (upd f i.toNatClampNeg x)))) H1 _ e3 ⟨A.1.up e1 hat z oq, A.2.1.put z oq (A.1.2.2 a _ e1).1, A.2.2⟩
theorem mo_wsz (C : mo_C p R s m args c cc own Ts D dA b0 h0 h2) (A : mo_A D dA b0 s.heap h0 h H locs) {i x : Int32} (hdg : decode cc pc = .ok (.bastore, 1)) {K : Unit → mo_M β} {zz : β × mo_H} (hF : (mo_b (mo_sz a i x) K).1 h = some zz)
    (kk : ∀ (h' : mo_H) (H' : Heap) (locs' : List Loc), (K ()).1 h' = some zz → mo_A D dA b0 s.heap h0 h' H' locs' → W p l e R s m args below meth c H' locs' (h'.2.1 - h0.2.1) (h'.2.2 - h0.2.2) Q (F0 m (pc + 1) ls rest)) : W p l e R s m args below meth c H locs (h.2.1 - h0.2.1) (h.2.2 - h0.2.2) Q (F0 m pc ls (.int x :: .int i :: .ref a :: rest)) := by
  obtain ⟨hv, hF⟩ := mo_szE hF
  obtain ⟨n, f, e1, e2, e3⟩ := mo_saE hF
  obtain ⟨hx, hb, hown, hts, hK, -, -⟩ := C
  have hnar : narrow .boolean (.int x) = .int x := by rcases hv with rfl | rfl <;> rfl
  refine W.zast hx hb (show H[a]? = some (vp_cell (dA 1) (n, .inl f)) from (A.1.2.2 a _ e1).2) ((hK.1.2 1 _ rfl).1 n (fun j => .int (f j))) (fun q => by cases q) (by show ¬ (i < 0 ∨ (arrV _ _ _).slots.size ≤ _); rw [arrV_size]; exact e2) rfl rfl hdg fun H1 e z oq => ?_
  rw [hnar] at e
  have hat : va_at D vwCl (a, mo_v dA (.inl (1, n, .inl (upd f i.toNatClampNeg x)))) H1 := by
    show H1[a]? = some (vp_cell _ _)
    rw [e]
    rw [vp_cell_i, vp_cell_i, arrV_store]
    congr 2
    funext q
    by_cases hq : q = i.toNatClampNeg
    · subst hq
      simp [updV, upd]
    · simp [updV, upd, hq]
  exact kk (mo_up h a (.inl (1, n, .inl (upd f i.toNatClampNeg x)))) H1 _ e3 ⟨A.1.up e1 hat z oq, A.2.1.put z oq (A.1.2.2 a _ e1).1, A.2.2⟩
theorem mo_wsq (C : mo_C p R s m args c cc own Ts D dA b0 h0 h2) (A : mo_A D dA b0 s.heap h0 h H locs) {t ci v : Nat} {r : vw_C} (ht : ∀ dA : Nat → ClassId, (mo_T dA)[t]? = some (dA t, .object r.1)) (hc : vwCl[ci]? = some r) {i : Int32} (hdg : decode cc pc = .ok (.aastore, 1)) {K : Unit → mo_M β} {zz : β × mo_H} (hF : (mo_b (mo_sq t ci a i v) K).1 h = some zz)
    (kk : ∀ (h' : mo_H) (H' : Heap) (locs' : List Loc), (K ()).1 h' = some zz → mo_A D dA b0 s.heap h0 h' H' locs' → W p l e R s m args below meth c H' locs' (h'.2.1 - h0.2.1) (h'.2.2 - h0.2.2) Q (F0 m (pc + 1) ls rest)) : W p l e R s m args below meth c H locs (h.2.1 - h0.2.1) (h.2.2 - h0.2.2) Q (F0 m pc ls (.ref v :: .int i :: .ref a :: rest)) := by
  obtain ⟨vs, n, f, ev, e1, e2, e3⟩ := mo_sqE hF
  obtain ⟨hx, hb, hown, hts, hK, -, -⟩ := C
  have hlt : i.toNatClampNeg < n := Nat.not_le.mp fun q => e2 (Or.inr q)
  have hp0 : ¬ i < 0 := fun q => e2 (Or.inl q)
  obtain ⟨r', hr', cellV, g1, g2, g3, -⟩ := (A.1.2.2 v _ ev).2
  have hcls := (hK.1.1 ci r hc).2
  obtain ⟨kA, comp, k1, k2, k3, -⟩ := (hK.1.2 t _ (ht dA)).2
  have hcomp : comp = D.1 ci := Option.some.inj (k3.symm.trans hcls.1)
  subst hcomp
  obtain ⟨kC, hkC, -⟩ := hcls.2
  refine W.aast hx hb (show H[a]? = some (vp_cell (dA t) (n, .inr (.inr (.inr (.inr f))))) from (A.1.2.2 a _ e1).2) (fun q h => by cases h) (fun h => by cases h) k1 k2 rfl hkC ⟨hp0, by show _ < (arrV _ _ _).slots.size; rw [arrV_size]; exact hlt⟩ g1 (fun q h => by rw [g3] at h; cases h) (by rw [g2]; exact hkC) (by rw [g2]; exact va_assign hcls) rfl rfl hdg fun H1 e z oq => ?_
  have hat : va_at D vwCl (a, mo_v dA (.inl (t, n, .inr (.inr (.inr (.inr (va_up f i.toNatClampNeg (some v)))))))) H1 := by
    show H1[a]? = some (vp_cell _ _)
    rw [e]
    rw [vp_cell_q, vp_cell_q, arrV_store]
    congr 2
    funext q
    by_cases hq : q = i.toNatClampNeg
    · subst hq
      simp [updV, va_up, va_rf]
    · simp [updV, va_up, hq]
  exact kk (mo_up h a (.inl (t, n, .inr (.inr (.inr (.inr (va_up f i.toNatClampNeg (some v)))))))) H1 _ e3 ⟨A.1.up e1 hat z oq, A.2.1.put z oq (A.1.2.2 a _ e1).1, A.2.2⟩
theorem mo_room {x y n k j : Nat} (h1 : x ≤ y) (h2 : y + k ≤ n) (h3 : n - x ≤ j) : (y - x) + k ≤ j ∧ (y - x) + k = (y + k) - x := by omega
theorem mo_wna (C : mo_C p R s m args c cc own Ts D dA b0 h0 h2) (A : mo_A D dA b0 s.heap h0 h H locs) {n : Int32} {t : Nat} {atype : ArrayType} {ty : FieldType} (hty : newarray.typeOf atype = ty) (ht : ∀ dA : Nat → ClassId, (mo_T dA)[t]? = some (dA t, ty)) (hra : ∀ (U : State) (cA : ClassId), va_RA U cA ty → U.vm.findClass ("[" ++ ty.toString) = some cA) (hcb : componentBytes ty ≤ 4) (hdv : defaultValue ty = .int 0) (harr : Cond.arrayClass ty ∈ Ts) (hdg : decode cc pc = .ok (.newarray atype, 2)) {K : Nat → mo_M β} (hF : (mo_b (mo_na t n) K).1 h = some (z, h2))
    (kk : ∀ (q : Nat) (h' : mo_H) (H' : Heap), (K q).1 h' = some (z, h2) → mo_A D dA b0 s.heap h0 h' H' locs → W p l e R s m args below meth c H' locs (h'.2.1 - h0.2.1) (h'.2.2 - h0.2.2) Q (F0 m (pc + 2) ls (.ref q :: rest))) : W p l e R s m args below meth c H locs (h.2.1 - h0.2.1) (h.2.2 - h0.2.2) Q (F0 m pc ls (.int n :: rest)) := by
  obtain ⟨hn, hm, e3⟩ := mo_naE hF
  obtain ⟨hx, hb, hown, hts, hK, hrm, -⟩ := C
  subst hty
  have hle := (K h.2.1).2 _ _ _ e3
  obtain ⟨r1, r2⟩ := mo_room A.2.2.1 hle.1 hrm.1
  obtain ⟨r3, r4⟩ := mo_room A.2.2.2 hle.2 hrm.2
  refine va_newaK hx hb (hts _ harr) rfl hdg rfl hn rfl (Nat.le_trans (Nat.mul_le_mul hm hcb) (by decide)) r1 r3 rfl fun H1 cA e1 z1 o1 hAr hNm => ?_
  have hcA : cA = dA t := Option.some.inj (hNm.symm.trans (hra s _ (hK.1.2 t _ (ht dA)).2))
  subst hcA
  rw [hdv] at e1
  have hA1 : mo_A D dA b0 s.heap h0 (mo_nw h (.inl (t, n.toNatClampNeg, .inl (fun _ => 0))) n.toNatClampNeg) H1 locs := by
    refine ⟨A.1.nw (show H1[H.size]? = some (vp_cell (dA t) (n.toNatClampNeg, .inl (fun _ => 0))) from e1) z1 o1, ⟨Nat.le_trans A.2.1.1 (by omega), fun x h1 h2 => (o1 x (Nat.lt_of_lt_of_le h1 A.2.1.1)).trans (A.2.1.2.1 x h1 h2), A.2.1.2.2⟩, A.2.2.tr ⟨Nat.le_succ _, Nat.le_add_right _ _⟩⟩
  have hk := kk h.2.1 _ H1 e3 hA1
  rw [A.1.1]
  exact W.cs r2 r4 hk
theorem mo_wnq (C : mo_C p R s m args c cc own Ts D dA b0 h0 h2) (A : mo_A D dA b0 s.heap h0 h H locs) {n : Int32} {t index : Nat} {Cn : String} (ht : ∀ dA : Nat → ClassId, (mo_T dA)[t]? = some (dA t, .object Cn)) (hover : va_AO Cn s) (hclink : Cond.classLink own index Cn ∈ Ts) (hdg : decode cc pc = .ok (.anewarray index, 3)) {K : Nat → mo_M β} (hF : (mo_b (mo_nq t n) K).1 h = some (z, h2))
    (kk : ∀ (q : Nat) (h' : mo_H) (H' : Heap), (K q).1 h' = some (z, h2) → mo_A D dA b0 s.heap h0 h' H' locs → W p l e R s m args below meth c H' locs (h'.2.1 - h0.2.1) (h'.2.2 - h0.2.2) Q (F0 m (pc + 3) ls (.ref q :: rest))) : W p l e R s m args below meth c H locs (h.2.1 - h0.2.1) (h.2.2 - h0.2.2) Q (F0 m pc ls (.int n :: rest)) := by
  obtain ⟨hn, hm, e3⟩ := mo_nqE hF
  obtain ⟨hx, hb, hown, hts, hK, hrm, -⟩ := C
  have hle := (K h.2.1).2 _ _ _ e3
  obtain ⟨r1, r2⟩ := mo_room A.2.2.1 hle.1 hrm.1
  obtain ⟨r3, r4⟩ := mo_room A.2.2.2 hle.2 hrm.2
  refine W.anew hx hb hown (hts _ hclink) (va_AO.use hover) rfl hdg rfl hn (Nat.le_trans (Nat.mul_le_mul_right 4 hm) (by decide)) r1 r3 fun cA kA comp f1 f2 f3 f4 => ?_
  generalize hH1 : H.push ({ cls := cA, slots := Array.replicate n.toNatClampNeg .null, vm := .none } : Cell) = H1
  have z1 : H1.size = H.size + 1 := by rw [← hH1, Array.size_push]
  have e1 : H1[H.size]? = some (arrV cA n.toNatClampNeg (fun _ => .null)) := by rw [← hH1, Array.getElem?_push_size, ← arrV_new]
  have o1 : ∀ q : Nat, q < H.size → H1[q]? = H[q]? := fun q hq => by rw [← hH1, Array.getElem?_push, if_neg (Nat.ne_of_lt hq)]
  obtain ⟨kA', comp', k1, k2, k3, k4⟩ := (hK.1.2 t _ (ht dA)).2
  have hcA : cA = dA t := Option.some.inj (f1.symm.trans k4)
  subst hcA
  have hA1 : mo_A D dA b0 s.heap h0 (mo_nw h (.inl (t, n.toNatClampNeg, .inr (.inr (.inr (.inr (fun _ => none)))))) n.toNatClampNeg) H1 locs := by
    refine ⟨A.1.nw (show H1[H.size]? = some (vp_cell (dA t) (n.toNatClampNeg, .inr (.inr (.inr (.inr (fun _ => none)))))) from e1) z1 o1, ⟨Nat.le_trans A.2.1.1 (by omega), fun x h1 h2 => (o1 x (Nat.lt_of_lt_of_le h1 A.2.1.1)).trans (A.2.1.2.1 x h1 h2), A.2.1.2.2⟩, A.2.2.tr ⟨Nat.le_succ _, Nat.le_add_right _ _⟩⟩
  have hk := kk h.2.1 _ H1 e3 hA1
  rw [A.1.1]
  exact W.cs r2 r4 hk
theorem mo_wnc (C : mo_C p R s m args c cc own Ts D dA b0 h0 h2) (A : mo_A D dA b0 s.heap h0 h H locs) {Cn : String} {T : u_T} {N ci index : Nat} (hin : ∀ w ∈ u_ws Cn T N, w ∈ Ts) (ty : Nat → FieldType) (hty : ∀ k, k < N → parseFieldDescriptor (T k).2.2.1 = some (ty k)) (hc : vwCl[ci]? = some (Cn, T, N)) (hcl : Cond.classLink own index Cn ∈ Ts) (hinst : Cond.instantiable Cn N ∈ Ts) (hini : Cond.initialized Cn ∈ Ts) {fs : List Value} (hfs : ∀ j, j < N → defaultValue (ty j) = vp_V fs j) (hfl : fs.length = N) (hdg : decode cc pc = .ok (.new index, 3)) {K : Nat → mo_M β} (hF : (mo_b (mo_nc ci fs) K).1 h = some (z, h2))
    (kk : ∀ (q : Nat) (h' : mo_H) (H' : Heap), (K q).1 h' = some (z, h2) → mo_A D dA b0 s.heap h0 h' H' locs → W p l e R s m args below meth c H' locs (h'.2.1 - h0.2.1) (h'.2.2 - h0.2.2) Q (F0 m (pc + 3) ls (.ref q :: rest))) : W p l e R s m args below meth c H locs (h.2.1 - h0.2.1) (h.2.2 - h0.2.2) Q (F0 m pc ls rest) := by
  have e3 := mo_alE hF
  obtain ⟨hx, hb, hown, hts, hK, hrm, -⟩ := C
  have hle := (K h.2.1).2 _ _ _ e3
  subst hfl
  obtain ⟨r1, r2⟩ := mo_room A.2.2.1 hle.1 hrm.1
  obtain ⟨r3, r4⟩ := mo_room A.2.2.2 hle.2 hrm.2
  have hKn := hK.1.1 ci _ hc
  refine W.newcK hx hb hown (hts _ hcl) (hts _ hinst) (hts _ hini) rfl hdg r1 r3 hKn.2.1 rfl fun H1 kC hkC e1 z1 o1 => ?_
  have hA1 : mo_A D dA b0 s.heap h0 (mo_nw h (.inr (ci, fs)) fs.length) H1 locs := by
    refine ⟨A.1.nw (show va_at D vwCl (H.size, .inr (ci, fs)) H1 from ⟨_, hc, (u_born ty hts hin hKn hkC e1 hty).to hfs⟩) z1 o1, ⟨Nat.le_trans A.2.1.1 (by omega), fun x h1 h2 => (o1 x (Nat.lt_of_lt_of_le h1 A.2.1.1)).trans (A.2.1.2.1 x h1 h2), A.2.1.2.2⟩, A.2.2.tr ⟨Nat.le_succ _, Nat.le_add_right _ _⟩⟩
  have hk := kk h.2.1 _ H1 e3 hA1
  rw [A.1.1]
  exact W.cs r2 r4 hk
theorem mo_wcp (C : mo_C p R s m args c cc own Ts D dA b0 h0 h2) (A : mo_A D dA b0 s.heap h0 h H locs) (hml : c.maxLocals = ls.size) {index : Nat} (hlink : Cond.methodLink own index arraycopyName ∈ Ts) (hnat : Cond.native arraycopyName ∈ Ts) (hstat : Cond.static arraycopyName ∈ Ts) (hini : Cond.initialized "java/lang/System" ∈ Ts) {a0 : Nat} {sp dp n : Int32} (hframes : 1 ≤ R.frames) (hlocals : (rest.map fun v => v.category).sum + (nativeFrameWords "java/lang/System" "arraycopy" 5 + 11) ≤ R.locals) (hdg : decode cc pc = .ok (.invokestatic index, 3)) {K : Unit → mo_M β} {zz : β × mo_H} (hF : (mo_b (mo_cp a0 sp a dp n) K).1 h = some zz)
    (kk : ∀ (h' : mo_H) (H' : Heap) (locs' : List Loc), (K ()).1 h' = some zz → mo_A D dA b0 s.heap h0 h' H' locs' → W p l e R s m args below meth c H' locs' (h'.2.1 - h0.2.1) (h'.2.2 - h0.2.2) Q (F0 m (pc + 3) ls rest)) : W p l e R s m args below meth c H locs (h.2.1 - h0.2.1) (h.2.2 - h0.2.2) Q (F0 m pc ls (.int n :: .int dp :: .ref a :: .int sp :: .ref a0 :: rest)) := by
  obtain ⟨n0, f, n1, g, ha0, ha1, h1, h2', h3, h4, h5, e3⟩ := mo_cpE hF
  obtain ⟨hx, hb, hown, hts, hK, -, -⟩ := C
  have nn : ∀ z : Int32, ¬ z < 0 → z.toInt = (z.toNatClampNeg : Int) := by
    intro z hz
    have hz0 : (0 : Int) ≤ z.toInt := by
      have := Int32.not_lt.mp hz
      simpa using Int32.le_iff_toInt_le.mp this
    show z.toInt = ((z.toInt.toNat : Nat) : Int)
    omega
  intro T hT X
  have hc0 : H[a0]? = some (vp_cell (dA 0) (n0, .inl f)) := (A.1.2.2 a0 _ ha0).2
  have hc1 : H[a]? = some (vp_cell (dA 0) (n1, .inl g)) := (A.1.2.2 a _ ha1).2
  obtain ⟨-, k0, hk0, cm0, hkk0⟩ := (hK.1.2 0 _ rfl).1 n0 (fun j => .int (f j))
  obtain ⟨-, k1, hk1, cm1, hkk1⟩ := (hK.1.2 0 _ rfl).1 n1 (fun j => .int (g j))
  obtain ⟨vm', X', step⟩ := X.arraycopy hx hown (hts _ hlink) (hts _ hnat) (hts _ hstat) (hts _ hini) (src := a0) (dst := a) (cs := vp_cell (dA 0) (n0, .inl f)) (cd := vp_cell (dA 0) (n1, .inl g)) (srcPos := sp) (destPos := dp) (n := n) (by rw [hT]; exact hc0) (by rw [hT]; exact hc1)
    (fun _ h => by cases h) (fun _ h => by cases h) (fun h => by cases h) (fun h => by cases h) hk0 hk1 hkk0 hkk1 (by simp [refKind]) h1 h2' h3
    (by rw [nn sp h1, nn n h3]; show ¬ _ > ((arrV (dA 0) n0 (fun j => .int (f j))).slots.size : Int); rw [arrV_size]; omega)
    (by rw [nn dp h2', nn n h3]; show ¬ _ > ((arrV (dA 0) n1 (fun j => .int (g j))).slots.size : Int); rw [arrV_size]; omega)
    (fun vm₁ _ i hi => by
      have e : (vp_cell (dA 0) (n0, .inl f)).slots.getD (sp.toNatClampNeg + i) .null = .int (f (sp.toNatClampNeg + i)) := by
        show (arrV (dA 0) n0 (fun j => .int (f j))).slots.getD _ _ = _
        rw [Array.getD_eq_getD_getElem?, arrV_read _ _ (by omega)]
        rfl
      refine ⟨?_, ?_⟩
      · rw [e]
        rfl
      · rw [e]
        exact trivial)
    (g := F0 m pc ls (.int n :: .int dp :: .ref a :: .int sp :: .ref a0 :: rest)) rfl (by rw [hml]) (rest := rest) rfl (by rw [hb]; exact hdg) hframes (by show 2 * 0 + _ + _ ≤ _; omega)
  have e1 : copied (vp_cell (dA 0) (n0, .inl f)) (vp_cell (dA 0) (n1, .inl g)) sp dp n = vp_cell (dA 0) (n1, .inl (va_cpy f g sp.toNatClampNeg dp.toNatClampNeg n.toNatClampNeg)) := va_copied (fun z => .int z) (dA 0) (dA 0) f g h4
  rw [e1] at X' step
  have hl : a < H.size := (Array.getElem?_eq_some_iff.mp hc1).1
  have hheap : ((T.setVm vm').setCell a (vp_cell (dA 0) (n1, .inl (va_cpy f g sp.toNatClampNeg dp.toNatClampNeg n.toNatClampNeg)))).heap = H.setIfInBounds a (vp_cell (dA 0) (n1, .inl (va_cpy f g sp.toNatClampNeg dp.toNatClampNeg n.toNatClampNeg))) := by rw [← hT]; rfl
  have oq : ∀ q : Nat, q ≠ a → (H.setIfInBounds a (vp_cell (dA 0) (n1, .inl (va_cpy f g sp.toNatClampNeg dp.toNatClampNeg n.toNatClampNeg))))[q]? = H[q]? := fun q hq => by simp [Array.getElem?_setIfInBounds, Ne.symm hq]
  have hb0 := (A.1.2.2 a _ ha1).1
  have hat : va_at D vwCl (a, mo_v dA (.inl (0, n1, .inl (va_cpy f g sp.toNatClampNeg dp.toNatClampNeg n.toNatClampNeg)))) (H.setIfInBounds a (vp_cell (dA 0) (n1, .inl (va_cpy f g sp.toNatClampNeg dp.toNatClampNeg n.toNatClampNeg)))) := by
    show (H.setIfInBounds a _)[a]? = some (vp_cell _ _)
    simp [Array.getElem?_setIfInBounds, hl]
  obtain ⟨t, a1, b1⟩ := kk (mo_up h a (.inl (0, n1, .inl (va_cpy f g sp.toNatClampNeg dp.toNatClampNeg n.toNatClampNeg)))) _ _ e3 ⟨A.1.up ha1 hat (by simp) oq, ⟨by simp; exact A.2.1.1, fun q g1 g2 => by
      rw [oq q (fun e => g2 (by rw [e]; exact hb0))]
      exact A.2.1.2.1 q g1 g2, fun q hq => by
      rcases List.mem_append.mp hq with h | h
      · exact A.2.1.2.2 q h
      · obtain ⟨z, -, hz⟩ := List.mem_map.mp h
        rw [← hz]
        exact hb0⟩, A.2.2⟩ _ hheap X'
  exact ⟨t, step t a1, b1⟩
/-- behind a call -/
theorem mo_call {h1 : mo_H} {v : Option Value} {st0 : List Value} {av : Array Value} (hr : va_Run p l e R s m args below meth c H locs (h.2.1 - h0.2.1) (h.2.2 - h0.2.2) (h1.2.1 - h.2.1) (h1.2.2 - h.2.2) (F0 m pc ls st0) rest (mo_Q D dA b0 h1 v av) (fun q => b0 ≤ q)) (A : mo_A D dA b0 s.heap h0 h H locs) (hle : mo_le h h1)
    (kk : ∀ (H' : Heap) (locs' : List Loc), mo_A D dA b0 s.heap h0 h1 H' locs' → W p l e R s m args below meth c H' locs' (h1.2.1 - h0.2.1) (h1.2.2 - h0.2.2) Q (F0 m (pc + 3) ls (v.toList ++ rest))) : W p l e R s m args below meth c H locs (h.2.1 - h0.2.1) (h.2.2 - h0.2.2) Q (F0 m pc ls st0) := by
  intro T hT X
  obtain ⟨v', st₀, t, T', L, g0, X', hL, e1, e2, ⟨ho, hR, hz, hk⟩, st⟩ := hr T hT X
  cases ho
  rw [g0] at hz hk
  have r2 : (h.2.1 - h0.2.1) + (h1.2.1 - h.2.1) = h1.2.1 - h0.2.1 := by have := A.2.2.1; have := hle.1; omega
  have r4 : (h.2.2 - h0.2.2) + (h1.2.2 - h.2.2) = h1.2.2 - h0.2.2 := by have := A.2.2.2; have := hle.2; omega
  rw [r2, r4] at X'
  obtain ⟨t2, a1, b1⟩ := kk T'.heap (locs ++ L) ⟨by rw [e1]; exact hR, ⟨Nat.le_trans A.2.1.1 (by rw [e1]; exact hz), fun q g1 g2 => by rw [e1, hk q (Nat.lt_of_lt_of_le g1 A.2.1.1) g2]; exact A.2.1.2.1 q g1 g2, fun q hq => by
      rcases List.mem_append.mp hq with h | h
      · exact A.2.1.2.2 q h
      · exact hL q h⟩, A.2.2.tr hle⟩ T' rfl X'
  exact ⟨t2, st t2 a1, b1⟩
/-- what a caller shows of the callee's start -/
theorem mo_pre {h1 : mo_H} {As : List Value} (hK : mo_K D dA s) (hR : mo_R D dA b0 h H) : ∀ U : State, U.heap = H → s.WarmedH U.vm → mo_P D dA b0 h As As.toArray U := fun U hU hW => ⟨rfl, by rw [hU]; exact hR, hK.warm hW⟩
theorem mo_rcv {ci : Nat} {q : vw_C} {fs : List Value} (hK : mo_K D dA s) (hR : mo_R D dA b0 h H) (hc : vwCl[ci]? = some q) (he : h.1 a = some (.inr (ci, fs))) : ∃ cell : Cell, H[a]? = some cell ∧ cell.vm.isStatics = false ∧ s.vm.findClass q.1 = some cell.cls := va_recv hK.1 (mo_P1 hR he) hc (q0 := 0) rfl
theorem mo_rmc {h1 : mo_H} (a : mo_le h0 h) (b : mo_le h h1) (d : mo_le h1 h2) (hr : h2.2.1 - h0.2.1 ≤ R.cells ∧ h2.2.2 - h0.2.2 ≤ R.slots) : (h.2.1 - h0.2.1) + (h1.2.1 - h.2.1) ≤ R.cells ∧ (h.2.2 - h0.2.2) + (h1.2.2 - h.2.2) ≤ R.slots := by
  have := a.1; have := a.2; have := b.1; have := b.2; have := d.1; have := d.2
  omega
/-- a method's contract out of its program -/
def mo_Met {α : Type} (l : Launch) (y : MethodName) (ws : List Cond) (fr lo : Nat) (D : va_G) (dA : Nat → ClassId) (b0 : Nat) (av : List Value) (enc : α → Option Value) (F : mo_M α) : Prop := ∀ (h h2 : mo_H) (z : α), F.1 h = some (z, h2) → Met l y ws ({ frames := fr, cells := h2.2.1 - h.2.1, slots := h2.2.2 - h.2.2, locals := lo }) (mo_P D dA b0 h av) (mo_Q D dA b0 h2 (enc z)) (h2.2.1 - h.2.1) (h2.2.2 - h.2.2) (fun q => b0 ≤ q)
section CALL
variable {α : Type} {y : MethodName} {bytes : ByteArray} {maxL nL n index fr lo : Nat} {ret : Option FieldType} {ws ws' : List Cond} {b : Nat} {As : List Value} {F : mo_M α} {K : α → mo_M β}
theorem mo_cV {enc : α → Option Value} (C : mo_C p R s m args c cc own Ts D dA b0 h0 h2) (A : mo_A D dA b0 s.heap h0 h H locs) (hml : c.maxLocals = nL) (hls : ls.size = nL) (hM : mo_Met l y ws fr lo D dA b0 (.ref b :: As) enc F) {ci : Nat} {q : vw_C} (hc : vwCl[ci]? = some q) (hck : ∀ zz, F.1 h = some zz → ∃ fs, h.1 b = some (.inr (ci, fs))) (hT : GoodIn Ts (wsV own index q.1 y ws)) (hw : ws = Cond.code y bytes maxL ret :: ws') (hd : y.cls = q.1 ∧ y.cls ≠ "java/lang/invoke/MethodHandle" ∧ y.cls ≠ "java/lang/invoke/VarHandle" ∧ (parseMethodDescriptor y.desc).map (fun d => d.parameters.length) = some n) (hR : fr + 1 ≤ R.frames ∧ 8 + (maxL + 11) + lo ≤ R.locals) (hn : As.length = n) (hW : (rest.map fun v => v.category).sum ≤ 8) {st0 : List Value} (hst : st0 = As.reverse ++ .ref b :: rest) (hdg : decode cc pc = .ok (.invokevirtual index, 3)) (hF : (mo_b F K).1 h = some (z, h2))
    (kk : ∀ (r : α) (h1 : mo_H) (H' : Heap) (locs' : List Loc), (K r).1 h1 = some (z, h2) → mo_A D dA b0 s.heap h0 h1 H' locs' → W p l e R s m args below meth c H' locs' (h1.2.1 - h0.2.1) (h1.2.2 - h0.2.2) Q (F0 m (pc + 3) ls ((enc r).toList ++ rest))) : W p l e R s m args below meth c H locs (h.2.1 - h0.2.1) (h.2.2 - h0.2.2) Q (F0 m pc ls st0) := by
  obtain ⟨r, h1, e1, e2⟩ := mo_bE hF
  obtain ⟨hx, hb, hown, hts, hK, hrm, hb0⟩ := id C
  obtain ⟨fs, hfs⟩ := hck _ e1
  have l1 := F.2 _ _ _ e1
  have l2 := (K r).2 _ _ _ e2
  subst hst
  exact mo_call (va_runV (C := q.1) (As := As) (rest := rest) ⟨hx, hb, hml, hown, hts⟩ (hM h h1 r e1) (cwV n hts hT hw rfl rfl hd hR) ⟨mo_blind, mo_rcv hK A.1 hc hfs, mo_pre (h1 := h1) hK A.1⟩ rfl hn hls rfl (lv_room hW) hdg (mo_rmc A.2.2 l1 l2 hrm)) A l1 (fun H' locs' A' => kk r h1 H' locs' e2 A')
theorem mo_cS {enc : α → Option Value} (C : mo_C p R s m args c cc own Ts D dA b0 h0 h2) (A : mo_A D dA b0 s.heap h0 h H locs) (hml : c.maxLocals = nL) (hls : ls.size = nL) (hM : mo_Met l y ws fr lo D dA b0 As enc F) (hT : GoodIn Ts (va_wsS own index y ws)) (hw : ws = Cond.code y bytes maxL ret :: ws') (hd : y.cls ≠ "java/lang/invoke/MethodHandle" ∧ y.cls ≠ "java/lang/invoke/VarHandle" ∧ (parseMethodDescriptor y.desc).map (fun d => d.parameters.length) = some n) (hR : fr + 1 ≤ R.frames ∧ 8 + (maxL + 11) + lo ≤ R.locals) (hn : As.length = n) (hW : (rest.map fun v => v.category).sum ≤ 8) {st0 : List Value} (hst : st0 = As.reverse ++ rest) (hdg : decode cc pc = .ok (.invokestatic index, 3)) (hF : (mo_b F K).1 h = some (z, h2))
    (kk : ∀ (r : α) (h1 : mo_H) (H' : Heap) (locs' : List Loc), (K r).1 h1 = some (z, h2) → mo_A D dA b0 s.heap h0 h1 H' locs' → W p l e R s m args below meth c H' locs' (h1.2.1 - h0.2.1) (h1.2.2 - h0.2.2) Q (F0 m (pc + 3) ls ((enc r).toList ++ rest))) : W p l e R s m args below meth c H locs (h.2.1 - h0.2.1) (h.2.2 - h0.2.2) Q (F0 m pc ls st0) := by
  obtain ⟨r, h1, e1, e2⟩ := mo_bE hF
  obtain ⟨hx, hb, hown, hts, hK, hrm, hb0⟩ := id C
  have l1 := F.2 _ _ _ e1
  have l2 := (K r).2 _ _ _ e2
  subst hst
  exact mo_call (va_runS (As := As) (rest := rest) ⟨hx, hb, hml, hown, hts⟩ (hM h h1 r e1) (va_cwS n hts hT hw rfl rfl hd hR) ⟨mo_blind, mo_pre (h1 := h1) hK A.1⟩ rfl hn hls rfl (lv_room hW) hdg (mo_rmc A.2.2 l1 l2 hrm)) A l1 (fun H' locs' A' => kk r h1 H' locs' e2 A')
theorem mo_cN {enc : α → Option Value} (C : mo_C p R s m args c cc own Ts D dA b0 h0 h2) (A : mo_A D dA b0 s.heap h0 h H locs) (hml : c.maxLocals = nL) (hls : ls.size = nL) (hM : mo_Met l y ws fr lo D dA b0 As enc F) {host : String} (hT : GoodIn Ts ws) (hl : Cond.methodLinkNest own index y host ∈ mo_Ns) (hini : Cond.initialized y.cls ∈ Ts) (hsta : Cond.static y ∈ Ts) (hw : ws = Cond.code y bytes maxL ret :: ws') (hd : y.cls ≠ "java/lang/invoke/MethodHandle" ∧ y.cls ≠ "java/lang/invoke/VarHandle" ∧ (parseMethodDescriptor y.desc).map (fun d => d.parameters.length) = some n) (hR : fr + 1 ≤ R.frames ∧ 8 + (maxL + 11) + lo ≤ R.locals) (hn : As.length = n) (hW : (rest.map fun v => v.category).sum ≤ 8) {st0 : List Value} (hst : st0 = As.reverse ++ rest) (hdg : decode cc pc = .ok (.invokestatic index, 3)) (hF : (mo_b F K).1 h = some (z, h2))
    (kk : ∀ (r : α) (h1 : mo_H) (H' : Heap) (locs' : List Loc), (K r).1 h1 = some (z, h2) → mo_A D dA b0 s.heap h0 h1 H' locs' → W p l e R s m args below meth c H' locs' (h1.2.1 - h0.2.1) (h1.2.2 - h0.2.2) Q (F0 m (pc + 3) ls ((enc r).toList ++ rest))) : W p l e R s m args below meth c H locs (h.2.1 - h0.2.1) (h.2.2 - h0.2.2) Q (F0 m pc ls st0) := by
  obtain ⟨r, h1, e1, e2⟩ := mo_bE hF
  obtain ⟨hx, hb, hown, hts, hK, hrm, hb0⟩ := id C
  have l1 := F.2 _ _ _ e1
  have l2 := (K r).2 _ _ _ e2
  subst hst
  exact mo_call (va_runSN (host := host) (As := As) (rest := rest) ⟨hx, hb, hml, hown, hts⟩ (hM h h1 r e1) ⟨va_cnB n hts hT hw rfl rfl (hK.2.1 _ hl) (hts _ hini) hd hR, hts _ hsta, trivial⟩ ⟨mo_blind, mo_pre (h1 := h1) hK A.1⟩ rfl hn hls rfl (lv_room hW) hdg (mo_rmc A.2.2 l1 l2 hrm)) A l1 (fun H' locs' A' => kk r h1 H' locs' e2 A')
theorem mo_cI {enc : α → Option Value} (C : mo_C p R s m args c cc own Ts D dA b0 h0 h2) (A : mo_A D dA b0 s.heap h0 h H locs) (hml : c.maxLocals = nL) (hls : ls.size = nL) (hM : mo_Met l y ws fr lo D dA b0 (.ref b :: As) enc F) (hT : GoodIn Ts ws) (hw : ws = Cond.code y bytes maxL none :: ws') (hini : Cond.initialized y.cls ∈ Ts) (hl : Cond.methodLink own index y ∈ Ts) (hin : Cond.instanceMethod y ∈ Ts) (hy : y.name = "<init>") (hd : y.cls ≠ "java/lang/invoke/MethodHandle" ∧ y.cls ≠ "java/lang/invoke/VarHandle" ∧ (parseMethodDescriptor y.desc).map (fun d => d.parameters.length) = some n) (hR : fr + 1 ≤ R.frames ∧ 8 + (maxL + 11) + lo ≤ R.locals) (hn : As.length = n) (hW : (rest.map fun v => v.category).sum ≤ 8) {st0 : List Value} (hst : st0 = As.reverse ++ .ref b :: rest) (hdg : decode cc pc = .ok (.invokespecial index, 3)) (hF : (mo_b F K).1 h = some (z, h2))
    (kk : ∀ (r : α) (h1 : mo_H) (H' : Heap) (locs' : List Loc), (K r).1 h1 = some (z, h2) → mo_A D dA b0 s.heap h0 h1 H' locs' → W p l e R s m args below meth c H' locs' (h1.2.1 - h0.2.1) (h1.2.2 - h0.2.2) Q (F0 m (pc + 3) ls ((enc r).toList ++ rest))) : W p l e R s m args below meth c H locs (h.2.1 - h0.2.1) (h.2.2 - h0.2.2) Q (F0 m pc ls st0) := by
  obtain ⟨r, h1, e1, e2⟩ := mo_bE hF
  obtain ⟨hx, hb, hown, hts, hK, hrm, hb0⟩ := id C
  have l1 := F.2 _ _ _ e1
  have l2 := (K r).2 _ _ _ e2
  subst hst
  exact mo_call (va_runI (As := As) (rest := rest) ⟨hx, hb, hml, hown, hts⟩ (hM h h1 r e1) (cwI n hts hT hw rfl rfl (hts _ hini) (hts _ hl) (hts _ hin) hy hd hR) ⟨mo_blind, mo_pre (h1 := h1) hK A.1⟩ rfl hn hls rfl (lv_room hW) hdg (mo_rmc A.2.2 l1 l2 hrm)) A l1 (fun H' locs' A' => kk r h1 H' locs' e2 A')
end CALL
theorem mo_iret {x z : Int32} (C : mo_C p R s m args c cc own Ts D dA b0 h0 h2) (A : mo_A D dA b0 s.heap h0 h H locs) (hr : meth.sig.returnType = some .int) (hlocks : meth.locks = false) (hdg : decode cc pc = .ok (.ireturn, 1)) (hF : (mo_ret x).1 h = some (z, h2)) : W p l e R s m args below meth c H locs (h.2.1 - h0.2.1) (h.2.2 - h0.2.2) (MQ below (mo_Q D dA b0 h2 (some (.int z))) args s (h2.2.1 - h0.2.1) (h2.2.2 - h0.2.2) (fun q => b0 ≤ q)) (F0 m pc ls [.int x]) := by
  obtain ⟨rfl, rfl⟩ := mo_retE hF
  obtain ⟨hx, hb, -⟩ := C
  exact W.iret hx hb hr (fun t ht hW => ⟨rfl, by rw [ht]; exact A.1, A.2.1.F ht⟩) A.2.1.2.2 hdg
theorem mo_zret {x z : Int32} (C : mo_C p R s m args c cc own Ts D dA b0 h0 h2) (A : mo_A D dA b0 s.heap h0 h H locs) (hr : meth.sig.returnType = some .boolean) (hlocks : meth.locks = false) (hdg : decode cc pc = .ok (.ireturn, 1)) (hF : (mo_rz x).1 h = some (z, h2)) : W p l e R s m args below meth c H locs (h.2.1 - h0.2.1) (h.2.2 - h0.2.2) (MQ below (mo_Q D dA b0 h2 (some (.int z))) args s (h2.2.1 - h0.2.1) (h2.2.2 - h0.2.2) (fun q => b0 ≤ q)) (F0 m pc ls [.int x]) := by
  obtain ⟨hv, rfl, rfl⟩ := mo_rzE hF
  obtain ⟨hx, hb, -⟩ := C
  exact W.zret hx hb hr (by rcases hv with rfl | rfl <;> rfl) (fun t ht hW => ⟨rfl, by rw [ht]; exact A.1, A.2.1.F ht⟩) A.2.1.2.2 hdg
theorem mo_vret {z : Unit} (C : mo_C p R s m args c cc own Ts D dA b0 h0 h2) (A : mo_A D dA b0 s.heap h0 h H locs) (hr : meth.sig.returnType = none) (hlocks : meth.locks = false) (hdg : decode cc pc = .ok (.return_, 1)) (hF : (mo_ret ()).1 h = some (z, h2)) : W p l e R s m args below meth c H locs (h.2.1 - h0.2.1) (h.2.2 - h0.2.2) (MQ below (mo_Q D dA b0 h2 none) args s (h2.2.1 - h0.2.1) (h2.2.2 - h0.2.2) (fun q => b0 ≤ q)) (F0 m pc ls []) := by
  obtain ⟨-, rfl⟩ := mo_retE hF
  obtain ⟨hx, hb, -⟩ := C
  exact W.vret hx hb hr (fun t ht hW => ⟨rfl, by rw [ht]; exact A.1, A.2.1.F ht⟩) A.2.1.2.2 hdg
theorem mo_rret {x z : Nat} {rt : FieldType} (C : mo_C p R s m args c cc own Ts D dA b0 h0 h2) (A : mo_A D dA b0 s.heap h0 h H locs) (hr : meth.sig.returnType = some rt) (hrt : (∃ n, rt = .object n) ∨ ∃ t, rt = .array t) (hlocks : meth.locks = false) (hdg : decode cc pc = .ok (.areturn, 1)) (hF : (mo_ret x).1 h = some (z, h2)) : W p l e R s m args below meth c H locs (h.2.1 - h0.2.1) (h.2.2 - h0.2.2) (MQ below (mo_Q D dA b0 h2 (some (.ref z))) args s (h2.2.1 - h0.2.1) (h2.2.2 - h0.2.2) (fun q => b0 ≤ q)) (F0 m pc ls [.ref x]) := by
  obtain ⟨rfl, rfl⟩ := mo_retE hF
  obtain ⟨hx, hb, -⟩ := C
  exact W.aret hx hb hr hrt (Or.inr ⟨_, rfl⟩) (fun t ht hW => ⟨rfl, by rw [ht]; exact A.1, A.2.1.F ht⟩) A.2.1.2.2 hdg
theorem mo_qret {x z : Option Nat} {rt : FieldType} (C : mo_C p R s m args c cc own Ts D dA b0 h0 h2) (A : mo_A D dA b0 s.heap h0 h H locs) (hr : meth.sig.returnType = some rt) (hrt : (∃ n, rt = .object n) ∨ ∃ t, rt = .array t) (hlocks : meth.locks = false) (hdg : decode cc pc = .ok (.areturn, 1)) (hF : (mo_ret x).1 h = some (z, h2)) : W p l e R s m args below meth c H locs (h.2.1 - h0.2.1) (h.2.2 - h0.2.2) (MQ below (mo_Q D dA b0 h2 (some (va_rf z))) args s (h2.2.1 - h0.2.1) (h2.2.2 - h0.2.2) (fun q => b0 ≤ q)) (F0 m pc ls [va_rf x]) := by
  obtain ⟨rfl, rfl⟩ := mo_retE hF
  obtain ⟨hx, hb, -⟩ := C
  exact W.aret hx hb hr hrt (by cases x; exact Or.inl rfl; exact Or.inr ⟨_, rfl⟩) (fun t ht hW => ⟨rfl, by rw [ht]; exact A.1, A.2.1.F ht⟩) A.2.1.2.2 hdg
theorem mo_tab {lo hi : Nat} {x : Int32} (hhi : hi < 2 ^ 31) (h : ∀ k : Nat, lo ≤ k → k ≤ hi → x ≠ nI k) : x.toInt < (lo : Int) ∨ (hi : Int) < x.toInt := by
  by_cases h1 : x.toInt < (lo : Int)
  · exact Or.inl h1
  · by_cases h2 : (hi : Int) < x.toInt
    · exact Or.inr h2
    · refine absurd ?_ (h x.toInt.toNat (by omega) (by omega))
      apply Int32.toInt_inj.mp
      rw [nI_toInt (by omega)]
      omega
end MW
