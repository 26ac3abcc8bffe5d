/-! NEW CELLS: a domain, a channel, a machine -/
def DF (h : mo_H) (a : Nat) : Prop := h.1 a = some (.inr (3, [.ref (a + 1), .ref (a + 2), .ref (a + 3), .ref (a + 5), .int 0, .int 0, .int 0, .int 0, .int 0])) ∧ h.1 (a + 1) = some (aI 8 0) ∧ h.1 (a + 2) = some (aI 32 0) ∧ RwF h (a + 3) 8 ∧ RwF h (a + 5) 8
def CF (h : mo_H) (a lk s sz : Nat) : Prop := h.1 a = some (.inr (1, [.ref lk, .ref (a + 1), .ref (a + 3), .int 0, .int 0, .ref (a + 5), .int 0, .int 0])) ∧ h.1 (a + 1) = some (.inr (6, [.ref (a + 2), .int 0, .int 0])) ∧ h.1 (a + 2) = some (aI (5 * s) 0) ∧ h.1 (a + 3) = some (.inr (6, [.ref (a + 4), .int 0, .int 0])) ∧ h.1 (a + 4) = some (aI (5 * s) 0) ∧ h.1 (a + 5) = some (aI sz 0)
section FM
variable {β : Type} {h h' h1 : mo_H} {Q : β → mo_H → Prop} {a k m : Nat}
theorem nx.tr {k' m' : Nat} (x : nx k m h h1) (y : nx k' m' h1 h') : nx (k + k') (m + m') h h' := by
  have e1 : h1.2.1 = h.2.1 + k := by rw [x.1]
  have e2 : h1.2.2 = h.2.2 + m := by rw [x.1]
  refine ⟨by rw [y.1, e1, e2, Nat.add_assoc, Nat.add_assoc], fun q hq => by rw [y.2 q (by omega), x.2 q hq]⟩
theorem RwF.cg (x : RwF h a m) (e : ∀ q, a ≤ q → q < a + 2 → h'.1 q = h.1 q) : RwF h' a m := ⟨by rw [e a (by omega) (by omega)]; exact x.1, by rw [e (a + 1) (by omega) (by omega)]; exact x.2⟩
theorem DF.cg (x : DF h a) (e : ∀ q, a ≤ q → q < a + 7 → h'.1 q = h.1 q) : DF h' a := ⟨by rw [e a (by omega) (by omega)]; exact x.1, by rw [e (a + 1) (by omega) (by omega)]; exact x.2.1, by rw [e (a + 2) (by omega) (by omega)]; exact x.2.2.1, x.2.2.2.1.cg (fun q h1 h2 => e q (by omega) (by omega)), x.2.2.2.2.cg (fun q h1 h2 => e q (by omega) (by omega))⟩
theorem CF.cg {lk s sz : Nat} (x : CF h a lk s sz) (e : ∀ q, a ≤ q → q < a + 6 → h'.1 q = h.1 q) : CF h' a lk s sz := ⟨by rw [e a (by omega) (by omega)]; exact x.1, by rw [e (a + 1) (by omega) (by omega)]; exact x.2.1, by rw [e (a + 2) (by omega) (by omega)]; exact x.2.2.1, by rw [e (a + 3) (by omega) (by omega)]; exact x.2.2.2.1, by rw [e (a + 4) (by omega) (by omega)]; exact x.2.2.2.2.1, by rw [e (a + 5) (by omega) (by omega)]; exact x.2.2.2.2.2⟩
theorem f_dom {K : Nat → mo_M β} (kk : ∀ h', nx 7 69 h h' → DF h' h.2.1 → fh (K h.2.1) h' Q) : fh (mo_b (mo_nc 3 dfX3) fun v => mo_b (F_X3_init v) fun _ => K v) h Q := by
  refine f_nc (fun h1 a1 a2 a3 => ?_)
  refine f_c (Q1 := fun _ h' => nx 7 69 h h' ∧ DF h' h.2.1) ?_ (fun _ h' q => kk h' q.1 q.2)
  unfold F_X3_init
  generalize hA : h.2.1 = A at a1 a2 a3 ⊢
  have b1 : h1.2.1 = A + 1 := by rw [a1]
  have b2 : h1.2.2 = h.2.2 + 9 := by rw [a1]; rfl
  refine f_na (m := 8) rfl (by omega) (fun h2 c1 c2 c3 => ?_)
  rw [b1] at c1 c2 c3 ⊢
  rw [b2] at c1
  refine f_pV (a := A) (by rw [c3 _ (by omega)]; exact a2) (by show 0 < 9; omega) (fun h3 d1 d2 d3 => ?_)
  have b3 : h3.2.1 = A + 2 := by rw [d1, c1]
  have b4 : h3.2.2 = h.2.2 + 17 := by rw [d1, c1]
  refine f_na (m := 32) rfl (by omega) (fun h4 e1 e2 e3 => ?_)
  rw [b3] at e1 e2 e3 ⊢
  rw [b4] at e1
  refine f_pV (a := A) (by rw [e3 _ (by omega)]; exact d2) (by show 1 < 9; omega) (fun h5 g1 g2 g3 => ?_)
  have b5 : h5.2.1 = A + 3 := by rw [g1, e1]
  have b6 : h5.2.2 = h.2.2 + 49 := by rw [g1, e1]
  refine f_row (m := 8) rfl (by omega) (by omega) (fun h6 i1 i2 => ?_)
  have b7 : h6.2.1 = A + 5 := by rw [i1.1, b5]
  have b8 : h6.2.2 = h.2.2 + 59 := by rw [i1.1, b6]
  rw [b5] at i2 ⊢
  have i3 := i1.2
  rw [b5] at i3
  refine f_pV (a := A) (by rw [i3 _ (by omega)]; exact g2) (by show 2 < 9; omega) (fun h7 j1 j2 j3 => ?_)
  have b9 : h7.2.1 = A + 5 := by rw [j1, b7]
  have b10 : h7.2.2 = h.2.2 + 59 := by rw [j1, b8]
  refine f_row (m := 8) rfl (by omega) (by omega) (fun h8 l1 l2 => ?_)
  have l3 := l1.2
  rw [b9] at l2 l3 ⊢
  refine f_pV (a := A) (by rw [l3 _ (by omega)]; exact j2) (by show 3 < 9; omega) (fun h9 m1 m2 m3 => f_r ⟨⟨?_, fun q hq => ?_⟩, ?_, ?_, ?_, ?_, ?_⟩)
  · rw [m1, l1.1, b9, b10, hA]
  · rw [m3 q (by omega), l3 q (by omega), j3 q (by omega), i3 q (by omega), g3 q (by omega), e3 q (by omega), d3 q (by omega), c3 q (by omega), a3 q (by omega)]
  · rw [m2]; rfl
  · rw [m3 _ (by omega), l3 _ (by omega), j3 _ (by omega), i3 _ (by omega), g3 _ (by omega), e3 _ (by omega), d3 _ (by omega)]; exact c2
  · rw [m3 _ (by omega), l3 _ (by omega), j3 _ (by omega), i3 _ (by omega), g3 _ (by omega)]; exact e2
  · exact i2.cg (fun q h1 h2 => by rw [m3 q (by omega), l3 q (by omega), j3 q (by omega)])
  · exact l2.cg (fun q h1 h2 => m3 q (by omega))
theorem f_msg {K : Nat → mo_M β} {s : Nat} {x : Int32} (ex : x = nI s) (hs : 1 ≤ s) (hs2 : s ≤ 4) (kk : ∀ h', nx 2 (3 + 5 * s) h h' → (h'.1 h.2.1 = some (.inr (6, [.ref (h.2.1 + 1), .int 0, .int 0])) ∧ h'.1 (h.2.1 + 1) = some (aI (5 * s) 0)) → fh (K h.2.1) h' Q) : fh (mo_b (mo_nc 6 dfX6) fun v => mo_b (F_X6_init v x) fun _ => K v) h Q := by
  refine f_nc (fun h1 a1 a2 a3 => ?_)
  refine f_c (Q1 := fun _ h' => nx 2 (3 + 5 * s) h h' ∧ (h'.1 h.2.1 = some (.inr (6, [.ref (h.2.1 + 1), .int 0, .int 0])) ∧ h'.1 (h.2.1 + 1) = some (aI (5 * s) 0))) ?_ (fun _ h' q => kk h' q.1 q.2)
  unfold F_X6_init
  subst ex
  have e1 : (5 : Int32) * (if (1 : Int32) < nI s then nI s else 1) = nI (5 * s) := by
    by_cases c : (1 : Int32) < nI s
    · rw [if_pos c]; exact pk_mul 5 s
    · rw [if_neg c]
      have : ¬ 1 < s := fun q => c ((nI_ltI (a := 1) (by omega) (by omega)).mpr q)
      have : s = 1 := by omega
      rw [this]; rfl
  rw [e1]
  have b1 : h1.2.1 = h.2.1 + 1 := by rw [a1]
  have b2 : h1.2.2 = h.2.2 + 3 := by rw [a1]; rfl
  refine f_na (m := 5 * s) rfl (by omega) (fun h2 c1 c2 c3 => ?_)
  rw [b1] at c1 c2 c3 ⊢
  rw [b2] at c1
  refine f_pV (a := h.2.1) (by rw [c3 _ (by omega)]; exact a2) (by show 0 < 3; omega) (fun h3 d1 d2 d3 => f_r ⟨⟨?_, fun q hq => ?_⟩, ?_, ?_⟩)
  · rw [d1, c1]; congr 1; omega
  · rw [d3 q (by omega), c3 q (by omega), a3 q hq]
  · rw [d2]; rfl
  · rw [d3 _ (by omega)]; exact c2
theorem f_ch24 {s sz lk : Nat} {x0 x1 x2 : Int32} (hs : 1 ≤ s) (hs2 : s ≤ 4) (hz : sz ≤ 4) {A : Nat} (hA : h.2.1 = A + 1) (e0 : h.1 A = some (.inr (1, [.ref lk, .null, .null, .int 0, .int 0, .null, .int 0, .int 0]))) (hlk : lk < A) (el : h.1 lk = some (.inr (4, [.int x0, .int x1, .int x2, .int (nI sz)]))) : fh (F_X1_init_24 A lk (nI s)) h (fun _ h' => h'.2 = (h.2.1 + 5, h.2.2 + (6 + 10 * s + sz)) ∧ (∀ q, q < A → h'.1 q = h.1 q) ∧ CF h' A lk s sz) := by
  unfold F_X1_init_24
  refine f_msg rfl hs hs2 (fun h1 a1 a2 => ?_)
  have a3 := a1.2
  have b1 : h1.2.1 = A + 3 := by rw [a1.1, hA]
  rw [hA] at a2 a3 ⊢
  refine f_pV (a := A) (by rw [a3 _ (by omega)]; exact e0) (by show 1 < 8; omega) (fun h2 c1 c2 c3 => ?_)
  have b2 : h2.2.1 = A + 3 := by rw [c1, b1]
  refine f_msg rfl hs hs2 (fun h3 d1 d2 => ?_)
  have d3 := d1.2
  have b3 : h3.2.1 = A + 5 := by rw [d1.1, b2]
  rw [b2] at d2 d3 ⊢
  refine f_pV (a := A) (by rw [d3 _ (by omega)]; exact c2) (by show 2 < 8; omega) (fun h4 g1 g2 g3 => ?_)
  have b4 : h4.2.1 = A + 5 := by rw [g1, b3]
  refine f_gI (by rw [g3 _ (by omega), d3 _ (by omega), c3 _ (by omega), a3 _ (by omega)]; exact el) rfl ?_
  refine f_na (m := sz) rfl (by omega) (fun h5 i1 i2 i3 => ?_)
  rw [b4] at i2 i3 ⊢
  refine f_pV (a := A) (by rw [i3 _ (by omega)]; exact g2) (by show 5 < 8; omega) (fun h6 j1 j2 j3 => f_r ⟨?_, fun q hq => ?_, ?_, ?_, ?_, ?_, ?_, ?_⟩)
  · have t1 : h6.2.1 = A + 1 + 5 := by rw [j1, i1]; show h4.2.1 + 1 = _; rw [b4]
    have t2 : h6.2.2 = h.2.2 + (6 + 10 * s + sz) := by
      rw [j1, i1]
      show h4.2.2 + sz = _
      rw [g1, d1.1]
      show h2.2.2 + (3 + 5 * s) + sz = _
      rw [c1, a1.1]
      show h.2.2 + (3 + 5 * s) + (3 + 5 * s) + sz = _
      omega
    exact Prod.ext t1 t2
  · rw [j3 q (by omega), i3 q (by omega), g3 q (by omega), d3 q (by omega), c3 q (by omega), a3 q (by omega)]
  · rw [j2]; rfl
  · rw [j3 _ (by omega), i3 _ (by omega), g3 _ (by omega), d3 _ (by omega), c3 _ (by omega)]; exact a2.1
  · rw [j3 _ (by omega), i3 _ (by omega), g3 _ (by omega), d3 _ (by omega), c3 _ (by omega)]; exact a2.2
  · rw [j3 _ (by omega), i3 _ (by omega), g3 _ (by omega)]; exact d2.1
  · rw [j3 _ (by omega), i3 _ (by omega), g3 _ (by omega)]; exact d2.2
  · rw [j3 _ (by omega)]; exact i2
def ch_s (bd : Int32) (sz : Nat) : Nat := if bd = 0 then sz else 1
theorem f_ci {sz lk : Nat} {x0 x1 x2 : Int32} (hz1 : 1 ≤ sz) (hz : sz ≤ 4) (hlk : lk < h.2.1) (el : h.1 lk = some (.inr (4, [.int x0, .int x1, .int x2, .int (nI sz)]))) (a1 : h1.2 = (h.2.1 + 1, h.2.2 + 8)) (a2 : h1.1 h.2.1 = some (.inr (1, dfX1))) (a3 : ∀ q, q < h.2.1 → h1.1 q = h.1 q) : fh (F_X1_init h.2.1 lk) h1 (fun _ h' => nx 6 (14 + 10 * ch_s x2 sz + sz) h h' ∧ CF h' h.2.1 lk (ch_s x2 sz) sz) := by
  unfold F_X1_init
  refine f_pV (a := h.2.1) a2 (by show 0 < 8; omega) (fun h2 c1 c2 c3 => ?_)
  have el2 : h2.1 lk = some (.inr (4, [.int x0, .int x1, .int x2, .int (nI sz)])) := by rw [c3 _ (by omega), a3 _ hlk]; exact el
  have b2 : h2.2.1 = h.2.1 + 1 := by rw [c1, a1]
  have b3 : h2.2.2 = h.2.2 + 8 := by rw [c1, a1]
  refine f_gI el2 rfl ?_
  have fin : ∀ s, 1 ≤ s → s ≤ 4 → s = ch_s x2 sz → fh (F_X1_init_24 h.2.1 lk (nI s)) h2 (fun _ h' => nx 6 (14 + 10 * ch_s x2 sz + sz) h h' ∧ CF h' h.2.1 lk (ch_s x2 sz) sz) := fun s s1 s2 se => by
    obtain ⟨r, h3, e, q1, q2, q3⟩ := f_ch24 s1 s2 hz b2 c2 hlk el2
    refine ⟨r, h3, e, ⟨?_, fun q hq => by rw [q2 q hq, c3 q (by omega), a3 q hq]⟩, by rw [← se]; exact q3⟩
    rw [q1, b2, b3, ← se]
    congr 1
    omega
  by_cases c : x2 = 0
  · refine f_T c (f_gI el2 rfl ?_)
    exact fin sz hz1 hz (by unfold ch_s; rw [if_pos c])
  · refine f_F c ?_
    exact fin 1 (by omega) (by omega) (by unfold ch_s; rw [if_neg c])
theorem vu {g : Nat → Nat} {i : Nat} : va_up (fun j => if j < i then some (g j) else none) i (some (g i)) = fun j => if j < i + 1 then some (g j) else none := by
  funext j
  unfold va_up
  by_cases e : j = i
  · rw [if_pos e, if_pos (by omega), e]
  · rw [if_neg e]
    show (if j < i then some (g j) else none) = _
    by_cases c : j < i
    · rw [if_pos c, if_pos (by omega)]
    · rw [if_neg c, if_neg (by omega)]
end FM
/-- what the making of a machine reads of the plan at P: domains, links; A: all of it lies below -/
def PF (h : mo_H) (A P nd nl : Nat) (la : Nat → Nat) (bd : Nat → Int32) (sz : Nat → Nat) : Prop := P < A ∧ nd ≤ 6 ∧ nl ≤ 12 ∧ (∃ pf Lk F, h.1 P = some (.inr (7, pf)) ∧ pf[0]? = some (.int (nI nd)) ∧ pf[2]? = some (.ref Lk) ∧ pf[3]? = some (.int (nI nl)) ∧ Lk < A ∧ h.1 Lk = some (.inl (3, 12, gRef F)) ∧ ∀ j, j < nl → F j = some (la j)) ∧ ∀ j, j < nl → la j < A ∧ 1 ≤ sz j ∧ sz j ≤ 4 ∧ ∃ x0 x1, h.1 (la j) = some (.inr (4, [.int x0, .int x1, .int (bd j), .int (nI (sz j))]))
def MF (h : mo_H) (A P nd nl : Nat) (la : Nat → Nat) (bd : Nat → Int32) (sz : Nat → Nat) : Prop := h.1 A = some (.inr (5, [.ref P, .ref (A + 1), .ref (A + 2 + 7 * nd), .ref (A + 3 + 7 * nd + 6 * nl), .int 0])) ∧ h.1 (A + 1) = some (.inl (4, nd, gRef (fun j => if j < nd then some (A + 2 + 7 * j) else none))) ∧ (∀ j, j < nd → DF h (A + 2 + 7 * j)) ∧ h.1 (A + 2 + 7 * nd) = some (.inl (5, 12, gRef (fun j => if j < nl then some (A + 3 + 7 * nd + 6 * j) else none))) ∧ (∀ j, j < nl → CF h (A + 3 + 7 * nd + 6 * j) (la j) (ch_s (bd j) (sz j)) (sz j)) ∧ h.1 (A + 3 + 7 * nd + 6 * nl) = some (.inr (2, [.ref P, .int 0, .int 0, .int 0, .int 0, .int 0]))
section FN
variable {h h0 : mo_H} {A P nd nl S : Nat} {la : Nat → Nat} {bd : Nat → Int32} {sz : Nat → Nat}
theorem PF.cg {h' : mo_H} (x : PF h A P nd nl la bd sz) (e : ∀ q, q < A → h'.1 q = h.1 q) : PF h' A P nd nl la bd sz := by
  obtain ⟨x1, x2, x3, ⟨pf, Lk, F, y1, y2, y3, y4, y5, y6, y7⟩, x5⟩ := x
  refine ⟨x1, x2, x3, ⟨pf, Lk, F, by rw [e _ x1]; exact y1, y2, y3, y4, y5, by rw [e _ y5]; exact y6, y7⟩, fun j hj => ?_⟩
  obtain ⟨z1, z2, z3, u0, u1, z4⟩ := x5 j hj
  exact ⟨z1, z2, z3, u0, u1, by rw [e _ z1]; exact z4⟩
def MD (h0 h : mo_H) (A P nd S i : Nat) : Prop := h.2.1 = A + 2 + 7 * i ∧ h.2.2 ≤ S + 69 * i ∧ (∀ q, q < A → h.1 q = h0.1 q) ∧ h.1 A = some (.inr (5, [.ref P, .ref (A + 1), .null, .null, .int 0])) ∧ h.1 (A + 1) = some (.inl (4, nd, gRef (fun j => if j < i then some (A + 2 + 7 * j) else none))) ∧ ∀ j, j < i → DF h (A + 2 + 7 * j)
def MC (h0 h : mo_H) (A P nd S i : Nat) (la : Nat → Nat) (bd : Nat → Int32) (sz : Nat → Nat) : Prop := h.2.1 = A + 3 + 7 * nd + 6 * i ∧ h.2.2 ≤ S + 58 * i ∧ (∀ q, q < A → h.1 q = h0.1 q) ∧ h.1 A = some (.inr (5, [.ref P, .ref (A + 1), .ref (A + 2 + 7 * nd), .null, .int 0])) ∧ h.1 (A + 1) = some (.inl (4, nd, gRef (fun j => if j < nd then some (A + 2 + 7 * j) else none))) ∧ (∀ j, j < nd → DF h (A + 2 + 7 * j)) ∧ h.1 (A + 2 + 7 * nd) = some (.inl (5, 12, gRef (fun j => if j < i then some (A + 3 + 7 * nd + 6 * j) else none))) ∧ ∀ j, j < i → CF h (A + 3 + 7 * nd + 6 * j) (la j) (ch_s (bd j) (sz j)) (sz j)
theorem f_i60 (hp : PF h0 A P nd nl la bd sz) : ∀ (fu i : Nat) (h : mo_H), nl - i < fu → i ≤ nl → MC h0 h A P nd S i la bd sz → fh (F_X5_init_60 fu A P (nI i)) h (fun _ h' => h'.2.1 = A + 4 + 7 * nd + 6 * nl ∧ h'.2.2 ≤ S + 58 * nl + 6 ∧ (∀ q, q < A → h'.1 q = h0.1 q) ∧ MF h' A P nd nl la bd sz)
  | 0, i, h, hf, _, _ => by omega
  | fu + 1, i, h, hf, hi, x => by
    obtain ⟨x1, x2, x3, x4, x5, x6, x7, x8⟩ := x
    have hp' := hp.cg x3
    obtain ⟨p1, p2, p3, ⟨pf, Lk, F, y1, y2, y3, y4, y5, y6, y7⟩, p5⟩ := hp'
    unfold F_X5_init_60
    refine f_gI y1 y4 ?_
    by_cases c : nl ≤ i
    · have e : i = nl := by omega
      subst e
      refine f_T ((nI_leI (by omega) (by omega)).mpr c) ?_
      unfold F_X5_init_93
      refine f_nc (fun h1 a1 a2 a3 => ?_)
      have hb : h1.2.1 = A + 4 + 7 * nd + 6 * i := by rw [a1, x1]; omega
      have hb2 : h1.2.2 = h.2.2 + 6 := by rw [a1]; rfl
      rw [x1] at a2 a3 ⊢
      refine f_c (Q1 := fun _ h2 => h2.2 = h1.2 ∧ h2.1 (A + 3 + 7 * nd + 6 * i) = some (.inr (2, [.ref P, .int 0, .int 0, .int 0, .int 0, .int 0])) ∧ ∀ q, q ≠ A + 3 + 7 * nd + 6 * i → h2.1 q = h1.1 q) ?_ (fun _ h2 z => ?_)
      · unfold F_X2_init
        exact f_pV a2 (by show 0 < 6; omega) (fun h2 c1 c2 c3 => f_r ⟨c1, c2, c3⟩)
      · obtain ⟨z1, z2, z3⟩ := z
        refine f_pV (a := A) (by rw [z3 _ (by omega), a3 _ (by omega)]; exact x4) (by show 3 < 5; omega) (fun h3 d1 d2 d3 => f_r ⟨?_, ?_, fun q hq => ?_, ?_, ?_, fun j hj => ?_, ?_, fun j hj => ?_, ?_⟩)
        · rw [d1, z1, hb]
        · rw [d1, z1, hb2]; omega
        · rw [d3 q (by omega), z3 q (by omega), a3 q (by omega)]; exact x3 q hq
        · rw [d2]; rfl
        · rw [d3 _ (by omega), z3 _ (by omega), a3 _ (by omega)]; exact x5
        · exact (x6 j hj).cg (fun q h1 h2 => by rw [d3 q (by omega), z3 q (by omega), a3 q (by omega)])
        · rw [d3 _ (by omega), z3 _ (by omega), a3 _ (by omega)]; exact x7
        · exact (x8 j hj).cg (fun q h1 h2 => by rw [d3 q (by omega), z3 q (by omega), a3 q (by omega)])
        · rw [d3 _ (by omega)]; exact z2
    · refine f_F (fun q => c ((nI_leI (by omega) (by omega)).mp q)) ?_
      obtain ⟨z1, z2, z3, u0, u1, z4⟩ := p5 i (by omega)
      refine f_gR x4 rfl (f_nc (fun h1 a1 a2 a3 => ?_))
      refine f_gR (by rw [a3 _ (by omega)]; exact y1) y3 (f_lq (by rw [a3 _ (by omega)]; exact y6) rfl (by omega) (by omega) (y7 i (by omega)) ?_)
      refine f_c (f_ci z2 z3 (by omega) z4 (by rw [a1]; rfl) a2 a3) (fun _ h2 w => ?_)
      obtain ⟨⟨w1, w2⟩, w3⟩ := w
      rw [x1] at w2 w3 ⊢
      have s4 : ch_s (bd i) (sz i) ≤ 4 := by unfold ch_s; split <;> omega
      refine f_sq w3.1 (by rw [w2 _ (by omega)]; exact x7) rfl (by omega) (by omega) (fun h3 d1 d2 d3 => ?_)
      rw [nI_1]
      refine f_i60 hp fu (i + 1) h3 (by omega) (by omega) ⟨?_, ?_, fun q hq => ?_, ?_, ?_, fun j hj => ?_, ?_, fun j hj => ?_⟩
      · rw [d1, w1, x1]; show A + 3 + 7 * nd + 6 * i + 6 = _; omega
      · rw [d1, w1]; show h.2.2 + (14 + 10 * ch_s (bd i) (sz i) + sz i) ≤ _; omega
      · rw [d3 q (by omega), w2 q (by omega)]; exact x3 q hq
      · rw [d3 _ (by omega), w2 _ (by omega)]; exact x4
      · rw [d3 _ (by omega), w2 _ (by omega)]; exact x5
      · exact (x6 j hj).cg (fun q h1 h2 => by rw [d3 q (by omega), w2 q (by omega)])
      · rw [d2, vu (g := fun j => A + 3 + 7 * nd + 6 * j)]
      · by_cases e : j = i
        · subst e
          exact w3.cg (fun q h1 h2 => d3 q (by omega))
        · exact (x8 j (by omega)).cg (fun q h1 h2 => by rw [d3 q (by omega), w2 q (by omega)])
theorem f_i22 (hp : PF h0 A P nd nl la bd sz) : ∀ (fu i : Nat) (h : mo_H), nd - i < fu → i ≤ nd → MD h0 h A P nd S i → fh (F_X5_init_22 fu A P (nI i)) h (fun _ h' => h'.2.1 = A + 4 + 7 * nd + 6 * nl ∧ h'.2.2 ≤ S + 69 * nd + 12 + 58 * nl + 6 ∧ (∀ q, q < A → h'.1 q = h0.1 q) ∧ MF h' A P nd nl la bd sz)
  | 0, i, h, hf, _, _ => by omega
  | fu + 1, i, h, hf, hi, x => by
    obtain ⟨x1, x2, x3, x4, x5, x6⟩ := x
    have hp' := hp.cg x3
    obtain ⟨p1, p2, p3, ⟨pf, Lk, F, y1, y2, y3, y4, y5, y6, y7⟩, p5⟩ := hp'
    unfold F_X5_init_22
    refine f_gI y1 y2 ?_
    by_cases c : nd ≤ i
    · have e : i = nd := by omega
      subst e
      refine f_T ((nI_leI (by omega) (by omega)).mpr c) ?_
      unfold F_X5_init_49
      refine f_nq (m := 12) rfl (by omega) (fun h1 a1 a2 a3 => ?_)
      have hb : h1.2.1 = A + 3 + 7 * i := by rw [a1, x1]; omega
      have hb2 : h1.2.2 = h.2.2 + 12 := by rw [a1]
      rw [x1] at a2 a3 ⊢
      refine f_pV (a := A) (by rw [a3 _ (by omega)]; exact x4) (by show 2 < 5; omega) (fun h2 d1 d2 d3 => ?_)
      refine f_i60 (S := S + 69 * i + 12) hp mo_fu 0 h2 (by unfold mo_fu; omega) (Nat.zero_le _) ⟨?_, ?_, fun q hq => ?_, ?_, ?_, fun j hj => ?_, ?_, fun j hj => by omega⟩
      · rw [d1, hb]; rfl
      · rw [d1, hb2]; omega
      · rw [d3 q (by omega), a3 q (by omega)]; exact x3 q hq
      · rw [d2]; rfl
      · rw [d3 _ (by omega), a3 _ (by omega)]; exact x5
      · exact (x6 j hj).cg (fun q h1 h2 => by rw [d3 q (by omega), a3 q (by omega)])
      · rw [d3 _ (by omega), a2]; rfl
    · refine f_F (fun q => c ((nI_leI (by omega) (by omega)).mp q)) ?_
      refine f_gR x4 rfl (f_dom (fun h1 w1 w3 => ?_))
      have w2 := w1.2
      rw [x1] at w2 w3 ⊢
      refine f_sq w3.1 (by rw [w2 _ (by omega)]; exact x5) rfl (by omega) (by omega) (fun h3 d1 d2 d3 => ?_)
      rw [nI_1]
      refine f_i22 hp fu (i + 1) h3 (by omega) (by omega) ⟨?_, ?_, fun q hq => ?_, ?_, ?_, fun j hj => ?_⟩
      · rw [d1, w1.1, x1]; show A + 2 + 7 * i + 7 = _; omega
      · rw [d1, w1.1]; show h.2.2 + 69 ≤ _; omega
      · rw [d3 q (by omega), w2 q (by omega)]; exact x3 q hq
      · rw [d3 _ (by omega), w2 _ (by omega)]; exact x4
      · rw [d2, vu (g := fun j => A + 2 + 7 * j)]
      · by_cases e : j = i
        · subst e
          exact w3.cg (fun q h1 h2 => d3 q (by omega))
        · exact (x6 j (by omega)).cg (fun q h1 h2 => by rw [d3 q (by omega), w2 q (by omega)])
/-- a machine -/
theorem f_mach {β : Type} {Q : β → mo_H → Prop} {K : Nat → mo_M β} (hp : PF h0 h0.2.1 P nd nl la bd sz) (kk : ∀ h', h'.2.1 = h0.2.1 + 4 + 7 * nd + 6 * nl → h'.2.2 ≤ h0.2.2 + 1200 → (∀ q, q < h0.2.1 → h'.1 q = h0.1 q) → MF h' h0.2.1 P nd nl la bd sz → fh (K h0.2.1) h' Q) : fh (mo_b (mo_nc 5 dfX5) fun v => mo_b (F_X5_init v P) fun _ => K v) h0 Q := by
  have hpp := hp
  obtain ⟨p1, p2, p3, ⟨pf, Lk, F, y1, y2, y3, y4, y5, y6, y7⟩, p5⟩ := hpp
  refine f_nc (fun h1 a1 a2 a3 => ?_)
  refine f_c (Q1 := fun _ h' => h'.2.1 = h0.2.1 + 4 + 7 * nd + 6 * nl ∧ h'.2.2 ≤ h0.2.2 + 5 + nd + 69 * nd + 12 + 58 * nl + 6 ∧ (∀ q, q < h0.2.1 → h'.1 q = h0.1 q) ∧ MF h' h0.2.1 P nd nl la bd sz) ?_ (fun _ h' q => kk h' q.1 (by have := q.2.1; omega) q.2.2.1 q.2.2.2)
  unfold F_X5_init
  refine f_pV a2 (by show 0 < 5; omega) (fun h2 c1 c2 c3 => ?_)
  refine f_gI (by rw [c3 _ (by omega), a3 _ (by omega)]; exact y1) y2 ?_
  have b1 : h2.2.1 = h0.2.1 + 1 := by rw [c1, a1]
  have b2 : h2.2.2 = h0.2.2 + 5 := by rw [c1, a1]; rfl
  refine f_nq rfl (by omega) (fun h3 d1 d2 d3 => ?_)
  rw [b1] at d1 d2 d3 ⊢
  rw [b2] at d1
  refine f_pV (a := h0.2.1) (by rw [d3 _ (by omega)]; exact c2) (by show 1 < 5; omega) (fun h4 g1 g2 g3 => ?_)
  refine f_i22 (S := h0.2.2 + 5 + nd) hp mo_fu 0 h4 (by unfold mo_fu; omega) (Nat.zero_le _) ⟨?_, ?_, fun q hq => ?_, ?_, ?_, fun j hj => by omega⟩
  · rw [g1, d1]
  · rw [g1, d1]; exact Nat.le_refl _
  · rw [g3 q (by omega), d3 q (by omega), c3 q (by omega), a3 q (by omega)]
  · rw [g2]; rfl
  · rw [g3 _ (by omega), d2]; rfl
end FN
