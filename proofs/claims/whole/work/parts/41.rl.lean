/-! THE REFERENCE'S WORLD: bits, single cells, inputs and outputs, messages -/
theorem m_4 (a : Nat) : (4 : Int32) * nI a = nI (4 * a) := pk_mul 4 a
theorem m_6 (a : Nat) : (6 : Int32) * nI a = nI (6 * a) := pk_mul 6 a
theorem m_8 (a : Nat) : (8 : Int32) * nI a = nI (8 * a) := pk_mul 8 a
theorem m_12 (a : Nat) : (12 : Int32) * nI a = nI (12 * a) := pk_mul 12 a
theorem m_32 (a : Nat) : (32 : Int32) * nI a = nI (32 * a) := pk_mul 32 a
theorem m_48 (a : Nat) : (48 : Int32) * nI a = nI (48 * a) := pk_mul 48 a
theorem m_64 (a : Nat) : (64 : Int32) * nI a = nI (64 * a) := pk_mul 64 a
theorem m_192 (a : Nat) : (192 : Int32) * nI a = nI (192 * a) := pk_mul 192 a
theorem m_200 (a : Nat) : (200 : Int32) * nI a = nI (200 * a) := pk_mul 200 a
theorem m_256 (a : Nat) : (256 : Int32) * nI a = nI (256 * a) := pk_mul 256 a
theorem m_3000 (a : Nat) : (3000 : Int32) * nI a = nI (3000 * a) := pk_mul 3000 a
theorem a_7 (a : Nat) : nI a + (7 : Int32) = nI (a + 7) := nI_add a 7
theorem b_shI (x s : Int32) (k : Nat) (hs : (s.toBitVec.smod 32).toNat = k) : (x >>> s).toInt = x.toInt / (2 ^ k : Nat) := by
  rw [pk_shr x s k hs, Int.shiftRight_eq_div_pow]
theorem b_toI (x : Int32) : x.toInt = if x.toBitVec.toNat < 2147483648 then (x.toBitVec.toNat : Int) else (x.toBitVec.toNat : Int) - 4294967296 := by
  show x.toBitVec.toInt = _
  rw [BitVec.toInt_eq_toNat_cond]
  have : (2 * x.toBitVec.toNat < 2 ^ 32) ↔ x.toBitVec.toNat < 2147483648 := by omega
  simp only [this]
  rfl
theorem b_sa (x : Int32) : (x >>> ((8 : Int32) &&& 31)) &&& 255 = nI (xa x) := by
  rw [pk_and _ 8 rfl]
  have h := b_shI x ((8 : Int32) &&& 31) 8 rfl
  rw [b_toI x, b_toI (x >>> ((8 : Int32) &&& 31))] at h
  have hx := x.toBitVec.isLt
  have hy := (x >>> ((8 : Int32) &&& 31)).toBitVec.isLt
  congr 1
  unfold xa
  generalize x.toBitVec.toNat = u at h hx ⊢
  generalize (x >>> ((8 : Int32) &&& 31)).toBitVec.toNat = y at h hy ⊢
  split at h <;> split at h <;> omega
theorem b_sb (x : Int32) : (x >>> ((16 : Int32) &&& 31)) &&& 255 = nI (xb x) := by
  rw [pk_and _ 8 rfl]
  have h := b_shI x ((16 : Int32) &&& 31) 16 rfl
  rw [b_toI x, b_toI (x >>> ((16 : Int32) &&& 31))] at h
  have hx := x.toBitVec.isLt
  have hy := (x >>> ((16 : Int32) &&& 31)).toBitVec.isLt
  congr 1
  unfold xb
  generalize x.toBitVec.toNat = u at h hx ⊢
  generalize (x >>> ((16 : Int32) &&& 31)).toBitVec.toNat = y at h hy ⊢
  split at h <;> split at h <;> omega
/-- the constant of instruction 1 -/
theorem b_k1 (x : Int32) : (xb x + 256 * xc x ≤ 32767 → nI (xb x + 256 * xc x) = x >>> ((16 : Int32) &&& 31)) ∧ (¬ xb x + 256 * xc x ≤ 32767 → nI (xb x + 256 * xc x) - 65536 = x >>> ((16 : Int32) &&& 31)) := by
  have h := b_shI x ((16 : Int32) &&& 31) 16 rfl
  rw [b_toI x] at h
  have hx := x.toBitVec.isLt
  have hb := xb_lt x
  have hc := xc_lt x
  have e1 : (nI (xb x + 256 * xc x)).toInt = ((xb x + 256 * xc x : Nat) : Int) := nI_toInt (by omega)
  have e2 : (nI (xb x + 256 * xc x) - nI 65536).toInt = ((xb x + 256 * xc x : Nat) : Int) - (65536 : Nat) := pk_sub_toInt (by omega) (by omega)
  have q : xb x + 256 * xc x = x.toBitVec.toNat / 65536 := by
    unfold xb xc
    omega
  constructor
  · intro hle
    apply Int32.toInt_inj.mp
    rw [e1, h, q]
    rw [q] at hle
    generalize x.toBitVec.toNat = u at hx hle ⊢
    split <;> omega
  · intro hle
    apply Int32.toInt_inj.mp
    refine Eq.trans e2 ?_
    rw [h, q]
    rw [q] at hle
    generalize x.toBitVec.toNat = u at hx hle ⊢
    split <;> omega
theorem e_arC {θ : gT} {s : gS} (x : Int32) {m : Nat} (hm : m ≤ 32) : G_X11_areCells θ x.toInt64 (lN m) s = some (if mcl x m then 1 else 0, s) := gh_eq (by
  unfold G_X11_areCells
  refine hif (fun c => ?_) (fun c => ?_)
  · rw [lg_cmp_lt, Int64.lt_iff_toInt_lt, Int32.toInt_toInt64] at c
    have c' : x < 0 := Int32.lt_iff_toInt_lt.mpr c
    rw [if_neg (fun q => q.1 c')]
    exact hr0 ⟨rfl, rfl⟩
  · rw [lg_cmp_lt, Int64.lt_iff_toInt_lt, Int32.toInt_toInt64] at c
    have c' : ¬ x < 0 := fun q => c (Int32.lt_iff_toInt_lt.mp q)
    obtain ⟨j, hj, rfl⟩ := nI_of c'
    rw [nI_l hj, lN_add]
    have e32 : (32 : Int64) = lN 32 := rfl
    rw [e32]
    refine hif (fun c2 => ?_) (fun c2 => ?_)
    · rw [lg_cmp_gt, Int64.lt_iff_toInt_lt, lN_toInt (by omega), show (lN (j + m)).toInt = ((j + m : Nat) : Int) from lg_ofNat_toInt (by omega)] at c2
      rw [if_neg (fun q => by have := q.2; rw [nI_clamp hj] at this; omega)]
      exact hr0 ⟨rfl, rfl⟩
    · rw [lg_cmp_gt, Int64.lt_iff_toInt_lt, lN_toInt (by omega), show (lN (j + m)).toInt = ((j + m : Nat) : Int) from lg_ofNat_toInt (by omega)] at c2
      rw [if_pos ⟨c', by rw [nI_clamp hj]; omega⟩]
      exact hr1 ⟨rfl, rfl⟩)
section RL
variable {θ : gT} {π : mP} {n w : Nat} {bv : Int32} {s0 s s' : gS} {W W' : mW} {d : Nat}
theorem rF_len (h : rT π n w bv s0 s W) (hQ : mQ π) {j i k : Nat} (hr : mR π j i k) : (rF w j i k).2 < rLen (rF w j i k).1 := by
  have v := rKd_v hr
  have hw := h.w3
  have ht := h.pl.t1
  rw [rF_1]
  rcases mR_lt hr with rfl | rfl | rfl | rfl | rfl | rfl
  · rw [(rF_2 w i k).1, show rKd 0 k = 61 by omega]
    have := hr.1; have := hr.2
    show _ < 144
    omega
  · rw [(rF_2 w i k).2.1, show rKd 1 k = 62 by omega]
    have := hr.1; have := hr.2
    show _ < 576
    omega
  · rw [(rF_2 w i k).2.2.1]
    have := hr.1
    have e : rLen (rKd 2 k) = 18 := by
      have : rKd 2 k = 63 ∨ rKd 2 k = 64 ∨ rKd 2 k = 69 ∨ rKd 2 k = 70 ∨ rKd 2 k = 71 := by omega
      rcases this with e | e | e | e | e <;> rw [e] <;> rfl
    rw [e]; omega
  · rw [(rF_2 w i k).2.2.2.1]
    have := hr.1
    have e : rLen (rKd 3 k) = 36 := by
      have : rKd 3 k = 78 ∨ rKd 3 k = 79 ∨ rKd 3 k = 81 ∨ rKd 3 k = 82 := by omega
      rcases this with e | e | e | e <;> rw [e] <;> rfl
    rw [e]; omega
  · rw [(rF_2 w i k).2.2.2.2.1, show rKd 4 k = 80 by omega]
    have := hr.1; have := hr.2; have := (hQ.lk i hr.1).2.1
    show _ < 144
    omega
  · rw [(rF_2 w i k).2.2.2.2.2]
    have e : rLen (rKd 5 k) = 3 := by
      have : rKd 5 k = 87 ∨ rKd 5 k = 88 ∨ rKd 5 k = 89 ∨ rKd 5 k = 90 ∨ rKd 5 k = 91 ∨ rKd 5 k = 93 := by omega
      rcases this with e | e | e | e | e | e <;> rw [e] <;> rfl
    rw [e]; omega
theorem ite_le {c : Prop} [Decidable c] {a b m : Nat} (h1 : a ≤ m) (h2 : b ≤ m) : (if c then a else b) ≤ m := by split <;> assumption
theorem rLen_le (k : Nat) : rLen k ≤ 36000 := by
  unfold rLen
  exact (ite_le (by omega) (ite_le (by omega) (ite_le (by omega) (ite_le (by omega) (ite_le (by omega) (ite_le (by omega) (ite_le (by omega) (ite_le (by omega) (ite_le (by omega) (ite_le (by omega) (ite_le (by omega) (ite_le (by omega) (ite_le (by omega) (by omega))))))))))))))
theorem rt_g (h : rT π n w bv s0 s W) (hQ : mQ π) {β : Type} {Q : β → gS → Prop} {j i k K idx : Nat} {x : Int32} {Kc : Int32 → gM β} (hr : mR π j i k) (hkk : rF w j i k = (K, idx)) (ex : x = nI idx) (kk : gh (Kc (W.1 j i k)) s Q) : gh (gb (gl (pk K 0 0) x) Kc) s Q := by
  have h1 := rF_len h hQ hr
  have h2 := h.sc j i k hr
  have h3 := rKd_r hr
  rw [← rF_1 w j i k] at h3
  rw [hkk] at h1 h2 h3
  have := rLen_le K
  exact hl (i := idx) ex (Nat.lt_of_lt_of_eq h1 (h.ln K (by have := h3.1; omega)).symm) (by have : idx < rLen K := h1; omega) h2 kk
theorem rt_s (h : rT π n w bv s0 s W) (hQ : mQ π) {β : Type} {Q : β → gS → Prop} {j i k K idx : Nat} {x v : Int32} {Kc : Unit → gM β} (hr : mR π j i k) (hkk : rF w j i k = (K, idx)) (ex : x = nI idx) (kk : ∀ s', rT π n w bv s0 s' (mA W j i k v) → gh (Kc ()) s' Q) : gh (gb (gsa (pk K 0 0) x v) Kc) s Q := by
  have h1 := rF_len h hQ hr
  have h2 := h.wr hQ (v := v) hr
  have h3 := rKd_r hr
  rw [← rF_1 w j i k] at h3
  rw [hkk] at h1 h2 h3
  have := rLen_le K
  exact hs (i := idx) ex (Nat.lt_of_lt_of_eq h1 (h.ln K (by have := h3.1; omega)).symm) (by have : idx < rLen K := h1; omega) (kk _ h2)
theorem rt_z (h : rT π n w bv s0 s W) (hQ : mQ π) {β : Type} {Q : β → gS → Prop} {j i k K idx : Nat} {x v : Int32} {Kc : Unit → gM β} (hv : v = 0 ∨ v = 1) (hr : mR π j i k) (hkk : rF w j i k = (K, idx)) (ex : x = nI idx) (kk : ∀ s', rT π n w bv s0 s' (mA W j i k v) → gh (Kc ()) s' Q) : gh (gb (gsz (pk K 0 0) x v) Kc) s Q := by
  have h1 := rF_len h hQ hr
  have h2 := h.wr hQ (v := v) hr
  have h3 := rKd_r hr
  rw [← rF_1 w j i k] at h3
  rw [hkk] at h1 h2 h3
  have := rLen_le K
  exact hsz (i := idx) hv ex (Nat.lt_of_lt_of_eq h1 (h.ln K (by have := h3.1; omega)).symm) (by have : idx < rLen K := h1; omega) (kk _ h2)
theorem rT.eqW (h : rT π n w bv s0 s W) (h1 : ∀ j i k, mR π j i k → W'.1 j i k = W.1 j i k) (h2 : ∀ j d, j < 2 → d < π.1 → W'.2.1 j d = W.2.1 j d) (h3 : ∀ j c, j < 2 → c < π.2.1 → W'.2.2 j c = W.2.2 j c) : rT π n w bv s0 s W' := by
  refine ⟨fun j i k hr => by rw [h1 j i k hr]; exact h.sc j i k hr, h.sh, h.bg, h.ln, fun d hd => ?_, ?_, h.pl, h.fm, h.w3⟩
  · rw [h2 0 d (by omega) hd, h2 1 d (by omega) hd]; exact h.io d hd
  · obtain ⟨ix, cnt, a1, a2, a3, a4⟩ := h.ms
    exact ⟨ix, cnt, a1, a2, fun c j hc hj => by rw [h3 j c hj hc]; exact a3 c j hc hj, a4⟩
theorem rM.mono {C : Nat → Nat → List (List Int32)} {n' : Nat} (h : rM π n w s C) (hn : n ≤ n') : rM π n' w s C := by
  obtain ⟨ix, cnt, a1, a2, a3⟩ := h
  exact ⟨ix, cnt, a1, by omega, a3⟩
theorem rT.mono (h : rT π n w bv s0 s W) {n' : Nat} (hn : n ≤ n') : rT π n' w bv s0 s W := ⟨h.sc, h.sh, h.bg, h.ln, h.io, h.ms.mono hn, h.pl, h.fm, h.w3⟩
/-- only inputs and outputs change -/
theorem rT.ioU (h : rT π n w bv s0 s W) (hf : rfr w s s') (ho : ∀ k, k < 65 ∨ 68 < k → s'.1 (rk k) = s.1 (rk k)) (hio : rIO π w s' W'.2.1) (hW : W'.1 = W.1) (hC : W'.2.2 = W.2.2) : rT π n w bv s0 s' W' := by
  refine ⟨fun j i k hr => ?_, fun c k hc h1 h2 => ?_, ?_, ?_, hio, ?_, h.pl.cg (fun k hk => ho k (by omega)), h.fm.tr hf, h.w3⟩
  · have hv := rKd_r hr
    rw [hW, ← h.sc j i k hr, ho _ (by rw [rF_1]; omega)]
  · rw [ho 80 (by omega)]; exact h.sh c k hc h1 h2
  · rw [ho 92 (by omega)]; exact h.bg
  · intro k hk
    rw [hf.1]; exact h.ln k hk
  · rw [hC]; exact h.ms.cg (fun k hk => ho k (by omega))
/-- only messages change -/
theorem rT.msU (h : rT π n w bv s0 s W) {n' : Nat} (hf : rfr w s s') (ho : ∀ k, ¬ ((72 ≤ k ∧ k ≤ 77) ∨ (83 ≤ k ∧ k ≤ 86)) → s'.1 (rk k) = s.1 (rk k)) (hms : rM π n' w s' W'.2.2) (hW : W'.1 = W.1) (hB : W'.2.1 = W.2.1) : rT π n' w bv s0 s' W' := by
  refine ⟨fun j i k hr => ?_, fun c k hc h1 h2 => ?_, ?_, ?_, ?_, hms, h.pl.cg (fun k hk => ho k (by omega)), h.fm.tr hf, h.w3⟩
  · have hv := rKd_r hr
    rw [hW, ← h.sc j i k hr, ho _ (by rw [rF_1]; omega)]
  · rw [ho 80 (by omega)]; exact h.sh c k hc h1 h2
  · rw [ho 92 (by omega)]; exact h.bg
  · intro k hk
    rw [hf.1]; exact h.ln k hk
  · rw [hB]; exact h.io.cg (fun k k1 k2 => ho k (by omega))
theorem upd_eq {f : Nat → Int32} {i x : Nat} {v : Int32} (h : x ≠ i) : upd f i v x = f x := upd_o h
theorem hlr {β : Type} {Q : β → gS → Prop} {K i : Nat} {x v : Int32} {Kc : Int32 → gM β} (ex : x = nI i) (hL : s.2.1 (rk K) = rLen K) (hi : i < rLen K) (e : s.1 (rk K) i = v) (k : gh (Kc v) s Q) : gh (gb (gl (pk K 0 0) x) Kc) s Q := hl (i := i) ex (Nat.lt_of_lt_of_eq hi hL.symm) (by have := rLen_le K; omega) e k
theorem hsr {β : Type} {Q : β → gS → Prop} {K i : Nat} {x v : Int32} {Kc : Unit → gM β} (ex : x = nI i) (hL : s.2.1 (rk K) = rLen K) (hi : i < rLen K) (k : ∀ s', s'.2 = s.2 → s'.1 (rk K) = upd (s.1 (rk K)) i v → (∀ q, q ≠ rk K → s'.1 q = s.1 q) → gh (Kc ()) s' Q) : gh (gb (gsa (pk K 0 0) x v) Kc) s Q := hs (i := i) ex (Nat.lt_of_lt_of_eq hi hL.symm) (by have := rLen_le K; omega) (k _ rfl gw_s (fun q hq => gw_o hq))
theorem hzr {β : Type} {Q : β → gS → Prop} {K i : Nat} {x v : Int32} {Kc : Unit → gM β} (hv : v = 0 ∨ v = 1) (ex : x = nI i) (hL : s.2.1 (rk K) = rLen K) (hi : i < rLen K) (k : ∀ s', s'.2 = s.2 → s'.1 (rk K) = upd (s.1 (rk K)) i v → (∀ q, q ≠ rk K → s'.1 q = s.1 q) → gh (Kc ()) s' Q) : gh (gb (gsz (pk K 0 0) x v) Kc) s Q := hsz (i := i) hv ex (Nat.lt_of_lt_of_eq hi hL.symm) (by have := rLen_le K; omega) (k _ rfl gw_s (fun q hq => gw_o hq))
theorem rfr.up1 {K i : Nat} {v : Int32} (hsl : rSl w K i) (e0 : s'.2 = s.2) (e1 : s'.1 (rk K) = upd (s.1 (rk K)) i v) (e2 : ∀ q, q ≠ rk K → s'.1 q = s.1 q) : rfr w s s' := by
  refine ⟨e0, fun q y hq => ?_⟩
  by_cases e : q = rk K
  · rw [e, e1, upd_o]
    rintro rfl
    exact hq ⟨by rw [e]; rfl, by rw [e]; exact hsl⟩
  · rw [e2 q e]
theorem rt_inp (h : rT π n w bv s0 s W) (hb : ∀ d, d < π.1 → (W.2.1 0 d).length ≤ 8 ∧ (W.2.1 1 d).length ≤ 200) (hd : d < π.1) {v : Int32} (hl8 : (W.2.1 0 d).length < 8) : gh (G_X11_give θ (nI w) (nI d) v) s (fun _ s' => rT π n w bv s0 s' (minp W d v)) := by
  have hw := h.w3
  have ht := h.pl.t1
  have hio := h.io d hd
  unfold G_X11_give
  simp only [m_6, m_8, nI_add]
  refine hlr (i := 6 * w + d) rfl (h.ln 66 (by omega)) (by show _ < 18; omega) hio.1.1 ?_
  simp only [nI_add]
  refine hsr (i := 8 * (6 * w + d) + (W.2.1 0 d).length) rfl (h.ln 65 (by omega)) (by show _ < 144; omega) (fun s1 f0 f1 f2 => ?_)
  have l1 : ∀ k, 42 ≤ k → s1.2.1 (rk k) = rLen k := fun k hk => by rw [f0]; exact h.ln k hk
  refine hlr (i := 6 * w + d) (v := nI (W.2.1 0 d).length) rfl (l1 66 (by omega)) (by show _ < 18; omega) (by rw [f2 _ (rk_ne (by omega))]; exact hio.1.1) ?_
  rw [nI_1]
  refine hsr (i := 6 * w + d) rfl (l1 66 (by omega)) (by show _ < 18; omega) (fun s2 g0 g1 g2 => hr ?_)
  have q1 : rfr w s s1 := rfr.up1 (K := 65) (show 48 * w ≤ _ ∧ _ < 48 * w + 48 by omega) f0 f1 f2
  have q2 : rfr w s1 s2 := rfr.up1 (K := 66) (show 6 * w ≤ _ ∧ _ < 6 * w + 6 by omega) g0 g1 g2
  refine h.ioU (W' := minp W d v) (q1.tr q2) (fun k hk => ?_) (fun x hx => ?_) rfl rfl
  · rw [g2 _ (rk_ne (by omega)), f2 _ (rk_ne (by omega))]
  · have hiox := h.io x hx
    have hbx := hb x hx
    rw [g2 _ (show rk 65 ≠ rk 66 from rk_ne (by omega)), g2 _ (show rk 67 ≠ rk 66 from rk_ne (by omega)), g2 _ (show rk 68 ≠ rk 66 from rk_ne (by omega)), g1, f2 _ (show rk 66 ≠ rk 65 from rk_ne (by omega)), f2 _ (show rk 67 ≠ rk 65 from rk_ne (by omega)), f2 _ (show rk 68 ≠ rk 65 from rk_ne (by omega)), f1]
    refine ⟨?_, hiox.2⟩
    unfold minp
    by_cases e : x = d
    · subst e
      rw [mB_s, List.length_append, List.length_singleton, upd_s]
      refine ⟨rfl, fun y hy => ?_⟩
      rw [getD_app]
      by_cases z : y = (W.2.1 0 x).length
      · rw [z, upd_s, if_neg (by omega), if_pos rfl]
      · rw [upd_o (by omega), if_pos (by omega)]
        exact hiox.1.2 y (by omega)
    · rw [mB_n (by omega), upd_o (by omega)]
      refine ⟨hiox.1.1, fun y hy => ?_⟩
      rw [upd_o (by omega)]
      exact hiox.1.2 y hy
/-- an output: its two writes -/
theorem rt_out (h : rT π n w bv s0 s W) (hb : ∀ d, d < π.1 → (W.2.1 0 d).length ≤ 8 ∧ (W.2.1 1 d).length ≤ 200) (hd : d < π.1) {v : Int32} (hl : (W.2.1 1 d).length < 200) {β : Type} {Q : β → gS → Prop} {Kc : Unit → gM β} (kk : ∀ s', rT π n w bv s0 s' (mB W 1 d (W.2.1 1 d ++ [v])) → gh (Kc ()) s' Q) : gh (gb (gsa (pk 67 0 0) (nI (200 * (6 * w + d) + (W.2.1 1 d).length)) v) fun _ => gb (gl (pk 68 0 0) (nI (6 * w + d))) fun v12 => gb (gsa (pk 68 0 0) (nI (6 * w + d)) (v12 + (1 : Int32))) Kc) s Q := by
  have hw := h.w3
  have ht := h.pl.t1
  have hio := h.io d hd
  refine hsr (i := 200 * (6 * w + d) + (W.2.1 1 d).length) rfl (h.ln 67 (by omega)) (by show _ < 3600; omega) (fun s1 f0 f1 f2 => ?_)
  have l1 : ∀ k, 42 ≤ k → s1.2.1 (rk k) = rLen k := fun k hk => by rw [f0]; exact h.ln k hk
  refine hlr (i := 6 * w + d) (v := nI (W.2.1 1 d).length) rfl (l1 68 (by omega)) (by show _ < 18; omega) (by rw [f2 _ (rk_ne (by omega))]; exact hio.2.1) ?_
  rw [nI_1]
  refine hsr (i := 6 * w + d) rfl (l1 68 (by omega)) (by show _ < 18; omega) (fun s2 g0 g1 g2 => kk s2 ?_)
  have q1 : rfr w s s1 := rfr.up1 (K := 67) (show 1200 * w ≤ _ ∧ _ < 1200 * w + 1200 by omega) f0 f1 f2
  have q2 : rfr w s1 s2 := rfr.up1 (K := 68) (show 6 * w ≤ _ ∧ _ < 6 * w + 6 by omega) g0 g1 g2
  refine h.ioU (q1.tr q2) (fun k hk => ?_) (fun x hx => ?_) rfl rfl
  · rw [g2 _ (rk_ne (by omega)), f2 _ (rk_ne (by omega))]
  · have hiox := h.io x hx
    have hbx := hb x hx
    rw [g2 _ (show rk 65 ≠ rk 68 from rk_ne (by omega)), g2 _ (show rk 66 ≠ rk 68 from rk_ne (by omega)), g2 _ (show rk 67 ≠ rk 68 from rk_ne (by omega)), g1, f2 _ (show rk 65 ≠ rk 67 from rk_ne (by omega)), f2 _ (show rk 66 ≠ rk 67 from rk_ne (by omega)), f2 _ (show rk 68 ≠ rk 67 from rk_ne (by omega)), f1]
    rw [mB_n (show ¬ (0 = 1 ∧ x = d) by omega)]
    refine ⟨hiox.1, ?_⟩
    by_cases e : x = d
    · subst e
      rw [mB_s, List.length_append, List.length_singleton, upd_s]
      refine ⟨rfl, fun y hy => ?_⟩
      rw [getD_app]
      by_cases z : y = (W.2.1 1 x).length
      · rw [z, upd_s, if_neg (by omega), if_pos rfl]
      · rw [upd_o (by omega), if_pos (by omega)]
        exact hiox.2.2 y (by omega)
    · rw [mB_n (by omega), upd_o (by omega)]
      refine ⟨hiox.2.1, fun y hy => ?_⟩
      rw [upd_o (by omega)]
      exact hiox.2.2 y hy
/-- the shift of inputs -/
theorem rt_shift (hw : w < 3) (hd6 : d < 6) {l : List Int32} (hl : l.length < 8) : ∀ (fu j : Nat) (s : gS), (∀ k, 42 ≤ k → s.2.1 (rk k) = rLen k) → s.1 (rk 66) (6 * w + d) = nI l.length → (∀ x, x < j → s.1 (rk 65) (8 * (6 * w + d) + x) = l.getD x 0) → (∀ x, j ≤ x → x < l.length → s.1 (rk 65) (8 * (6 * w + d) + (x + 1)) = l.getD x 0) → l.length - j < fu → j ≤ l.length →
    gh (G_X11_take_63 θ fu (nI (6 * w + d)) (nI j)) s (fun _ s' => s'.2 = s.2 ∧ (∀ q, q ≠ rk 65 → s'.1 q = s.1 q) ∧ (∀ y, ¬ (8 * (6 * w + d) ≤ y ∧ y < 8 * (6 * w + d) + 8) → s'.1 (rk 65) y = s.1 (rk 65) y) ∧ ∀ x, x < l.length → s'.1 (rk 65) (8 * (6 * w + d) + x) = l.getD x 0)
  | 0, j, s, _, _, _, _, h, _ => by omega
  | fu + 1, j, s, h1, h2, h3, h4, hf, hj => by
    unfold G_X11_take_63
    refine hlr (i := 6 * w + d) rfl (h1 66 (by omega)) (by show _ < 18; omega) h2 ?_
    refine hif (fun c => ?_) (fun c => ?_)
    · rw [nI_leI (by omega) (by omega)] at c
      exact hr ⟨rfl, fun _ _ => rfl, fun _ _ => rfl, fun x hx => h3 x (by omega)⟩
    · rw [nI_leI (by omega) (by omega)] at c
      simp only [m_8, nI_add, nI_1]
      refine hlr (i := 8 * (6 * w + d) + j + 1) rfl (h1 65 (by omega)) (by show _ < 144; omega) (h4 j (Nat.le_refl _) (by omega)) ?_
      refine hsr (i := 8 * (6 * w + d) + j) rfl (h1 65 (by omega)) (by show _ < 144; omega) (fun s1 f0 f1 f2 => ?_)
      refine hm (rt_shift hw hd6 hl fu (j + 1) s1 (fun k hk => by rw [f0]; exact h1 k hk) (by rw [f2 _ (rk_ne (by omega))]; exact h2) (fun x hx => ?_) (fun x hx hx2 => ?_) (by omega) (by omega)) (fun _ s2 q => ⟨q.1.trans f0, fun q' hq => (q.2.1 q' hq).trans (f2 q' hq), fun y hy => ?_, q.2.2.2⟩)
      · rw [f1]
        by_cases e : x = j
        · rw [e, upd_s]
        · rw [upd_o (by omega)]; exact h3 x (by omega)
      · rw [f1, upd_o (by omega)]; exact h4 x (by omega) hx2
      · rw [q.2.2.1 y hy, f1, upd_o (by omega)]
theorem rt_take {v : Int32} {tl : List Int32} (h : rT π n w bv s0 s W) (hb : ∀ d, d < π.1 → (W.2.1 0 d).length ≤ 8 ∧ (W.2.1 1 d).length ≤ 200) (hd : d < π.1) (hV : W.2.1 0 d = v :: tl) : gh (gb (gl (pk 66 0 0) (nI (6 * w + d))) fun v3 => gb (gsa (pk 66 0 0) (nI (6 * w + d)) (v3 - (1 : Int32))) fun _ => G_X11_take_63 θ mo_fu (nI (6 * w + d)) (0 : Int32)) s (fun _ s' => rT π n w bv s0 s' (mB W 0 d tl)) := by
  have hw := h.w3
  have ht := h.pl.t1
  have hio := h.io d hd
  have hbd := (hb d hd).1
  rw [hV] at hbd
  rw [hV] at hio
  rw [List.length_cons] at hbd
  refine hlr (i := 6 * w + d) rfl (h.ln 66 (by omega)) (by show _ < 18; omega) hio.1.1 ?_
  rw [List.length_cons, nI_pred]
  refine hsr (i := 6 * w + d) rfl (h.ln 66 (by omega)) (by show _ < 18; omega) (fun s1 f0 f1 f2 => ?_)
  refine hm (rt_shift hw (show d < 6 by omega) (l := tl) (by omega) mo_fu 0 s1 (fun k hk => by rw [f0]; exact h.ln k hk) (by rw [f1, upd_s]) (fun x hx => by omega) (fun x _ hx2 => ?_) (by unfold mo_fu; omega) (Nat.zero_le _)) (fun _ s2 q => ?_)
  · rw [f2 _ (rk_ne (by omega)), hio.1.2 (x + 1) (by rw [List.length_cons]; omega)]
    rfl
  · obtain ⟨q1, q2, q3, q4⟩ := q
    have r1 : rfr w s s1 := rfr.up1 (K := 66) (show 6 * w ≤ _ ∧ _ < 6 * w + 6 by omega) f0 f1 f2
    have r2 : rfr w s1 s2 := by
      refine ⟨q1, fun q y hq => ?_⟩
      by_cases e : q = rk 65
      · rw [e]
        refine q3 y (fun z => hq ⟨by rw [e]; rfl, ?_⟩)
        rw [e]
        show 48 * w ≤ y ∧ y < 48 * w + 48
        omega
      · rw [q2 q e]
    refine h.ioU (r1.tr r2) (fun k hk => ?_) (fun x hx => ?_) rfl rfl
    · rw [q2 _ (rk_ne (by omega)), f2 _ (rk_ne (by omega))]
    · have hiox := h.io x hx
      have hbx := hb x hx
      rw [q2 _ (show rk 66 ≠ rk 65 from rk_ne (by omega)), q2 _ (show rk 67 ≠ rk 65 from rk_ne (by omega)), q2 _ (show rk 68 ≠ rk 65 from rk_ne (by omega)), f1, f2 _ (show rk 67 ≠ rk 66 from rk_ne (by omega)), f2 _ (show rk 68 ≠ rk 66 from rk_ne (by omega)), mB_n (show ¬ (1 = 0 ∧ x = d) by omega)]
      refine ⟨?_, hiox.2⟩
      by_cases e : x = d
      · subst e
        rw [mB_s, upd_s]
        exact ⟨rfl, q4⟩
      · rw [mB_n (by omega), upd_o (by omega)]
        refine ⟨hiox.1.1, fun y hy => ?_⟩
        rw [q3 _ (by omega), f2 _ (rk_ne (by omega))]
        exact hiox.1.2 y hy
end RL
