/-! FLOW, CODE, ONFAIL, SLOT, SEAL -/
theorem fb_cg {f g : Nat → Bool} : ∀ n, (∀ x, x < n → f x = g x) → fbits f n = fbits g n
  | 0, _ => rfl
  | n + 1, h => by
    show fbits f n + _ = fbits g n + _
    rw [fb_cg n (fun x hx => h x (by omega)), h n (by omega)]
theorem fb_off (f : Nat → Bool) {b : Nat} : ∀ n, b < n → fbits f n = fbits (fun x => if x = b then false else f x) n + (if f b = true then 2 ^ b else 0)
  | 0, h => absurd h (Nat.not_lt_zero _)
  | n + 1, h => by
    show fbits f n + _ = fbits (fun x => if x = b then false else f x) n + (if (if n = b then false else f n) = true then 2 ^ n else 0) + _
    by_cases e : n = b
    · subst e
      rw [fb_cg (f := fun x => if x = n then false else f x) (g := f) n (fun x hx => if_neg (by omega)), if_pos rfl, if_neg (show ¬ (false = true) by decide)]
      omega
    · rw [fb_off f (b := b) n (by omega), if_neg e]
      omega
theorem bt_clr : ∀ m, m < 64 → ∀ b, b < 6 → nI m &&& (((1 : Int32) <<< (nI b &&& 31)) ^^^ (-1)) = nI (m - (if m.testBit b = true then 2 ^ b else 0)) := by decide +kernel
def pFl (π : mP) (a b : Nat) (v : Bool) : mP := (π.1, π.2.1, fun x y => if x = a ∧ y = b then v else pfl π x y, π.2.2.2)
def pPr (π : mP) (a : Nat) (x : Int32) : mP := (π.1, π.2.1, π.2.2.1, π.2.2.2.1, fun d => if d = a then ppr π a ++ [x] else ppr π d, π.2.2.2.2.2)
def pWy (π : mP) (a : Nat) (x : Int32) : mP := (π.1, π.2.1, π.2.2.1, π.2.2.2.1, π.2.2.2.2.1, fun d => if d = a then x else pwy π d, π.2.2.2.2.2.2)
def pSl (π : mP) (a : Nat) (x : Nat × Nat) : mP := (π.1, π.2.1, π.2.2.1, π.2.2.2.1, π.2.2.2.2.1, π.2.2.2.2.2.1, fun d => if d = a then psl π a ++ [x] else psl π d)
section JF
variable {θ : gT} {π π' : mP} {n w : Nat} {bv : Int32} {s0 s s' : gS} {W : mW} {d a b : Nat} {sl : Bool} {acts : List mAct} {T b1 b2 c : Nat} {x : Int32}
theorem dm_n (ca : ¬ (¬ x < 0 ∧ x.toNatClampNeg < π.1)) : (pC θ π s → G_X7_hasDomain θ x s = some (0, s)) ∧ (pR π s → G_X11_isDomain θ x s = some (0, s)) :=
  ⟨fun h => by rw [e_hasD h, if_neg ca], fun h => by rw [e_isD h, if_neg ca]⟩
theorem dm_y (ca : ¬ x < 0 ∧ x.toNatClampNeg < π.1) : (pC θ π s → G_X7_hasDomain θ x s = some (1, s)) ∧ (pR π s → G_X11_isDomain θ x s = some (1, s)) :=
  ⟨fun h => by rw [e_hasD h, if_pos ca], fun h => by rw [e_isD h, if_pos ca]⟩
theorem c_hasL (h : pC θ π s) : ∀ (fu m : Nat), π.2.1 - m < fu → m ≤ π.2.1 → gh (G_X7_hasLink_2 θ fu (nI a) (nI b) (nI m)) s (fun r s' => s' = s ∧ ((r = 1 ∧ ∃ c, m ≤ c ∧ c < π.2.1 ∧ plk π c 0 = nI a ∧ plk π c 1 = nI b) ∨ (r = 0 ∧ ¬ ∃ c, m ≤ c ∧ c < π.2.1 ∧ plk π c 0 = nI a ∧ plk π c 1 = nI b)))
  | 0, m, h, _ => by omega
  | fu + 1, m, hf, hm => by
    have ht := h.t1
    unfold G_X7_hasLink_2
    refine hg h.nc ?_
    refine hif (fun c => ?_) (fun c => ?_)
    · rw [nI_leI (by omega) (by omega)] at c
      exact hr0 ⟨rfl, Or.inr ⟨rfl, fun ⟨y, y1, y2, _⟩ => by omega⟩⟩
    · rw [nI_leI (by omega) (by omega)] at c
      have nx : ¬ (plk π m 0 = nI a ∧ plk π m 1 = nI b) → gh (G_X7_hasLink_38 θ (G_X7_hasLink_2 θ fu) (nI a) (nI b) (nI m)) s (fun r s' => s' = s ∧ ((r = 1 ∧ ∃ c, m ≤ c ∧ c < π.2.1 ∧ plk π c 0 = nI a ∧ plk π c 1 = nI b) ∨ (r = 0 ∧ ¬ ∃ c, m ≤ c ∧ c < π.2.1 ∧ plk π c 0 = nI a ∧ plk π c 1 = nI b))) := fun q => by
        unfold G_X7_hasLink_38
        rw [nI_1]
        refine hm2 (c_hasL h fu (m + 1) (by omega) (by omega)) (fun r s1 z => ⟨z.1, z.2.elim (fun z => Or.inl ⟨z.1, ?_⟩) (fun z => Or.inr ⟨z.1, ?_⟩)⟩)
        · obtain ⟨y, y1, y2⟩ := z.2
          exact ⟨y, by omega, y2⟩
        · rintro ⟨y, y1, y2⟩
          by_cases e : y = m
          · subst e; exact q ⟨y2.2.1, y2.2.2⟩
          · exact z.2 ⟨y, by omega, y2⟩
      refine hx rfl (by rw [ht.2.1]; omega) (by omega) ?_
      refine hg (h.lk m 0 (by omega) (by omega)) ?_
      refine hif (fun c1 => ?_) (fun c1 => nx (fun q => c1 q.1))
      refine hx rfl (by rw [ht.2.1]; omega) (by omega) ?_
      refine hg (h.lk m 1 (by omega) (by omega)) ?_
      refine hif (fun c2 => hr1 ⟨rfl, Or.inl ⟨rfl, m, Nat.le_refl _, by omega, c1, c2⟩⟩) (fun c2 => nx (fun q => c2 q.2))
theorem r_fl33 (h : pR π s) (hL : ∀ k, 42 ≤ k → s.2.1 (rk k) = rLen k) {Q : Int32 → gS → Prop} {x3 : Int32} (k1 : x3 = 0 → (∃ c, c < π.2.1 ∧ plk π c 0 = nI a ∧ plk π c 1 = nI b) → Q 0 s) (k2 : ¬ (x3 = 0 ∧ ∃ c, c < π.2.1 ∧ plk π c 0 = nI a ∧ plk π c 1 = nI b) → gh (G_X11_flow_76 θ (nI a) (nI b) x3) s Q) : ∀ (fu m : Nat), π.2.1 - m < fu → m ≤ π.2.1 → (x3 = 0 → ¬ ∃ c, c < m ∧ plk π c 0 = nI a ∧ plk π c 1 = nI b) → gh (G_X11_flow_33 θ fu (nI a) (nI b) x3 (nI m)) s Q
  | 0, m, h, _, _ => by omega
  | fu + 1, m, hf, hm, hno => by
    have ht := h.t1
    unfold G_X11_flow_33
    refine hg h.nc ?_
    refine hif (fun c => ?_) (fun c => ?_)
    · rw [nI_leI (by omega) (by omega)] at c
      have e : m = π.2.1 := by omega
      subst e
      exact k2 (fun q => hno q.1 q.2)
    · rw [nI_leI (by omega) (by omega)] at c
      have nx : (x3 = 0 → ¬ (plk π m 0 = nI a ∧ plk π m 1 = nI b)) → gh (G_X11_flow_70 θ (G_X11_flow_33 θ fu) (nI a) (nI b) x3 (nI m)) s Q := fun q => by
        unfold G_X11_flow_70
        rw [nI_1]
        refine r_fl33 h hL k1 k2 fu (m + 1) (by omega) (by omega) (fun z => ?_)
        rintro ⟨y, y1, y2⟩
        by_cases e : y = m
        · subst e; exact q z y2
        · exact hno z ⟨y, by omega, y2⟩
      refine hif (fun c3 => ?_) (fun c3 => nx (fun q => absurd q c3))
      refine hlr (i := m) rfl (hL 45 (by omega)) (by show _ < 12; omega) (h.lk m 0 (by omega) (by omega)) ?_
      refine hif (fun c1 => ?_) (fun c1 => nx (fun _ q => c1 q.1))
      refine hlr (i := m) rfl (hL 46 (by omega)) (by show _ < 12; omega) (h.lk m 1 (by omega) (by omega)) ?_
      refine hif (fun c2 => hr0 (k1 c3 ⟨m, by omega, c1, c2⟩)) (fun c2 => nx (fun _ q => c2 q.2))
theorem pR.o15 (h : pR π s) {s1 : gS} (f1 : fr (fun q => q.1 < 15) s s1) : pR π s1 := h.mv (fun k x hk => by rw [(f1.1 (rk k) (by show ¬ k < 15; omega)).1])
/-- one flow bit -/
theorem pC.flw (h : pC θ π s) (ha : a < π.1) (hb' : b < π.1) {v : Bool} {y : Int32} (hy : y = nI (fbits (pfl (pFl π a b v) a) π.1)) : pC θ (pFl π a b v) (gw s (pk 2 0 0) (upd (s.1 (pk 2 0 0)) a y)) := by
  have o : ∀ k i, k ≠ 2 → (gw s (pk 2 0 0) (upd (s.1 (pk 2 0 0)) a y)).1 (pk k 0 i) = s.1 (pk k 0 i) := fun k i hk => gw_o (pk_ne (by omega))
  refine ⟨h.t1, ?_, ?_, ⟨h.fl.1, fun x hx' => ?_⟩, fun c k hc hk => ?_, fun d hd => (h.pr d hd).cg (o 6 d (by omega)) (o 7 d (by omega)) rfl, ⟨h.wy.1, fun d hd => ?_⟩, fun x hx' => ⟨((h.sl x hx').1).cg (o 10 x (by omega)) (o 11 x (by omega)) rfl, ((h.sl x hx').2).cg (o 13 x (by omega)) (o 14 x (by omega)) rfl⟩⟩
  · rw [o 1 0 (by omega)]; exact h.nd
  · rw [o 1 0 (by omega)]; exact h.nc
  · rw [gw_s]
    by_cases e : x = a
    · subst e; rw [upd_s]; exact hy
    · rw [upd_o e, h.fl.2 x hx']
      congr 1
      exact fb_cg _ (fun z _ => (if_neg (fun q => e q.1) : (if x = a ∧ z = b then v else pfl π x z) = pfl π x z).symm)
  · rw [o 4 c (by omega)]; exact h.lk c k hc hk
  · rw [o 8 0 (by omega)]; exact h.wy.2 d hd
theorem fl_bits (ht : π.1 ≤ 6) (hb' : b < π.1) {x3 : Int32} {v : Bool} (hv : x3 = if v = true then 1 else 0) {Q : Unit → gS → Prop} (h : pC θ π s) (ha : a < π.1) (kk : ∀ y, y = nI (fbits (pfl (pFl π a b v) a) π.1) → Q () (gw s (pk 2 0 0) (upd (s.1 (pk 2 0 0)) a y))) : gh (G_X7_setFlow θ (nI a) (nI b) x3) s Q := by
  have hl' := h.fl.1
  have lt : fbits (pfl π a) π.1 < 64 := Nat.lt_of_lt_of_le (fb_lt _ _) (Nat.pow_le_pow_right (by omega) ht : 2 ^ π.1 ≤ 2 ^ 6)
  unfold G_X7_setFlow G_X7_setFlow_34
  cases v with
  | false =>
    refine hT hv ?_
    refine hl (i := a) rfl (by rw [hl']; exact ha) (by omega) (h.fl.2 a ha) ?_
    rw [bt_clr _ lt b (by omega)]
    refine hs (i := a) rfl (by rw [hl']; exact ha) (by omega) (hr (kk _ ?_))
    congr 1
    rw [fb_test _ _ b hb']
    have := fb_off (pfl π a) π.1 hb'
    rw [this, Nat.add_sub_cancel]
    exact fb_cg _ (fun z _ => by
      show (if z = b then false else pfl π a z) = (if a = a ∧ z = b then false else pfl π a z)
      by_cases e : z = b
      · rw [if_pos e, if_pos ⟨rfl, e⟩]
      · rw [if_neg e, if_neg (fun q => e q.2)])
  | true =>
    refine hF (by rw [hv]; decide) ?_
    refine hl (i := a) rfl (by rw [hl']; exact ha) (by omega) (h.fl.2 a ha) ?_
    rw [bt_or _ lt b (by omega)]
    refine hs (i := a) rfl (by rw [hl']; exact ha) (by omega) (hr (kk _ ?_))
    rw [fb_or _ hb']
    congr 1
    exact fb_cg _ (fun z _ => by
      show (if z = b then true else pfl π a z) = (if a = a ∧ z = b then true else pfl π a z)
      by_cases e : z = b
      · rw [if_pos e, if_pos ⟨rfl, e⟩]
      · rw [if_neg e, if_neg (fun q => e q.2)])
theorem pR.flw (h : pR π s) {v : Bool} (hs' : s'.1 (rk 43) = upd (s.1 (rk 43)) (6 * a + b) (if v = true then 1 else 0)) (ho : ∀ q, q ≠ rk 43 → s'.1 q = s.1 q) (ha : a < π.1) (hb' : b < π.1) : pR (pFl π a b v) s' := by
  have o : ∀ k, k ≠ 43 → s'.1 (rk k) = s.1 (rk k) := fun k hk => ho _ (rk_ne hk)
  have ht := h.t1
  refine ⟨h.t1, ?_, ?_, fun x y hx' hy hxy => ?_, fun c k hc hk => ?_, fun d hd => ⟨?_, fun p hp => ?_⟩, fun d hd => ?_, fun x hx' => ⟨?_, fun z hz => ⟨?_, ?_⟩⟩⟩
  · rw [o 41 (by omega)]; exact h.nd
  · rw [o 41 (by omega)]; exact h.nc
  · rw [hs']
    have hx6 : x < π.1 := hx'
    have hy6 : y < π.1 := hy
    show _ = if (if x = a ∧ y = b then v else pfl π x y) = true then 1 else 0
    by_cases e : x = a ∧ y = b
    · rw [if_pos e, e.1, e.2, upd_s]
    · rw [if_neg e, upd_o (by omega)]; exact h.fl x y hx' hy hxy
  · rw [o _ (by omega)]; exact h.lk c k hc hk
  · rw [o 50 (by omega)]; exact (h.pr d hd).1
  · rw [o 49 (by omega)]; exact (h.pr d hd).2 p hp
  · rw [o 51 (by omega)]; exact h.wy d hd
  · rw [o 54 (by omega)]; exact (h.sl x hx').1
  · rw [o 52 (by omega)]; exact ((h.sl x hx').2 z hz).1
  · rw [o 53 (by omega)]; exact ((h.sl x hx').2 z hz).2
theorem P_flow (J : JI θ π sl acts T n W b1 b2 s) (hc' : T ≤ c) (x1 x2 x3 : Int32) (hx3 : x3 = 0 ∨ x3 = 1) : PP θ (G_X10_flow θ x1 x2 x3) (G_X11_flow θ x1 x2 x3) c b1 b2 s := by
  have ht := J.cw.pl.t1
  have hp1 := J.cw.pl
  have hp2 := J.rr.pl
  have z : ∀ {g : Prop}, g → g := id
  cases sl with
  | true =>
    refine pp_no J hc' 0 ?_ ?_
    · unfold G_X10_flow; exact hg J.cs (hF (by decide) (hr0 ⟨rfl, rfl⟩))
    · unfold G_X11_flow
      exact hb (e_isD hp2 x1) (hif (fun _ => hr0 ⟨rfl, rfl⟩) (fun _ => hb (e_isD hp2 x2) (hif (fun _ => hr0 ⟨rfl, rfl⟩) (fun _ => hif (fun _ => hr0 ⟨rfl, rfl⟩) (fun _ => hg J.rs (hF (by decide) (hr0 ⟨rfl, rfl⟩)))))))
  | false =>
    rcases dom_cs π x1 with ⟨a, ha, rfl, ca⟩ | ca
    · rcases dom_cs π x2 with ⟨b, hb', rfl, cb⟩ | cb
      · by_cases hab : nI a = nI b
        · refine pp_no J hc' 0 ?_ ?_
          · unfold G_X10_flow
            exact hg J.cs (hT rfl (hb ((dm_y ca).1 hp1) (hF (by decide) (hb ((dm_y cb).1 hp1) (hF (by decide) (hT hab (hr0 ⟨rfl, rfl⟩)))))))
          · unfold G_X11_flow
            exact hb ((dm_y ca).2 hp2) (hF (by decide) (hb ((dm_y cb).2 hp2) (hF (by decide) (hT hab (hr0 ⟨rfl, rfl⟩)))))
        · have hab' : a ≠ b := fun e => hab (by rw [e])
          have cls : ∀ {Q : Int32 → gS → Prop}, gh (gif (x3 = 0) (gb (G_X7_hasLink θ (nI a) (nI b)) fun v4 => (gif (v4 = 0) (G_X10_flow_57 θ (nI a) (nI b) x3) (grz (0 : Int32)))) (G_X10_flow_57 θ (nI a) (nI b) x3)) s Q → gh (G_X10_flow θ (nI a) (nI b) x3) s Q := fun k => by
            unfold G_X10_flow
            exact hg J.cs (hT rfl (hb ((dm_y ca).1 hp1) (hF (by decide) (hb ((dm_y cb).1 hp1) (hF (by decide) (hF hab k))))))
          have rls : ∀ {Q : Int32 → gS → Prop} {s1 : gS}, pR π s1 → s1.1 (rk 41) 13 = 0 → gh (G_X11_flow_33 θ mo_fu (nI a) (nI b) x3 (0 : Int32)) s1 Q → gh (G_X11_flow θ (nI a) (nI b) x3) s1 Q := fun hp h13 k => by
            unfold G_X11_flow
            exact hb ((dm_y ca).2 hp) (hF (by decide) (hb ((dm_y cb).2 hp) (hF (by decide) (hF hab (hg h13 (hT rfl k))))))
          have go : ∀ v : Bool, x3 = (if v = true then 1 else 0) → (x3 = 0 → ¬ ∃ c, c < π.2.1 ∧ plk π c 0 = nI a ∧ plk π c 1 = nI b) → gh (G_X10_flow_57 θ (nI a) (nI b) x3) s (fun r1 s1 => gh (G_X11_flow θ (nI a) (nI b) x3) s1 (fun r2 s2 => r2 = r1 ∧ ∃ π sl acts T n W, JI θ π sl acts T n W b1 b2 s2 ∧ T ≤ c)) := fun v hv hno => by
            unfold G_X10_flow_57
            refine hc (Q1 := fun _ s1 => pC θ (pFl π a b v) s1 ∧ fr (fun q => q.1 < 15) s s1 ∧ s1.1 (pk 1 0 0) 8 = s.1 (pk 1 0 0) 8) (fl_bits (by omega) hb' hv hp1 ha (fun y hy => ⟨hp1.flw ha hb' hy, fr.gw (by show 2 < 15; omega), by rw [gw_o (pk_ne (by omega))]⟩)) (fun _ s1 q => ?_)
            obtain ⟨q1, q2, q3⟩ := q
            have hp3 := hp2.o15 q2
            have hL1 : ∀ k, 42 ≤ k → s1.2.1 (rk k) = rLen k := fun k hk => by rw [(q2.1 (rk k) (by show ¬ k < 15; omega)).2]; exact J.rr.ln k hk
            refine hr1 (rls hp3 (by rw [(q2.1 (rk 41) (by decide)).1]; exact J.rs) ?_)
            refine r_fl33 (a := a) (b := b) hp3 hL1 (fun e q => absurd q (hno e)) (fun _ => ?_) mo_fu 0 (by unfold mo_fu; omega) (Nat.zero_le _) (fun e q => by obtain ⟨y, y1, _⟩ := q; omega)
            unfold G_X11_flow_76
            refine hzr (i := 6 * a + b) hx3 (by rw [m_6, nI_add]) (hL1 43 (by omega)) (by show _ < 36; omega) (fun s2 e0 e1 e2 => hr1 ⟨rfl, ?_⟩)
            refine JI_pl J q2 q3 e0 (fun q hq => e2 q (fun e => ?_)) q1 (hp3.flw (a := a) (b := b) (v := v) (by rw [e1, hv]) e2 ha hb') rfl rfl (fun _ _ => rfl) ?_
            · rw [e] at hq; exact absurd hq (by decide)
            · refine ⟨⟨fun x hx' => ?_, fun k hk => ?_, J.q0.pok.2.2⟩, J.q0.sl, J.q0.pr, J.q0.lk, J.q0.wy⟩
              · exact (if_neg (fun q => hab' (q.1.symm.trans q.2)) : (if x = a ∧ x = b then v else pfl π x x) = _).trans (J.q0.pok.1 x hx')
              · obtain ⟨f, t, h1, h2, h3, h4, h5, h6⟩ := J.q0.pok.2.1 k hk
                refine ⟨f, t, h1, h2, h3, h4, h5, ?_⟩
                show (if f = a ∧ t = b then v else pfl π f t) = true
                by_cases e : f = a ∧ t = b
                · rw [if_pos e]
                  cases v with
                  | true => rfl
                  | false => exact absurd ⟨k, hk, by rw [← e.1]; exact h3, by rw [← e.2]; exact h4⟩ (hno hv)
                · rw [if_neg e]; exact h6
          refine cls (hif (fun e => ?_) (fun e => ?_))
          · unfold G_X7_hasLink
            refine hc (c_hasL hp1 (a := a) (b := b) mo_fu 0 (by unfold mo_fu; omega) (Nat.zero_le _)) (fun r s1 q => ?_)
            obtain ⟨rfl, q⟩ := q
            rcases q with ⟨rfl, q⟩ | ⟨rfl, q⟩
            · refine hF (by decide) (hr0 (rls hp2 J.rs ?_))
              have q' : ∃ c, c < π.2.1 ∧ plk π c 0 = nI a ∧ plk π c 1 = nI b := by
                obtain ⟨y, _, y2⟩ := q; exact ⟨y, y2⟩
              exact r_fl33 (a := a) (b := b) hp2 J.rr.ln (fun _ _ => ⟨rfl, π, false, acts, T, n, W, J, hc'⟩) (fun z => absurd ⟨e, q'⟩ z) mo_fu 0 (by unfold mo_fu; omega) (Nat.zero_le _) (fun e q => by obtain ⟨y, y1, _⟩ := q; omega)
            · refine hT rfl (go false e (fun _ z => q ?_))
              obtain ⟨y, y2⟩ := z
              exact ⟨y, Nat.zero_le _, y2⟩
          · exact go true (hx3.resolve_left e) (fun z => absurd z e)
      · refine pp_no J hc' 0 ?_ ?_
        · unfold G_X10_flow
          exact hg J.cs (hT rfl (hb ((dm_y ca).1 hp1) (hF (by decide) (hb ((dm_n cb).1 hp1) (hT rfl (hr0 ⟨rfl, rfl⟩))))))
        · unfold G_X11_flow
          exact hb ((dm_y ca).2 hp2) (hF (by decide) (hb ((dm_n cb).2 hp2) (hT rfl (hr0 ⟨rfl, rfl⟩))))
    · refine pp_no J hc' 0 ?_ ?_
      · unfold G_X10_flow
        exact hg J.cs (hT rfl (hb ((dm_n ca).1 hp1) (hT rfl (hr0 ⟨rfl, rfl⟩))))
      · unfold G_X11_flow
        exact hb ((dm_n ca).2 hp2) (hT rfl (hr0 ⟨rfl, rfl⟩))
end JF
