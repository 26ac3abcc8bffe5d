/-! THE CLASS'S PURGE: which actions are kept, and doing them again -/
theorem bt_and2 : ∀ m, m < 64 → ∀ k, k < 64 → ((nI m &&& nI k = 0) ↔ m &&& k = 0) := by decide +kernel
theorem bt_or : ∀ m, m < 64 → ∀ b, b < 6 → nI m ||| ((1 : Int32) <<< (nI b &&& 31)) = nI (m ||| 2 ^ b) := by decide +kernel
theorem bt_sh : ∀ b, b < 6 → ((1 : Int32) <<< (nI b &&& 31)) = nI (2 ^ b) := by decide +kernel
theorem fb_hi (f : Nat → Bool) {n i : Nat} (h : n ≤ i) : (fbits f n).testBit i = false := Nat.testBit_lt_two_pow (Nat.lt_of_lt_of_le (fb_lt f n) (Nat.pow_le_pow_right (by omega) h))
theorem fb_or (f : Nat → Bool) {n b : Nat} (h : b < n) : fbits f n ||| 2 ^ b = fbits (fun x => if x = b then true else f x) n := by
  apply Nat.eq_of_testBit_eq
  intro i
  rw [Nat.testBit_or, Nat.testBit_two_pow]
  by_cases c : i < n
  · rw [fb_test _ _ _ c, fb_test _ _ _ c]
    by_cases e : i = b
    · rw [if_pos e, e]
      simp
    · rw [if_neg e]
      simp [Ne.symm e]
  · rw [fb_hi _ (by omega), fb_hi _ (by omega)]
    simp
    omega
theorem fb_and (f g : Nat → Bool) (n : Nat) : (fbits f n &&& fbits g n = 0) ↔ ¬ ∃ y, y < n ∧ g y = true ∧ f y = true := by
  constructor
  · rintro h ⟨y, h1, h2, h3⟩
    have : (fbits f n &&& fbits g n).testBit y = true := by
      rw [Nat.testBit_and, fb_test _ _ _ h1, fb_test _ _ _ h1, h2, h3]; rfl
    rw [h, Nat.zero_testBit] at this
    cases this
  · intro h
    apply Nat.eq_of_testBit_eq
    intro i
    rw [Nat.testBit_and, Nat.zero_testBit]
    by_cases c : i < n
    · rw [fb_test _ _ _ c, fb_test _ _ _ c]
      cases hf : f i with
      | false => rfl
      | true =>
        cases hg : g i with
        | false => rfl
        | true => exact absurd ⟨i, c, hg, hf⟩ h
    · rw [fb_hi _ (by omega)]; rfl
theorem fb_0 : ∀ n, fbits (fun _ => false) n = 0
  | 0 => rfl
  | n + 1 => by
    show fbits (fun _ => false) n + (if false = true then 2 ^ n else 0) = 0
    rw [fb_0 n]; rfl
def mS (d : Nat) (x : Nat) : Bool := if x = d then true else false
theorem fb_1 {n d : Nat} (h : d < n) : fbits (mS d) n = 2 ^ d := by
  have := fb_or (fun _ => false) h
  rw [fb_0, Nat.zero_or] at this
  exact this.symm
def mcnt : List (mAct × Bool) → Nat
  | [] => 0
  | (_, b) :: l => mcnt l + (if b = true then 1 else 0)
def cA (s : gS) (acts : List mAct) : Prop := cRow s 33 0 0 (acts.map fun a => nI a.1) ∧ cRow s 33 0 1 (acts.map fun a => if a.2.1 = true then 1 else 0) ∧ cRow s 33 0 2 (acts.map fun a => nI a.2.2.1) ∧ cRow s 33 0 3 (acts.map fun a => a.2.2.2)
def mdf : mAct := (0, false, 0, 0)
def cCh (s : gS) (w : Nat) (acts : List mAct) (L : List (mAct × Bool)) : Prop := s.1 (pk 35 w 0) 3 = nI acts.length ∧ s.1 (pk 35 w 0) 4 = nI (mcnt L) ∧ acts.length ≤ s.2.1 (pk 36 w 0) ∧ ∀ j, j < acts.length → s.1 (pk 36 w 0) j = if (L.getD j (mdf, false)).2 = true then 1 else 0
def kPg (w : Nat) (q : gK) : Prop := q = pk 35 w 0 ∨ q = pk 36 w 0
section MKP
variable {π : mP} {S : Nat → Bool}
theorem mkp_fst : ∀ l : List mAct, (mkp π S l).1.map (fun x => x.1) = l
  | [] => rfl
  | a :: l => by
    unfold mkp
    split
    · show a :: (mkp π S l).1.map _ = _
      rw [mkp_fst l]
    · show a :: (mkp π S l).1.map _ = _
      rw [mkp_fst l]
theorem mkp_len (l : List mAct) : (mkp π S l).1.length = l.length := by
  have := congrArg List.length (mkp_fst (π := π) (S := S) l)
  rw [List.length_map] at this
  exact this
theorem mcnt_le : ∀ L : List (mAct × Bool), mcnt L ≤ L.length
  | [] => Nat.le_refl _
  | (_, b) :: l => by
    have := mcnt_le l
    show mcnt l + (if b = true then 1 else 0) ≤ l.length + 1
    split <;> omega
end MKP
theorem hT' {β : Type} {s : gS} {Q : β → gS → Prop} {c : Prop} [Decidable c] {a b : gM β} (hc : c) (k : gh a s Q) : gh (gif c a b) s Q := hT hc k
section CPU
variable {θ : gT} {π : mP} {n t w d : Nat} {s0 s s' : gS} {W : mW} {acts : List mAct}
theorem cA.cg (h : cA s acts) (e : ∀ q : gK, q.1 = 33 ∨ q.1 = 34 → s'.1 q = s.1 q ∧ s'.2.1 q = s.2.1 q) : cA s' acts :=
  ⟨h.1.cg (e _ (Or.inl rfl)).1 (e _ (Or.inr rfl)).1 (e _ (Or.inr rfl)).2, h.2.1.cg (e _ (Or.inl rfl)).1 (e _ (Or.inr rfl)).1 (e _ (Or.inr rfl)).2, h.2.2.1.cg (e _ (Or.inl rfl)).1 (e _ (Or.inr rfl)).1 (e _ (Or.inr rfl)).2, h.2.2.2.cg (e _ (Or.inl rfl)).1 (e _ (Or.inr rfl)).1 (e _ (Or.inr rfl)).2⟩
theorem hggrz {β : Type} {Q : β → gS → Prop} {c : gK} {m : Nat} {x : Int32} {K : Unit → gM β} (ex : x = nI m) (hm : m ≤ 1000000) (kk : ∀ s', s'.2.1 c = m → (∀ q, q ≠ c → s'.1 q = s.1 q ∧ s'.2.1 q = s.2.1 q) → s'.2.2 = (s.2.2.1 + 1, s.2.2.2 + m) → gh (K ()) s' Q) : gh (gb (ggrz c x) K) s Q := by
  subst ex
  refine hb (a := ()) (s1 := (fun q => if q = c then (fun _ => 0) else s.1 q, fun q => if q = c then m else s.2.1 q, (s.2.2.1 + 1, s.2.2.2 + m))) ?_ (kk _ (if_pos rfl) (fun q hq => ⟨if_neg hq, if_neg hq⟩) rfl)
  unfold ggrz
  rw [nI_clamp (by omega), if_neg]
  rintro (q | q)
  · exact nI_pos (by omega) q
  · omega
theorem nI_p1 {i : Nat} : nI i + (-1) = nI i - 1 := (Int32.sub_eq_add_neg _ _).symm
theorem c_ch57 (hp' : pC θ π s0) (hA : cA s0 acts) (hN : acts.length ≤ 3000) (hd : ∀ a, a ∈ acts → a.1 < π.1) {S : Nat → Bool} {len : Nat} (hlen : acts.length ≤ len) : ∀ (fu i : Nat) (s : gS), i ≤ acts.length → i < fu → fr (kPg w) s0 s → s.1 (pk 35 w 0) 3 = nI acts.length → s.1 (pk 35 w 0) 4 = nI (mcnt (mkp π S (acts.drop i)).1) → s.2.1 (pk 36 w 0) = len → (∀ j, j < acts.length - i → s.1 (pk 36 w 0) (i + j) = if ((mkp π S (acts.drop i)).1.getD j (mdf, false)).2 = true then 1 else 0) →
    gh (G_X8_choose_57 θ fu w (nI (fbits (mkp π S (acts.drop i)).2 π.1)) (nI i - 1)) s (fun _ s' => cCh s' w acts (mkp π S acts).1 ∧ fr (kPg w) s0 s' ∧ s'.2.1 (pk 36 w 0) = len)
  | 0, i, s, _, h, _, _, _, _, _ => by omega
  | fu + 1, 0, s, hi, hf, hfr, h3, h4, hl36, hfl => by
    unfold G_X8_choose_57
    refine hT (by decide) (hr ⟨⟨h3, h4, by rw [hl36]; exact hlen, fun j hj => ?_⟩, hfr, hl36⟩)
    have := hfl j (by omega)
    rw [Nat.zero_add] at this
    exact this
  | fu + 1, i + 1, s, hi, hf, hfr, h3, h4, hl36, hfl => by
    have hps : pC θ π s := hp'.cg (fun q hq => hfr.1 q (fun z => by rcases z with rfl | rfl <;> exact absurd hq (by dsimp only [pk]; omega)))
    have hAs : cA s acts := hA.cg (fun q hq => hfr.1 q (fun z => by rcases z with rfl | rfl <;> exact absurd hq (by dsimp only [pk]; omega)))
    have ht := hps.t1
    have hlt : i < acts.length := by omega
    have hdrop : acts.drop i = acts[i] :: acts.drop (i + 1) := List.drop_eq_getElem_cons hlt
    have hget : acts.getD i mdf = acts[i] := by rw [List.getD_eq_getElem?_getD, List.getElem?_eq_getElem hlt]; rfl
    have had : acts[i].1 < π.1 := hd _ (List.getElem_mem hlt)
    generalize hX : acts[i] = a at hdrop hget had
    have h64 : ∀ f, fbits f π.1 < 64 := fun f => Nat.lt_of_lt_of_le (fb_lt f π.1) (Nat.pow_le_pow_right (by omega) (show π.1 ≤ 6 by omega))
    rw [nI_pred]
    unfold G_X8_choose_57
    refine hF (nI_pos (by omega)) ?_
    refine hb (e_getn hAs.1 rfl (by omega)) ?_
    rw [getD_map (d := mdf) hlt, hget]
    refine hl (i := a.1) rfl (by rw [hps.fl.1]; exact had) (by omega) (hps.fl.2 _ had) ?_
    have hand := (bt_and2 _ (h64 (pfl π a.1)) _ (h64 (mkp π S (acts.drop (i + 1))).2)).trans (fb_and (pfl π a.1) (mkp π S (acts.drop (i + 1))).2 π.1)
    have fin : ∀ b : Bool, (mkp π S (acts.drop i)) = (if b = true then ((a, true) :: (mkp π S (acts.drop (i + 1))).1, fun x => if x = a.1 then true else (mkp π S (acts.drop (i + 1))).2 x) else ((a, false) :: (mkp π S (acts.drop (i + 1))).1, (mkp π S (acts.drop (i + 1))).2)) → gh (G_X8_choose_99 θ (G_X8_choose_57 θ fu) w (nI (fbits (mkp π S (acts.drop (i + 1))).2 π.1)) (nI i) (nI a.1) w (nI i) (if b = true then 1 else 0)) s (fun _ s' => cCh s' w acts (mkp π S acts).1 ∧ fr (kPg w) s0 s' ∧ s'.2.1 (pk 36 w 0) = len) := fun b hb' => by
      have hne : pk 35 w 0 ≠ pk 36 w 0 := pk_ne (by omega)
      have hlens : (mkp π S (acts.drop (i + 1))).1.length = acts.length - (i + 1) := by rw [mkp_len, List.length_drop]
      unfold G_X8_choose_99 G_X8_choose_127
      refine hsz (i := i) (by cases b <;> decide) rfl (by omega) (by omega) ?_
      refine hl (i := i) (v := if b = true then 1 else 0) rfl (by show i < s.2.1 (pk 36 w 0); omega) (by omega) (by rw [gw_s, upd_s]) ?_
      have hfl' : ∀ (b : Bool) (s2 : gS), s2.1 (pk 36 w 0) = upd (s.1 (pk 36 w 0)) i (if b = true then 1 else 0) → ∀ j, j < acts.length - i → s2.1 (pk 36 w 0) (i + j) = if (((a, b) :: (mkp π S (acts.drop (i + 1))).1).getD j (mdf, false)).2 = true then 1 else 0 := fun b s2 e j hj => by
        rw [e]
        cases j with
        | zero => rw [Nat.add_zero, upd_s]; rfl
        | succ j =>
          rw [upd_o (by omega), show i + (j + 1) = i + 1 + j by omega]
          exact hfl j (by omega)
      rw [nI_p1]
      cases b with
      | false =>
        simp only [Bool.false_eq_true, if_false] at hb' ⊢
        refine hT rfl ?_
        have key := c_ch57 hp' hA hN hd (S := S) hlen fu i (gw s (pk 36 w 0) (upd (s.1 (pk 36 w 0)) i 0)) (by omega) (by omega) (hfr.tr (fr.gw (Or.inr rfl))) (by rw [gw_o hne]; exact h3) (by rw [gw_o hne, hb', h4]; show _ = nI (mcnt _ + 0); rfl) hl36 (by rw [hb']; exact hfl' false _ gw_s)
        rw [hb'] at key
        exact key
      | true =>
        simp only [if_true] at hb' ⊢
        refine hF (by decide) (hg (v := nI (mcnt (mkp π S (acts.drop (i + 1))).1)) (by rw [gw_o hne]; exact h4) (hp ?_))
        rw [nI_1, bt_or _ (h64 _) _ (by omega), fb_or _ had]
        have key := c_ch57 hp' hA hN hd (S := S) hlen fu i (gw (gw s (pk 36 w 0) (upd (s.1 (pk 36 w 0)) i 1)) (pk 35 w 0) (upd ((gw s (pk 36 w 0) (upd (s.1 (pk 36 w 0)) i 1)).1 (pk 35 w 0)) 4 (nI (mcnt (mkp π S (acts.drop (i + 1))).1 + 1)))) (by omega) (by omega) ((hfr.tr (fr.gw (Or.inr rfl))).tr (fr.gw (Or.inl rfl))) (by rw [gw_s, upd_o (by omega), gw_o hne]; exact h3) (by rw [gw_s, upd_s, hb']; rfl) hl36 (by rw [hb']; exact hfl' true _ (by rw [gw_o hne.symm, gw_s]; rfl))
        rw [hb'] at key
        exact key
    have hmk : mkp π S (acts.drop i) = (if mXb π (mkp π S (acts.drop (i + 1))).2 a.1 = true then ((a, true) :: (mkp π S (acts.drop (i + 1))).1, fun x => if x = a.1 then true else (mkp π S (acts.drop (i + 1))).2 x) else ((a, false) :: (mkp π S (acts.drop (i + 1))).1, (mkp π S (acts.drop (i + 1))).2)) := by
      rw [hdrop]; rfl
    have key := fin (mXb π (mkp π S (acts.drop (i + 1))).2 a.1) hmk
    refine hif (fun c => ?_) (fun c => ?_)
    · have c' := hand.mp c
      rw [show mXb π (mkp π S (acts.drop (i + 1))).2 a.1 = false by
        cases hx : mXb π (mkp π S (acts.drop (i + 1))).2 a.1 with
        | false => rfl
        | true => exact absurd (mXb_iff.mp hx) c'] at key
      exact key
    · have c' : mX π (mkp π S (acts.drop (i + 1))).2 a.1 := by
        by_cases z : mX π (mkp π S (acts.drop (i + 1))).2 a.1
        · exact z
        · exact absurd (hand.mpr z) c
      rw [mXb_iff.mpr c'] at key
      exact key
theorem gGL_36 (hw : w = 1 ∨ w = 2) : pk 36 w 0 ∈ gGL := by
  unfold gGL
  refine List.mem_append.mpr (Or.inr ?_)
  rcases hw with rfl | rfl <;> simp
theorem c_choose (hp' : pC θ π s) (hA : cA s acts) (hN : acts.length ≤ 3000) (hd : ∀ a, a ∈ acts → a.1 < π.1) (hdd : d < π.1) (hw : w = 1 ∨ w = 2) (hl4 : 4 ≤ s.2.1 (pk 36 w 0)) (hl6 : s.2.1 (pk 36 w 0) ≤ 6000) : gh (G_X8_choose θ w (nI d)) s (fun _ s' => cCh s' w acts (mkp π (mS d) acts).1 ∧ fr (kPg w) s s' ∧ 4 ≤ s'.2.1 (pk 36 w 0) ∧ s'.2.1 (pk 36 w 0) ≤ 6000) := by
  have ht := hp'.t1
  have hne : pk 35 w 0 ≠ pk 36 w 0 := pk_ne (by omega)
  have hcnt : G_X0_count θ s = some (nI acts.length, s) := by
    have := hA.2.2.1.1
    rw [List.length_map] at this
    show some (s.1 (pk 33 0 2) 1, s) = _
    rw [this]
  have h64 : ∀ f, fbits f π.1 < 64 := fun f => Nat.lt_of_lt_of_le (fb_lt f π.1) (Nat.pow_le_pow_right (by omega) (show π.1 ≤ 6 by omega))
  have fin : ∀ s1, fr (kPg w) s s1 → s1.1 (pk 35 w 0) 3 = nI acts.length → acts.length ≤ s1.2.1 (pk 36 w 0) → gh (G_X8_choose_40 θ w (nI d)) s1 (fun _ s' => cCh s' w acts (mkp π (mS d) acts).1 ∧ fr (kPg w) s s' ∧ s'.2.1 (pk 36 w 0) = s1.2.1 (pk 36 w 0)) := fun s1 f1 e3 hle => by
    unfold G_X8_choose_40
    refine hp (hg (v := nI acts.length) (by rw [gw_s, upd_o (by omega)]; exact e3) ?_)
    rw [bt_sh d (by omega), ← fb_1 hdd]
    have key := c_ch57 (w := w) hp' hA hN hd (S := mS d) (len := s1.2.1 (pk 36 w 0)) hle mo_fu acts.length (gw s1 (pk 35 w 0) (upd (s1.1 (pk 35 w 0)) 4 0)) (Nat.le_refl _) (by unfold mo_fu; omega) (f1.tr (fr.gw (Or.inl rfl))) (by rw [gw_s, upd_o (by omega)]; exact e3) (by rw [gw_s, upd_s, List.drop_length]; rfl) rfl (fun j hj => by omega)
    rw [List.drop_length] at key
    exact key
  unfold G_X8_choose
  refine hb hcnt (hp (hln (n := s.2.1 (pk 36 w 0)) rfl (hg (v := nI acts.length) (by rw [gw_s, upd_s]) ?_)))
  refine hif (fun c => ?_) (fun c => ?_)
  · rw [nI_leI (by omega) (by omega)] at c
    refine hm (fin _ (fr.gw (Or.inl rfl)) (by rw [gw_s, upd_s]) c) (fun _ s2 q => ⟨q.1, q.2.1, ?_, ?_⟩)
    · rw [q.2.2]; exact hl4
    · rw [q.2.2]; exact hl6
  · rw [nI_leI (by omega) (by omega)] at c
    refine hg (v := nI acts.length) (by rw [gw_s, upd_s]) (hln (n := s.2.1 (pk 36 w 0)) rfl ?_)
    obtain ⟨m, hm1, hm2, hm3⟩ : ∃ m, (if nI acts.length < ((2 : Int32) * nI (s.2.1 (pk 36 w 0))) then ((2 : Int32) * nI (s.2.1 (pk 36 w 0))) else nI acts.length) = nI m ∧ (2 * s.2.1 (pk 36 w 0) ≤ m ∧ acts.length ≤ m) ∧ m ≤ 6000 := by
      have e2 : (2 : Int32) * nI (s.2.1 (pk 36 w 0)) = nI (2 * s.2.1 (pk 36 w 0)) := pk_mul 2 _
      rw [e2]
      by_cases z : nI acts.length < nI (2 * s.2.1 (pk 36 w 0))
      · rw [if_pos z]
        rw [nI_ltI (by omega) (by omega)] at z
        exact ⟨_, rfl, ⟨Nat.le_refl _, by omega⟩, by omega⟩
      · rw [if_neg z]
        rw [nI_ltI (by omega) (by omega)] at z
        exact ⟨_, rfl, ⟨by omega, Nat.le_refl _⟩, by omega⟩
    refine hggrz (m := m) hm1 (by omega) (fun s1 e1 e2 e3 => ?_)
    have f1 : fr (kPg w) s s1 := by
      refine ⟨fun q hq => ?_, fun hL q => ?_, ?_⟩
      · have a1 := e2 q (fun z => hq (Or.inr z))
        exact ⟨a1.1.trans (gw_o (fun z => hq (Or.inl z))), a1.2⟩
      · by_cases z : q = pk 36 w 0
        · rw [z, e1]
          show m ≤ 6000
          exact hm3
        · rw [(e2 q z).2]; exact hL q
      · have hsum := (gsum_up (f := s.2.1) (g := s1.2.1) (c := pk 36 w 0) (d := m - s.2.1 (pk 36 w 0)) (fun q hq => (e2 q hq).2) (by rw [e1]; omega) gGL).2 (gGL_36 hw)
        unfold grm gpot
        rw [e3]
        exact ⟨by show s.2.2.2 + m + _ ≤ _; omega, by show 4 * (s.2.2.1 + 1) + _ ≤ _; omega⟩
    refine hm (fin s1 f1 (by rw [(e2 _ hne).1, gw_s, upd_s]) (by rw [e1]; exact hm2.2)) (fun _ s2 q => ⟨q.1, q.2.1, ?_, ?_⟩)
    · rw [q.2.2, e1]; omega
    · rw [q.2.2, e1]; exact hm3
theorem mok_end : ∀ (l : List (mAct × Bool)) (t : Nat) (W : mW), mokf π l t W → t ≤ mend l t
  | [], _, _, _ => Nat.le_refl _
  | (_, false) :: l, t, W, h => mok_end l t W h
  | (a, true) :: l, t, W, h => by
    have h1 := h.1
    have := mok_end l _ _ h.2.2.2.2
    show t ≤ mend l _
    refine Nat.le_trans ?_ this
    split <;> omega
theorem mend_kp {S : Nat → Bool} : ∀ (l : List mAct) (t t' : Nat) (W : mW), mokf π (mall l) t W → t' ≤ t → mend (mkp π S l).1 t' ≤ mend (mall l) t
  | [], _, _, _, _, h => h
  | a :: l, t, t', W, h, hle => by
    have h1 := h.1
    unfold mkp
    split
    · exact mend_kp l _ _ _ h.2.2.2.2 (Nat.le_refl _)
    · exact mend_kp l _ t' _ h.2.2.2.2 (by split <;> omega)
theorem c_redo9 (hQ : mQ π) (hw : w < 3) (hA : cA s0 acts) {L : List (mAct × Bool)} (hL : L.map (fun x => x.1) = acts) (hC : cCh s0 w acts L) (hN : acts.length ≤ 3000) {T : Nat} (hT : T < 900000) : ∀ (fu i n t : Nat) (s : gS) (W : mW), cT θ π n w s0 s W → mI π n t W → mokf π (L.drop i) t W → mend (L.drop i) t ≤ T → i ≤ L.length → L.length - i < fu → n + (L.length - i) ≤ 3000 →
    gh (G_X8_redo_9 θ fu w (nI T) (nI i)) s (fun _ s' => ∃ n', n' ≤ 3000 ∧ cT θ π n' w s0 s' (mrep π (L.drop i) t W T) ∧ mI π n' T (mrep π (L.drop i) t W T))
  | 0, i, n, t, s, W, _, _, _, _, _, h, _ => by omega
  | fu + 1, i, n, t, s, W, h, hI, hok, hend, hi, hf, hn => by
    have hlen : L.length = acts.length := by rw [← hL, List.length_map]
    have ho : ∀ q : gK, 31 < q.1 → s.1 q = s0.1 q ∧ s.2.1 q = s0.2.1 q := fun q hq => h.fm.1 q (fun z => by have := z.2.2; omega)
    have hAs : cA s acts := hA.cg (fun q hq => ho q (by omega))
    have htE := mok_end _ _ _ hok
    have h35 := ho (pk 35 w 0) (by dsimp only [pk]; omega)
    have h36 := ho (pk 36 w 0) (by dsimp only [pk]; omega)
    unfold G_X8_redo_9
    refine hg (v := nI acts.length) (by rw [h35.1]; exact hC.1) ?_
    refine hif (fun c => ?_) (fun c => ?_)
    · rw [nI_leI (by omega) (by omega)] at c
      have e0 : L.drop i = [] := List.drop_eq_nil_of_le (by omega)
      rw [e0] at hend ⊢
      unfold G_X8_redo_102
      refine hc (c_idl hQ hT h hI (by have : t ≤ T := hend; omega)) (fun _ s1 h1 => hr ⟨n, by omega, h1, ?_⟩)
      have := mid_I hQ (T - t) t W hI
      rw [show t + (T - t) = T by have : t ≤ T := hend; omega] at this
      exact this
    · rw [nI_leI (by omega) (by omega)] at c
      have hlt : i < L.length := by omega
      have hdrop : L.drop i = L[i] :: L.drop (i + 1) := List.drop_eq_getElem_cons hlt
      have hget : L.getD i (mdf, false) = L[i] := by rw [List.getD_eq_getElem?_getD, List.getElem?_eq_getElem hlt]; rfl
      have hact : acts.getD i mdf = L[i].1 := by
        rw [List.getD_eq_getElem?_getD, ← hL, List.getElem?_map, List.getElem?_eq_getElem hlt]; rfl
      generalize hX : L[i] = ab at hdrop hget hact
      obtain ⟨a, b⟩ := ab
      rw [hdrop] at hok hend ⊢
      refine hl (i := i) (v := if b = true then 1 else 0) rfl (by rw [h36.2]; have := hC.2.2.1; omega) (by omega) (by rw [h36.1, hC.2.2.2 i (by omega), hget]) ?_
      unfold G_X8_redo_96
      rw [nI_1]
      cases b with
      | false => exact hT' (by decide) (c_redo9 hQ hw hA hL hC hN hT fu (i + 1) n t s W h hI hok hend (by omega) (by omega) (by omega))
      | true =>
        obtain ⟨o1, o2, o3, o4, o5⟩ := hok
        refine hF (by decide) ?_
        have hend2 := mok_end _ _ _ o5
        have hend' : mend (L.drop (i + 1)) (if a.2.1 = true then a.2.2.1 else a.2.2.1 + 1) ≤ T := hend
        have hle : a.2.2.1 ≤ T := by
          have : a.2.2.1 ≤ (if a.2.1 = true then a.2.2.1 else a.2.2.1 + 1) := by split <;> omega
          omega
        refine hb (e_getn hAs.2.2.1 (a := i) rfl (by omega)) ?_
        rw [getD_map (d := mdf) (by omega), hact]
        refine hc (c_idl hQ (by show a.2.2.1 < 900000; omega) h hI (by omega)) (fun _ s1 h1 => ?_)
        have hI1 := mid_I hQ (a.2.2.1 - t) t W hI
        rw [show t + (a.2.2.1 - t) = a.2.2.1 by omega] at hI1
        have ho1 : ∀ q : gK, 31 < q.1 → s1.1 q = s0.1 q ∧ s1.2.1 q = s0.2.1 q := fun q hq => h1.fm.1 q (fun z => by have := z.2.2; omega)
        have hAs1 : cA s1 acts := hA.cg (fun q hq => ho1 q (by omega))
        refine hb (e_getn hAs1.2.1 (a := i) rfl (by omega)) ?_
        rw [getD_map (d := mdf) (by omega), hact]
        have ht1 := h1.pl.t1
        cases hin : a.2.1 with
        | true =>
          rw [hin] at o5 hend'
          have em : mrep π ((a, true) :: L.drop (i + 1)) t W T = mrep π (L.drop (i + 1)) a.2.2.1 (minp (mid π (a.2.2.1 - t) W) a.1 a.2.2.2) T := by
            show (if a.2.1 = true then _ else _) = _
            rw [if_pos hin]
          rw [em]
          refine hT' (if_pos rfl) ?_
          refine hb (e_getn hAs1.1 (a := i) rfl (by omega)) ?_
          rw [getD_map (d := mdf) (by omega), hact]
          refine hx rfl (by rw [ht1.1]; exact o2) (by omega) (hb (e_getn hAs1.2.2.2 (a := i) rfl (by omega)) ?_)
          rw [getD_map (d := mdf) (by omega), hact]
          have hl8 := o3 hin
          refine hc (c_add (h1.rw a.1 o2).1 _ (gGL_mem (by decide) hw (by omega)) (by show 2 * ((mid π (a.2.2.1 - t) W).2.1 0 a.1).length ≤ 16; omega)) (fun _ s2 q => ?_)
          have h2 := h1.row0 q.1 q.2
          exact c_redo9 hQ hw hA hL hC hN hT fu (i + 1) n a.2.2.1 s2 _ h2 (minp_I hI1 hl8) o5 hend' (by omega) (by omega) (by omega)
        | false =>
          rw [hin] at o5 hend'
          have em : mrep π ((a, true) :: L.drop (i + 1)) t W T = mrep π (L.drop (i + 1)) (a.2.2.1 + 1) (mpass π (mid π (a.2.2.1 - t) W) true) T := by
            show (if a.2.1 = true then _ else _) = _
            rw [if_neg (by rw [hin]; decide)]
          rw [em]
          refine hF (by decide) ?_
          refine hc (c_pass1 h1 hI1 hQ hw (by omega)) (fun _ s2 h2 => ?_)
          exact c_redo9 hQ hw hA hL hC hN hT fu (i + 1) (n + 1) (a.2.2.1 + 1) s2 _ h2 (mpass_I1 hI1 hQ) o5 hend' (by omega) (by omega) (by omega)
theorem c_redo (hQ : mQ π) (hw : w < 3) (h : cT θ π n w s s W) (hA : cA s acts) {L : List (mAct × Bool)} (hL : L.map (fun x => x.1) = acts) (hC : cCh s w acts L) (hN : acts.length ≤ 3000) {T : Nat} (hT : T < 900000) (hok : mokf π L 0 (mres π)) (hend : mend L 0 ≤ T) : gh (G_X8_redo θ w (nI T)) s (fun _ s' => ∃ n', n' ≤ 3000 ∧ cT θ π n' w s s' (mrep π L 0 (mres π) T) ∧ mI π n' T (mrep π L 0 (mres π) T)) := by
  have hlen : L.length = acts.length := by rw [← hL, List.length_map]
  unfold G_X8_redo
  exact hc (c_rst h hQ) (fun _ s1 h1 => c_redo9 hQ hw hA hL hC hN hT mo_fu 0 0 0 s1 (mres π) h1 (mres_I hQ) hok hend (Nat.zero_le _) (by unfold mo_fu; omega) (by omega))
end CPU
