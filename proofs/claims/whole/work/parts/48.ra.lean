/-! THE REFERENCE'S PURGE -/
def rA (s : gS) (acts : List mAct) : Prop := s.1 (rk 41) 14 = nI acts.length ∧ ∀ i, i < acts.length → s.1 (rk 57) i = nI (acts.getD i mdf).1 ∧ s.1 (rk 58) i = (if (acts.getD i mdf).2.1 = true then 1 else 0) ∧ s.1 (rk 59) i = nI (acts.getD i mdf).2.2.1 ∧ s.1 (rk 60) i = (acts.getD i mdf).2.2.2
def srt : List mAct → Nat → Prop
  | [], _ => True
  | a :: l, t => t ≤ a.2.2.1 ∧ srt l (if a.2.1 = true then a.2.2.1 else a.2.2.1 + 1)
def tg (l : List (mAct × Bool)) (u : Nat) : Prop := ∀ a, (a, true) ∈ l → u ≤ a.2.2.1
section SRT
variable {π : mP}
theorem mok_srt : ∀ (l : List mAct) (t : Nat) (W : mW), mokf π (mall l) t W → srt l t
  | [], _, _, _ => trivial
  | _ :: l, _, _, h => ⟨h.1, mok_srt l _ _ h.2.2.2.2⟩
theorem srt_mono : ∀ (l : List mAct) (t u : Nat), u ≤ t → srt l t → srt l u
  | [], _, _, _, _ => trivial
  | _ :: _, _, _, hu, h => ⟨Nat.le_trans hu h.1, h.2⟩
theorem srt_ge : ∀ (l : List mAct) (t : Nat), srt l t → ∀ a, a ∈ l → t ≤ a.2.2.1
  | [], _, _, _, h => by cases h
  | b :: l, t, h, a, ha => by
    rcases List.mem_cons.mp ha with rfl | ha
    · exact h.1
    · have := srt_ge l _ h.2 a ha
      have := h.1
      refine Nat.le_trans ?_ (srt_ge l _ h.2 a ha)
      split <;> omega
theorem mrep_idl : ∀ (l : List (mAct × Bool)) (t : Nat) (W : mW) (T : Nat), t < T → tg l (t + 1) → mrep π l t W T = mrep π l (t + 1) (mpass π W false) T
  | [], t, W, T, h, _ => by
    show mid π (T - t) W = mid π (T - (t + 1)) (mpass π W false)
    rw [show T - t = (T - (t + 1)) + 1 by omega]
    rfl
  | (_, false) :: l, t, W, T, h, hg => mrep_idl l t W T h (fun a ha => hg a (List.mem_cons_of_mem _ ha))
  | (b, true) :: l, t, W, T, h, hg => by
    have hb := hg b (List.mem_cons_self ..)
    have e : mid π (b.2.2.1 - t) W = mid π (b.2.2.1 - (t + 1)) (mpass π W false) := by
      rw [show b.2.2.1 - t = (b.2.2.1 - (t + 1)) + 1 by omega]
      rfl
    show (if b.2.1 = true then _ else _) = (if b.2.1 = true then _ else _)
    rw [e]
theorem mok_idl : ∀ (l : List (mAct × Bool)) (t : Nat) (W : mW), tg l (t + 1) → mokf π l t W → mokf π l (t + 1) (mpass π W false)
  | [], _, _, _, _ => trivial
  | (_, false) :: l, t, W, hg, h => mok_idl l t W (fun a ha => hg a (List.mem_cons_of_mem _ ha)) h
  | (b, true) :: l, t, W, hg, h => by
    have hb := hg b (List.mem_cons_self ..)
    have e : mid π (b.2.2.1 - t) W = mid π (b.2.2.1 - (t + 1)) (mpass π W false) := by
      rw [show b.2.2.1 - t = (b.2.2.1 - (t + 1)) + 1 by omega]
      rfl
    obtain ⟨o1, o2, o3, o4, o5⟩ := h
    rw [e] at o3 o4 o5
    exact ⟨hb, o2, o3, o4, o5⟩
theorem mend_mall : ∀ (l : List mAct) (t : Nat), srt l t → ∀ a, a ∈ l → (if a.2.1 = true then a.2.2.1 else a.2.2.1 + 1) ≤ mend (mall l) t
  | [], _, _, _, h => by cases h
  | b :: l, t, h, a, ha => by
    have key : ∀ (l : List mAct) (u : Nat), srt l u → u ≤ mend (mall l) u := fun l => by
      induction l with
      | nil => exact fun u _ => Nat.le_refl _
      | cons c l ih =>
        intro u hu
        refine Nat.le_trans ?_ (ih _ hu.2)
        have := hu.1
        split <;> omega
    rcases List.mem_cons.mp ha with rfl | ha
    · exact key l _ h.2
    · exact mend_mall l _ h.2 a ha
end SRT
section RA
variable {θ : gT} {π : mP} {n t w d : Nat} {bv : Int32} {s0 s s' : gS} {W : mW} {acts : List mAct} {S : Nat → Bool} {K : Nat}
theorem r_ch67 (hp' : pR π s) (hL : s.2.1 (rk 43) = 36) (hL97 : s.2.1 (rk 97) = 6) (hk : mPok π) {a : Nat} (ha : a < π.1) (hS : ∀ y, y < π.1 → s.1 (rk 97) y = if S y = true then 1 else 0) {k47 : Nat → Nat → Nat → Int32 → Int32 → gM Int32} {x4 x5 : Int32} {Q : Int32 → gS → Prop} : ∀ (fu k : Nat) (b : Bool), π.1 - k < fu → k ≤ π.1 → (∀ b' : Bool, (b' = true ↔ (b = true ∨ ∃ y, k ≤ y ∧ y < π.1 ∧ S y = true ∧ pfl π a y = true)) → gh (G_X11_choose_112 θ k47 K 0 0 x4 x5 (nI a) (if b' = true then 1 else 0)) s Q) → gh (G_X11_choose_67 θ k47 fu K 0 0 x4 x5 (nI a) (if b = true then 1 else 0) (nI k)) s Q
  | 0, k, b, h, _, _ => by omega
  | fu + 1, k, b, hf, hk', kk => by
    have ht := hp'.t1
    unfold G_X11_choose_67 G_X11_choose_103 G_X11_choose_99 G_X11_choose_104
    refine hg hp'.nd ?_
    refine hif (fun c => ?_) (fun c => ?_)
    · rw [nI_leI (by omega) (by omega)] at c
      refine kk b ⟨fun q => Or.inl q, fun q => ?_⟩
      rcases q with q | ⟨y, y1, y2, _⟩
      · exact q
      · omega
    · rw [nI_leI (by omega) (by omega)] at c
      rw [nI_1]
      have no : ¬ (S k = true ∧ pfl π a k = true) → gh (G_X11_choose_67 θ k47 fu K 0 0 x4 x5 (nI a) (if b = true then 1 else 0) (nI (k + 1))) s Q := fun hno => by
        refine r_ch67 hp' hL hL97 hk ha hS fu (k + 1) b (by omega) (by omega) (fun b' hb' => kk b' (hb'.trans ⟨fun q => ?_, fun q => ?_⟩))
        · rcases q with q | ⟨y, y1, y2, y3⟩
          · exact Or.inl q
          · exact Or.inr ⟨y, by omega, y2, y3⟩
        · rcases q with q | ⟨y, y1, y2, y3⟩
          · exact Or.inl q
          · by_cases e : y = k
            · subst e; exact absurd y3 hno
            · exact Or.inr ⟨y, by omega, y2, y3⟩
      cases b with
      | true =>
        refine hF (by decide) ?_
        refine r_ch67 hp' hL hL97 hk ha hS fu (k + 1) true (by omega) (by omega) (fun b' hb' => kk b' (hb'.trans ⟨fun _ => Or.inl rfl, fun _ => Or.inl rfl⟩))
      | false =>
        refine hT (by decide) (hl (i := k) rfl (by show _ < s.2.1 (rk 97); rw [hL97]; omega) (by omega) (hS k (by omega)) ?_)
        by_cases c1 : S k = true
        · rw [if_pos c1]
          refine hF (by decide) (hb (e_flT hp' hL hk ha (by omega)) ?_)
          by_cases c2 : pfl π a k = true
          · rw [if_pos c2]
            refine hF (by decide) ?_
            refine r_ch67 hp' hL hL97 hk ha hS fu (k + 1) true (by omega) (by omega) (fun b' hb' => kk b' (hb'.trans ⟨fun _ => Or.inr ⟨k, Nat.le_refl _, by omega, c1, c2⟩, fun _ => Or.inl rfl⟩))
          · rw [if_neg c2]
            exact hT rfl (no (fun q => c2 q.2))
        · rw [if_neg c1]
          exact hT rfl (no (fun q => c1 q.1))
theorem r_ch67' (hp' : pR π s) (hL : s.2.1 (rk 43) = 36) (hL97 : s.2.1 (rk 97) = 6) (hk : mPok π) {a : Nat} (ha : a < π.1) (hS : ∀ y, y < π.1 → s.1 (rk 97) y = if S y = true then 1 else 0) {k47 : Nat → Nat → Nat → Int32 → Int32 → gM Int32} {x4 x5 : Int32} {Q : Int32 → gS → Prop} (kk : ∀ b' : Bool, (b' = true ↔ (false = true ∨ ∃ y, 0 ≤ y ∧ y < π.1 ∧ S y = true ∧ pfl π a y = true)) → gh (G_X11_choose_112 θ k47 K 0 0 x4 x5 (nI a) (if b' = true then 1 else 0)) s Q) : gh (G_X11_choose_67 θ k47 mo_fu K 0 0 x4 x5 (nI a) 0 0) s Q := by
  have ht := hp'.t1
  have h := r_ch67 (θ := θ) (K := K) (k47 := k47) (x4 := x4) (x5 := x5) (Q := Q) hp' hL hL97 hk ha hS mo_fu 0 false (by unfold mo_fu; omega) (Nat.zero_le _) kk
  rw [show (if (false : Bool) = true then (1 : Int32) else 0) = 0 from rfl, nI_0] at h
  exact h
def kC (K : Nat) (s0 s : gS) : Prop := s.2 = s0.2 ∧ ∀ q, q ≠ rk 97 → q ≠ rk K → s.1 q = s0.1 q
theorem r_ch47 (hp' : pR π s0) (hLn : ∀ k, 42 ≤ k → s0.2.1 (rk k) = rLen k) (hk : mPok π) (hA : rA s0 acts) (hN : acts.length ≤ 3000) (hd : ∀ a, a ∈ acts → a.1 < π.1) (hK : K = 94 ∨ K = 95) : ∀ (fu i : Nat) (s : gS), i ≤ acts.length → i < fu → kC K s0 s → (∀ y, y < π.1 → s.1 (rk 97) y = if (mkp π S (acts.drop i)).2 y = true then 1 else 0) → (∀ j, j < acts.length - i → s.1 (rk K) (i + j) = if ((mkp π S (acts.drop i)).1.getD j (mdf, false)).2 = true then 1 else 0) →
    gh (G_X11_choose_47 θ fu K 0 0 (nI (mcnt (mkp π S (acts.drop i)).1)) (nI i - 1)) s (fun r s' => r = nI (mcnt (mkp π S acts).1) ∧ kC K s0 s' ∧ ∀ j, j < acts.length → s'.1 (rk K) j = if ((mkp π S acts).1.getD j (mdf, false)).2 = true then 1 else 0)
  | 0, i, s, _, h, _, _, _ => by omega
  | fu + 1, 0, s, hi, hf, hfr, hS, hfl => by
    unfold G_X11_choose_47
    refine hT (by decide) (hr ⟨rfl, hfr, fun j hj => ?_⟩)
    have := hfl j (by omega)
    rw [Nat.zero_add] at this
    exact this
  | fu + 1, i + 1, s, hi, hf, hfr, hS, hfl => by
    have hKn : K ≠ 97 ∧ 61 ≤ K ∧ K ≠ 41 ∧ K ≠ 57 := by omega
    have ho : ∀ k, k ≠ 97 → k ≠ K → s.1 (rk k) = s0.1 (rk k) := fun k k1 k2 => hfr.2 _ (rk_ne k1) (rk_ne k2)
    have hps : pR π s := hp'.cg (fun k hk => ho k (by omega) (by omega))
    have hLs : ∀ k, 42 ≤ k → s.2.1 (rk k) = rLen k := fun k hk => by rw [hfr.1]; exact hLn k hk
    have ht := hps.t1
    have hlt : i < acts.length := by omega
    have hdrop : acts.drop i = acts[i] :: acts.drop (i + 1) := List.drop_eq_getElem_cons hlt
    have hget : acts.getD i mdf = acts[i] := by rw [List.getD_eq_getElem?_getD, List.getElem?_eq_getElem hlt]; rfl
    have had : acts[i].1 < π.1 := hd _ (List.getElem_mem hlt)
    have hAi := (hA.2 i hlt).1
    generalize hX : acts[i] = a at hdrop hget had
    rw [hget] at hAi
    rw [nI_pred]
    unfold G_X11_choose_47
    refine hF (nI_pos (by omega)) ?_
    refine hlr (i := i) (v := nI a.1) rfl (hLs 57 (by omega)) (by show _ < 3000; omega) (by rw [ho _ (by omega) (by omega)]; exact hAi) ?_
    refine r_ch67' (S := (mkp π S (acts.drop (i + 1))).2) hps (hLs 43 (by omega)) (hLs 97 (by omega)) hk had hS (fun b hb' => ?_)
    have hbm : b = mXb π (mkp π S (acts.drop (i + 1))).2 a.1 := by
      have hx : mXb π (mkp π S (acts.drop (i + 1))).2 a.1 = true ↔ b = true := by
        rw [mXb_iff, hb']
        constructor
        · rintro ⟨y, y1, y2, y3⟩
          exact Or.inr ⟨y, Nat.zero_le _, y1, y2, y3⟩
        · rintro (q | ⟨y, _, y1, y2, y3⟩)
          · cases q
          · exact ⟨y, y1, y2, y3⟩
      cases b <;> cases hm : mXb π (mkp π S (acts.drop (i + 1))).2 a.1 <;> simp_all
    have hmk : mkp π S (acts.drop i) = (if b = true then ((a, true) :: (mkp π S (acts.drop (i + 1))).1, fun x => if x = a.1 then true else (mkp π S (acts.drop (i + 1))).2 x) else ((a, false) :: (mkp π S (acts.drop (i + 1))).1, (mkp π S (acts.drop (i + 1))).2)) := by
      rw [hdrop, hbm]; rfl
    have hfl' : ∀ (b : Bool) (s2 : gS), s2.1 (rk K) = upd (s.1 (rk K)) i (if b = true then 1 else 0) → ∀ j, j < acts.length - i → s2.1 (rk K) (i + j) = if (((a, b) :: (mkp π S (acts.drop (i + 1))).1).getD j (mdf, false)).2 = true then 1 else 0 := fun b s2 e j hj => by
      rw [e]
      cases j with
      | zero => rw [Nat.add_zero, upd_s]; rfl
      | succ j =>
        rw [upd_o (by omega), show i + (j + 1) = i + 1 + j by omega]
        exact hfl j (by omega)
    unfold G_X11_choose_112 G_X11_choose_131
    rw [nI_p1]
    have hLK : rLen K = 3000 := by rcases hK with rfl | rfl <;> rfl
    refine hzr (i := i) (by cases b <;> decide) rfl (hLs K (by omega)) (by rw [hLK]; omega) (fun s2 f0 f1 f2 => ?_)
    cases b with
    | false =>
      simp only [Bool.false_eq_true, if_false] at hmk f1
      refine hT (by decide) ?_
      have key := r_ch47 hp' hLn hk hA hN hd hK fu i s2 (by omega) (by omega) ⟨f0.trans hfr.1, fun q q1 q2 => (f2 q q2).trans (hfr.2 q q1 q2)⟩ (fun y hy => by rw [f2 _ (rk_ne (by omega)), hmk]; exact hS y hy) (by rw [hmk]; exact hfl' false s2 f1)
      rw [hmk] at key
      exact key
    | true =>
      simp only [if_true] at hmk f1
      refine hF (by decide) ?_
      have L2 : ∀ k, 42 ≤ k → s2.2.1 (rk k) = rLen k := fun k hk => by rw [f0]; exact hLs k hk
      refine hzr (i := a.1) (Or.inr rfl) rfl (L2 97 (by omega)) (by show _ < 6; omega) (fun s3 g0 g1 g2 => ?_)
      have key := r_ch47 hp' hLn hk hA hN hd hK fu i s3 (by omega) (by omega) ⟨g0.trans (f0.trans hfr.1), fun q q1 q2 => ((g2 q q1).trans (f2 q q2)).trans (hfr.2 q q1 q2)⟩ (fun y hy => by
        rw [g1, hmk]
        show _ = if (if y = a.1 then true else (mkp π S (acts.drop (i + 1))).2 y) = true then (1 : Int32) else 0
        by_cases e : y = a.1
        · rw [e, upd_s, if_pos rfl, if_pos rfl]
        · rw [upd_o e, if_neg e, f2 _ (rk_ne (by omega))]; exact hS y hy) (by rw [hmk]; exact hfl' true s3 (by rw [g2 _ (rk_ne (by omega))]; exact f1))
      rw [hmk] at key
      rw [nI_1]
      exact key
theorem r_ch8 (hLn : ∀ k, 42 ≤ k → s0.2.1 (rk k) = rLen k) (hK : K = 94 ∨ K = 95) {Q : Int32 → gS → Prop} (hd6 : d < 6) (kk : ∀ s', kC K s0 s' → (∀ y, y < 6 → s'.1 (rk 97) y = if mS d y = true then 1 else 0) → gh (G_X11_choose_36 θ K 0 0) s' Q) : ∀ (fu j : Nat) (s : gS), 6 - j < fu → j ≤ 6 → kC K s0 s → (∀ y, y < j → s.1 (rk 97) y = if mS d y = true then 1 else 0) → gh (G_X11_choose_8 θ fu (nI d) K 0 0 (nI j)) s Q
  | 0, j, s, h, _, _, _ => by omega
  | fu + 1, j, s, hf, hj, hfr, hS => by
    have hLs : ∀ k, 42 ≤ k → s.2.1 (rk k) = rLen k := fun k hk => by rw [hfr.1]; exact hLn k hk
    unfold G_X11_choose_8
    refine hif (fun c => ?_) (fun c => ?_)
    · have c' : 6 ≤ j := (nI_leI (a := 6) (by omega) (by omega)).mp c
      exact kk s hfr (fun y hy => hS y (by omega))
    · have c' : ¬ 6 ≤ j := fun q => c ((nI_leI (a := 6) (by omega) (by omega)).mpr q)
      have go : ∀ v : Int32, v = (if mS d j = true then 1 else 0) → gh (G_X11_choose_29 θ (G_X11_choose_8 θ fu) (nI d) K 0 0 (nI j) (nI j) v) s Q := fun v hv => by
        unfold G_X11_choose_29
        rw [nI_1]
        refine hzr (i := j) (by rw [hv]; split <;> simp) rfl (hLs 97 (by omega)) (by show _ < 6; omega) (fun s1 f0 f1 f2 => ?_)
        refine r_ch8 hLn hK hd6 kk fu (j + 1) s1 (by omega) (by omega) ⟨f0.trans hfr.1, fun q q1 q2 => (f2 q q1).trans (hfr.2 q q1 q2)⟩ (fun y hy => ?_)
        rw [f1]
        by_cases e : y = j
        · rw [e, upd_s, hv]
        · rw [upd_o e]; exact hS y (by omega)
      refine hif (fun c2 => ?_) (fun c2 => ?_)
      · rw [nI_eq (by omega) (by omega)] at c2
        refine go 1 ?_
        unfold mS
        rw [if_pos c2, if_pos rfl]
      · rw [nI_eq (by omega) (by omega)] at c2
        refine go 0 ?_
        unfold mS
        rw [if_neg c2]; rfl
theorem r_choose (hp' : pR π s) (hLn : ∀ k, 42 ≤ k → s.2.1 (rk k) = rLen k) (hk : mPok π) (hA : rA s acts) (hN : acts.length ≤ 3000) (hd : ∀ a, a ∈ acts → a.1 < π.1) (hdd : d < π.1) (hK : K = 94 ∨ K = 95) : gh (G_X11_choose θ (nI d) K 0 0) s (fun r s' => r = nI (mcnt (mkp π (mS d) acts).1) ∧ kC K s s' ∧ ∀ j, j < acts.length → s'.1 (rk K) j = if ((mkp π (mS d) acts).1.getD j (mdf, false)).2 = true then 1 else 0) := by
  have ht := hp'.t1
  unfold G_X11_choose
  refine r_ch8 hLn hK (show d < 6 by omega) (fun s1 c1 h1 => ?_) mo_fu 0 s (by unfold mo_fu; omega) (Nat.zero_le _) ⟨rfl, fun _ _ _ => rfl⟩ (fun y hy => by omega)
  unfold G_X11_choose_36
  refine hg (v := nI acts.length) (by rw [show pk 41 0 0 = rk 41 from rfl, c1.2 _ (rk_ne (by omega)) (rk_ne (by omega))]; exact hA.1) ?_
  have key := r_ch47 (θ := θ) (S := mS d) hp' hLn hk hA hN hd hK mo_fu acts.length s1 (Nat.le_refl _) (by unfold mo_fu; omega) c1 (fun y hy => by rw [List.drop_length]; exact h1 y (by omega)) (fun j hj => by omega)
  rw [List.drop_length] at key
  exact key
/-- the end of a replay -/
def rEnd (π : mP) (w T : Nat) (s0 : gS) (X : mW) (s' : gS) : Prop := ∃ n', n' ≤ 3000 ∧ rT π n' w (if mbgn π X then 1 else 0) s0 s' X ∧ mI π n' T X
theorem mbgn_inp {v : Int32} : mbgn π (minp W d v) ↔ mbgn π W := Iff.rfl
theorem r_ag163 (hQ : mQ π) {L : List (mAct × Bool)} (hLm : L.map (fun x => x.1) = acts) (hA : rA s0 acts) (hN : acts.length ≤ 3000) (hKf : ∀ j, j < acts.length → s0.1 (rk K) j = if (L.getD j (mdf, false)).2 = true then 1 else 0) (hK : K = 94 ∨ K = 95) {T : Nat} {X : mW} : ∀ (fu i n : Nat) (s : gS) (W : mW), rT π n w (if mbgn π W then 1 else 0) s0 s W → mI π n T W → mokf π (L.drop i) T W → (∀ a, a ∈ acts.drop i → a.2.1 = true ∧ a.2.2.1 = T) → mrep π (L.drop i) T W T = X → i ≤ acts.length → acts.length - i < fu → n + (acts.length - i) ≤ 3000 → gh (G_X11_again_163 θ fu (nI w) K 0 0 (nI i)) s (fun _ s' => rEnd π w T s0 X s')
  | 0, i, n, s, W, _, _, _, _, _, _, h, _ => by omega
  | fu + 1, i, n, s, W, h, hI, hok, hin, hX, hi, hf, hn => by
    have hlen : L.length = acts.length := by rw [← hLm, List.length_map]
    have ho : ∀ k, k < 61 ∨ 93 < k → s.1 (rk k) = s0.1 (rk k) := fun k hk => h.fm.o (q := rk k) hk
    unfold G_X11_again_163
    refine hg (v := nI acts.length) (by rw [show pk 41 0 0 = rk 41 from rfl, ho 41 (by omega)]; exact hA.1) ?_
    refine hif (fun c => ?_) (fun c => ?_)
    · rw [nI_leI (by omega) (by omega)] at c
      rw [List.drop_eq_nil_of_le (by omega)] at hX
      have e : X = W := by
        rw [← hX]
        show mid π (T - T) W = W
        rw [Nat.sub_self]; rfl
      rw [e]
      exact hr ⟨n, by omega, h, hI⟩
    · rw [nI_leI (by omega) (by omega)] at c
      have hlt : i < L.length := by omega
      have hlt2 : i < acts.length := by omega
      have hdrop : L.drop i = L[i] :: L.drop (i + 1) := List.drop_eq_getElem_cons hlt
      have hdrop2 : acts.drop i = acts[i] :: acts.drop (i + 1) := List.drop_eq_getElem_cons hlt2
      have hget : L.getD i (mdf, false) = L[i] := by rw [List.getD_eq_getElem?_getD, List.getElem?_eq_getElem hlt]; rfl
      have hact : acts.getD i mdf = L[i].1 := by
        rw [List.getD_eq_getElem?_getD, ← hLm, List.getElem?_map, List.getElem?_eq_getElem hlt]; rfl
      have hact2 : acts.getD i mdf = acts[i] := by rw [List.getD_eq_getElem?_getD, List.getElem?_eq_getElem hlt2]; rfl
      have hAi := hA.2 i hlt2
      have hKi := hKf i hlt2
      have hin1 := hin acts[i] (by rw [hdrop2]; exact List.mem_cons_self ..)
      rw [← hact2, hact] at hin1
      rw [hact] at hAi
      rw [hget] at hKi
      generalize hY : L[i] = ab at hdrop hAi hKi hin1
      obtain ⟨a, b⟩ := ab
      have hin2 : ∀ a, a ∈ acts.drop (i + 1) → a.2.1 = true ∧ a.2.2.1 = T := fun a ha => hin a (by rw [hdrop2]; exact List.mem_cons_of_mem _ ha)
      rw [hdrop] at hok hX
      unfold G_X11_again_194
      rw [nI_1]
      have hLK : rLen K = 3000 := by rcases hK with rfl | rfl <;> rfl
      refine hlr (i := i) (v := if b = true then 1 else 0) rfl (h.ln K (by omega)) (by rw [hLK]; omega) (by rw [ho K (by omega)]; exact hKi) ?_
      cases b with
      | false => exact hT (by decide) (r_ag163 hQ hLm hA hN hKf hK fu (i + 1) n s W h hI hok hin2 hX (by omega) (by omega) (by omega))
      | true =>
        obtain ⟨o1, o2, o3, o4, o5⟩ := hok
        have ein : a.2.1 = true := hin1.1
        have eti : a.2.2.1 = T := hin1.2
        rw [if_pos ein, if_pos ein, eti] at o5
        have o3' := o3 ein
        rw [eti, Nat.sub_self] at o3'
        rw [Nat.sub_self] at o5
        refine hF (by decide) ?_
        refine hlr (i := i) (v := nI a.1) rfl (h.ln 57 (by omega)) (by show _ < 3000; omega) (by rw [ho 57 (by omega)]; exact hAi.1) ?_
        refine hlr (i := i) (v := a.2.2.2) rfl (h.ln 60 (by omega)) (by show _ < 3000; omega) (by rw [ho 60 (by omega)]; exact hAi.2.2.2) ?_
        refine hc (rt_inp h hI.io o2 o3') (fun _ s1 h1 => ?_)
        refine r_ag163 hQ hLm hA hN hKf hK fu (i + 1) n s1 (minp W a.1 a.2.2.2) h1 (minp_I hI o3') o5 hin2 ?_ (by omega) (by omega) (by omega)
        rw [← hX]
        show _ = (if a.2.1 = true then _ else _)
        rw [if_pos ein, eti, Nat.sub_self]
        rfl
theorem r_again (hQ : mQ π) {L : List (mAct × Bool)} (hLm : L.map (fun x => x.1) = acts) (hA : rA s0 acts) (hN : acts.length ≤ 3000) (hKf : ∀ j, j < acts.length → s0.1 (rk K) j = if (L.getD j (mdf, false)).2 = true then 1 else 0) (hK : K = 94 ∨ K = 95) (hw : w = 1 ∨ w = 2) {T : Nat} (hT : T < 900000) (hT0 : s0.1 (rk 87) 0 = nI T) {X : mW} : ∀ (fu i n t : Nat) (s : gS) (W : mW), rT π n w (if mbgn π W then 1 else 0) s0 s W → mI π n t W → mokf π (L.drop i) t W → srt (acts.drop i) t → (∀ a, a ∈ acts.drop i → (if a.2.1 = true then a.2.2.1 else a.2.2.1 + 1) ≤ T) → mrep π (L.drop i) t W T = X → i ≤ acts.length → t ≤ T → T - t < fu → n + (acts.length - i) ≤ 3000 → gh (G_X11_again_7 θ fu (nI w) K 0 0 (nI i)) s (fun _ s' => rEnd π w T s0 X s')
  | 0, i, n, t, s, W, _, _, _, _, _, _, _, _, h, _ => by omega
  | fu + 1, i, n, t, s, W, h, hI, hok, hsr, hen, hX, hi, htT, hf, hn => by
    have hlen : L.length = acts.length := by rw [← hLm, List.length_map]
    have hLK : rLen K = 3000 := by rcases hK with rfl | rfl <;> rfl
    have h870 : ∀ s1 : gS, rfr w s0 s1 → s1.1 (rk 87) 0 = nI T := fun s1 r => by
      rw [r.2 (rk 87) 0 (fun z => ?_)]
      · exact hT0
      · have : 0 = w := z.2
        omega
    have hmem : ∀ i a, (a, true) ∈ L.drop i → a ∈ acts.drop i := fun i a ha => by
      have : a ∈ (L.drop i).map (fun x => x.1) := List.mem_map.mpr ⟨(a, true), ha, rfl⟩
      rw [List.map_drop, hLm] at this
      exact this
    unfold G_X11_again_7
    refine rt_g h hQ (j := 5) (i := 0) (k := 1) ⟨rfl, by omega, by omega⟩ rfl rfl ?_
    rw [hI.ck.1]
    refine hlr (i := 0) (v := nI T) rfl (h.ln 87 (by omega)) (by show _ < 3; omega) (h870 s h.fm) ?_
    refine hif (fun c => ?_) (fun c => ?_)
    · rw [nI_leI (by omega) (by omega)] at c
      have e : t = T := by omega
      subst e
      refine r_ag163 hQ hLm hA hN hKf hK mo_fu i n s W h hI hok (fun a ha => ?_) hX hi (by unfold mo_fu; omega) hn
      have a1 := srt_ge _ _ hsr a ha
      have a2 := hen a ha
      cases hb : a.2.1 with
      | true => rw [hb] at a2; simp only [if_true] at a2; exact ⟨rfl, by omega⟩
      | false => rw [hb] at a2; simp only [Bool.false_eq_true, if_false] at a2; omega
    · rw [nI_leI (by omega) (by omega)] at c
      have htlt : t < T := by omega
      -- a tick without a step
      have idle : ∀ (i n : Nat) (s : gS) (W : mW), rT π n w (if mbgn π W then 1 else 0) s0 s W → mI π n t W → mokf π (L.drop i) t W → srt (acts.drop i) (t + 1) → (∀ a, a ∈ acts.drop i → (if a.2.1 = true then a.2.2.1 else a.2.2.1 + 1) ≤ T) → mrep π (L.drop i) t W T = X → i ≤ acts.length → n + (acts.length - i) ≤ 3000 → gh (gb (G_X11_pass θ (nI w) 0) fun v1 => G_X11_again_7 θ fu (nI w) K 0 0 (nI i)) s (fun _ s' => rEnd π w T s0 X s') := fun i n s W h hI hok hsr hen hX hi hn => by
        have htg : tg (L.drop i) (t + 1) := fun a ha => srt_ge _ _ hsr a (hmem i a ha)
        have hp := r_pass (θ := θ) h hI hQ rfl (by omega) false (fun q => by cases q)
        simp only [Bool.false_eq_true, if_false] at hp
        refine hc hp (fun _ s1 h1 => ?_)
        refine r_again hQ hLm hA hN hKf hK hw hT hT0 fu i n (t + 1) s1 _ h1 (mpass_I hI hQ) (mok_idl _ _ _ htg hok) hsr hen ?_ hi (by omega) (by omega) hn
        rw [← mrep_idl _ _ _ _ htlt htg]
        exact hX
      -- the step of this tick, if there is one
      have step : ∀ (i n : Nat) (s : gS) (W : mW), rT π n w (if mbgn π W then 1 else 0) s0 s W → mI π n t W → mokf π (L.drop i) t W → srt (acts.drop i) t → (∀ a, a ∈ acts.drop i → (if a.2.1 = true then a.2.2.1 else a.2.2.1 + 1) ≤ T) → mrep π (L.drop i) t W T = X → i ≤ acts.length → n + (acts.length - i) ≤ 3000 → (∀ a, (acts.drop i).head? = some a → a.2.1 = true → a.2.2.1 ≠ t) → gh (G_X11_again_83 θ (G_X11_again_7 θ fu) (nI w) K 0 0 (nI i)) s (fun _ s' => rEnd π w T s0 X s') := fun i n s W h hI hok hsr hen hX hi hn hne => by
        have ho : ∀ k, k < 61 ∨ 93 < k → s.1 (rk k) = s0.1 (rk k) := fun k hk => h.fm.o (q := rk k) hk
        unfold G_X11_again_83 G_X11_again_119 G_X11_again_120 G_X11_again_137 G_X11_again_138 G_X11_again_151
        have no : srt (acts.drop i) (t + 1) → gh (gif ((0 : Int32) = 0) (gif ((0 : Int32) = 0) (gb (G_X11_pass θ (nI w) 0) fun v1 => G_X11_again_7 θ fu (nI w) K 0 0 (nI i + 0)) (gb (G_X11_pass θ (nI w) 0) fun v1 => G_X11_again_7 θ fu (nI w) K 0 0 (nI i + 1))) (gb (gl (pk K 0 0) (nI i)) fun v1 => gif (v1 = 0) (gif ((0 : Int32) = 0) (gb (G_X11_pass θ (nI w) 0) fun v1 => G_X11_again_7 θ fu (nI w) K 0 0 (nI i + 0)) (gb (G_X11_pass θ (nI w) 0) fun v1 => G_X11_again_7 θ fu (nI w) K 0 0 (nI i + 1))) (gif ((0 : Int32) = 0) (gb (G_X11_pass θ (nI w) 1) fun v1 => G_X11_again_7 θ fu (nI w) K 0 0 (nI i + 0)) (gb (G_X11_pass θ (nI w) 1) fun v1 => G_X11_again_7 θ fu (nI w) K 0 0 (nI i + 1))))) s (fun _ s' => rEnd π w T s0 X s') := fun hs' => by
          refine hT' rfl (hT' rfl ?_)
          rw [show nI i + 0 = nI i from Int32.add_zero _]
          exact idle i n s W h hI hok hs' hen hX hi hn
        refine hg (v := nI acts.length) (by rw [show pk 41 0 0 = rk 41 from rfl, ho 41 (by omega)]; exact hA.1) ?_
        refine hif (fun c1 => ?_) (fun c1 => ?_)
        · rw [nI_leI (by omega) (by omega)] at c1
          exact no (by rw [List.drop_eq_nil_of_le c1]; trivial)
        · rw [nI_leI (by omega) (by omega)] at c1
          have hlt : i < L.length := by omega
          have hlt2 : i < acts.length := by omega
          have hdrop : L.drop i = L[i] :: L.drop (i + 1) := List.drop_eq_getElem_cons hlt
          have hdrop2 : acts.drop i = acts[i] :: acts.drop (i + 1) := List.drop_eq_getElem_cons hlt2
          have hget : L.getD i (mdf, false) = L[i] := by rw [List.getD_eq_getElem?_getD, List.getElem?_eq_getElem hlt]; rfl
          have hact : acts.getD i mdf = L[i].1 := by
            rw [List.getD_eq_getElem?_getD, ← hLm, List.getElem?_map, List.getElem?_eq_getElem hlt]; rfl
          have hact2 : acts[i] = L[i].1 := by rw [← hact, List.getD_eq_getElem?_getD, List.getElem?_eq_getElem hlt2]; rfl
          have hAi := hA.2 i hlt2
          have hKi := hKf i hlt2
          rw [hact] at hAi
          rw [hget] at hKi
          rw [hact2] at hdrop2
          generalize hY : L[i] = ab at hdrop hdrop2 hAi hKi
          obtain ⟨a, b⟩ := ab
          have hsr0 := hsr
          rw [hdrop2] at hsr
          obtain ⟨sr1, sr2⟩ : t ≤ a.2.2.1 ∧ srt (acts.drop (i + 1)) (if a.2.1 = true then a.2.2.1 else a.2.2.1 + 1) := hsr
          have late : t + 1 ≤ a.2.2.1 → srt (acts.drop i) (t + 1) := fun q => by
            rw [hdrop2]
            exact ⟨q, sr2⟩
          have hne' := hne a (by rw [hdrop2]; rfl)
          refine hlr (i := i) (v := if a.2.1 = true then 1 else 0) rfl (h.ln 58 (by omega)) (by show _ < 3000; omega) (by rw [ho 58 (by omega)]; exact hAi.2.1) ?_
          cases hb : a.2.1 with
          | true =>
            refine hF (by decide) ?_
            exact no (late (by have := hne' hb; omega))
          | false =>
            rw [hb] at sr2
            simp only [Bool.false_eq_true, if_false] at sr2
            refine hT' (by decide) ?_
            refine hlr (i := i) (v := nI a.2.2.1) rfl (h.ln 59 (by omega)) (by show _ < 3000; omega) (by rw [ho 59 (by omega)]; exact hAi.2.2.1) ?_
            refine rt_g h hQ (j := 5) (i := 0) (k := 1) ⟨rfl, by omega, by omega⟩ rfl rfl ?_
            rw [hI.ck.1]
            have haT := hen a (by rw [hdrop2]; exact List.mem_cons_self ..)
            rw [hb] at haT
            simp only [Bool.false_eq_true, if_false] at haT
            have hen2 : ∀ a, a ∈ acts.drop (i + 1) → (if a.2.1 = true then a.2.2.1 else a.2.2.1 + 1) ≤ T := fun a ha => hen a (by rw [hdrop2]; exact List.mem_cons_of_mem _ ha)
            refine hif (fun c2 => ?_) (fun c2 => ?_)
            · have c2' : a.2.2.1 = t := (nI_eq (by omega) (by omega)).mp c2
              rw [c2'] at sr2
              refine hF (by decide) ?_
              refine hlr (i := i) (v := if b = true then 1 else 0) rfl (h.ln K (by omega)) (by rw [hLK]; omega) (by rw [ho K (by omega)]; exact hKi) ?_
              rw [hdrop] at hok hX
              cases b with
              | false =>
                refine hT' (by decide) (hF (by decide) ?_)
                rw [nI_1]
                exact idle (i + 1) n s W h hI hok sr2 hen2 hX (by omega) (by omega)
              | true =>
                obtain ⟨o1, o2, o3, o4, o5⟩ := hok
                rw [if_neg (by rw [hb]; decide), if_neg (by rw [hb]; decide)] at o5
                rw [show (a, true).1.2.2.1 = t from c2'] at o5
                rw [Nat.sub_self] at o5
                refine hF (by decide) (hF (by decide) ?_)
                rw [nI_1]
                have hp := r_pass (θ := θ) h hI hQ rfl (by omega) true (fun _ => by omega)
                simp only [if_true] at hp
                refine hc hp (fun _ s1 h1 => ?_)
                refine r_again hQ hLm hA hN hKf hK hw hT hT0 fu (i + 1) (n + 1) (t + 1) s1 _ h1 (mpass_I1 hI hQ) o5 sr2 hen2 ?_ (by omega) (by omega) (by omega) (by omega)
                rw [← hX]
                show _ = (if a.2.1 = true then _ else _)
                rw [if_neg (by rw [hb]; decide), c2', Nat.sub_self]
                rfl
            · have c2' : a.2.2.1 ≠ t := fun q => c2 (by rw [q])
              exact no (late (by omega))
      -- the inputs of this tick
      have inputs : ∀ (fu2 i n : Nat) (s : gS) (W : mW), rT π n w (if mbgn π W then 1 else 0) s0 s W → mI π n t W → mokf π (L.drop i) t W → srt (acts.drop i) t → (∀ a, a ∈ acts.drop i → (if a.2.1 = true then a.2.2.1 else a.2.2.1 + 1) ≤ T) → mrep π (L.drop i) t W T = X → i ≤ acts.length → n + (acts.length - i) ≤ 3000 → acts.length - i < fu2 → gh (G_X11_again_22 θ (G_X11_again_7 θ fu) fu2 (nI w) K 0 0 (nI i)) s (fun _ s' => rEnd π w T s0 X s') := by
        intro fu2
        induction fu2 with
        | zero => intro i n s W _ _ _ _ _ _ _ _ h; omega
        | succ fu2 ih =>
          intro i n s W h hI hok hsr hen hX hi hn hf2
          have ho : ∀ k, k < 61 ∨ 93 < k → s.1 (rk k) = s0.1 (rk k) := fun k hk => h.fm.o (q := rk k) hk
          unfold G_X11_again_22 G_X11_again_77
          refine hg (v := nI acts.length) (by rw [show pk 41 0 0 = rk 41 from rfl, ho 41 (by omega)]; exact hA.1) ?_
          refine hif (fun c1 => ?_) (fun c1 => ?_)
          · rw [nI_leI (by omega) (by omega)] at c1
            exact step i n s W h hI hok hsr hen hX hi hn (fun a ha => by rw [List.drop_eq_nil_of_le c1] at ha; cases ha)
          · rw [nI_leI (by omega) (by omega)] at c1
            have hlt : i < L.length := by omega
            have hlt2 : i < acts.length := by omega
            have hdrop : L.drop i = L[i] :: L.drop (i + 1) := List.drop_eq_getElem_cons hlt
            have hdrop2 : acts.drop i = acts[i] :: acts.drop (i + 1) := List.drop_eq_getElem_cons hlt2
            have hget : L.getD i (mdf, false) = L[i] := by rw [List.getD_eq_getElem?_getD, List.getElem?_eq_getElem hlt]; rfl
            have hact : acts.getD i mdf = L[i].1 := by
              rw [List.getD_eq_getElem?_getD, ← hLm, List.getElem?_map, List.getElem?_eq_getElem hlt]; rfl
            have hact2 : acts[i] = L[i].1 := by rw [← hact, List.getD_eq_getElem?_getD, List.getElem?_eq_getElem hlt2]; rfl
            have hAi := hA.2 i hlt2
            have hKi := hKf i hlt2
            rw [hact] at hAi
            rw [hget] at hKi
            rw [hact2] at hdrop2
            generalize hY : L[i] = ab at hdrop hdrop2 hAi hKi
            obtain ⟨a, b⟩ := ab
            have hh : (acts.drop i).head? = some a := by rw [hdrop2]; rfl
            refine hlr (i := i) (v := if a.2.1 = true then 1 else 0) rfl (h.ln 58 (by omega)) (by show _ < 3000; omega) (by rw [ho 58 (by omega)]; exact hAi.2.1) ?_
            cases hb : a.2.1 with
            | false =>
              refine hT' (by decide) ?_
              refine step i n s W h hI hok hsr hen hX hi hn (fun a' ha' q => ?_)
              rw [hh] at ha'
              cases ha'
              rw [hb] at q; cases q
            | true =>
              refine hF (by decide) ?_
              refine hlr (i := i) (v := nI a.2.2.1) rfl (h.ln 59 (by omega)) (by show _ < 3000; omega) (by rw [ho 59 (by omega)]; exact hAi.2.2.1) ?_
              refine rt_g h hQ (j := 5) (i := 0) (k := 1) ⟨rfl, by omega, by omega⟩ rfl rfl ?_
              rw [hI.ck.1]
              have haT := hen a (by rw [hdrop2]; exact List.mem_cons_self ..)
              rw [hb] at haT
              simp only [if_true] at haT
              refine hif (fun c2 => ?_) (fun c2 => ?_)
              · have c2' : a.2.2.1 = t := (nI_eq (by omega) (by omega)).mp c2
                have hen2 : ∀ a, a ∈ acts.drop (i + 1) → (if a.2.1 = true then a.2.2.1 else a.2.2.1 + 1) ≤ T := fun a ha => hen a (by rw [hdrop2]; exact List.mem_cons_of_mem _ ha)
                have hsr2 : srt (acts.drop (i + 1)) t := by
                  rw [hdrop2] at hsr
                  have := hsr.2
                  rw [hb] at this
                  simp only [if_true] at this
                  rw [c2'] at this
                  exact this
                rw [hdrop] at hok hX
                refine hlr (i := i) (v := if b = true then 1 else 0) rfl (h.ln K (by omega)) (by rw [hLK]; omega) (by rw [ho K (by omega)]; exact hKi) ?_
                rw [nI_1]
                cases b with
                | false => exact hT' (by decide) (ih (i + 1) n s W h hI hok hsr2 hen2 hX (by omega) (by omega) (by omega))
                | true =>
                  obtain ⟨o1, o2, o3, o4, o5⟩ := hok
                  have o3' := o3 hb
                  rw [if_pos hb, if_pos hb] at o5
                  rw [show (a, true).1.2.2.1 = t from c2', Nat.sub_self] at o5 o3'
                  refine hF (by decide) ?_
                  refine hlr (i := i) (v := nI a.1) rfl (h.ln 57 (by omega)) (by show _ < 3000; omega) (by rw [ho 57 (by omega)]; exact hAi.1) ?_
                  refine hlr (i := i) (v := a.2.2.2) rfl (h.ln 60 (by omega)) (by show _ < 3000; omega) (by rw [ho 60 (by omega)]; exact hAi.2.2.2) ?_
                  refine hc (rt_inp h hI.io o2 o3') (fun _ s1 h1 => ?_)
                  refine ih (i + 1) n s1 (minp W a.1 a.2.2.2) h1 (minp_I hI o3') o5 hsr2 hen2 ?_ (by omega) (by omega) (by omega)
                  rw [← hX]
                  show _ = (if a.2.1 = true then _ else _)
                  rw [if_pos hb, c2', Nat.sub_self]
                  rfl
              · have c2' : a.2.2.1 ≠ t := fun q => c2 (by rw [q])
                refine step i n s W h hI hok hsr hen hX hi hn (fun a' ha' _ => ?_)
                rw [hh] at ha'
                cases ha'
                exact c2'
      exact inputs mo_fu i n s W h hI hok hsr hen hX hi hn (by unfold mo_fu; omega)
end RA
