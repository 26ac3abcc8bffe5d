/-! WHAT A DOMAIN SEES OF TWO WORLDS: the kernel's answer -/
def dSm (W X : mW) (d : Nat) : Prop := W.1 2 d 4 = X.1 2 d 4 ∧ W.1 2 d 5 = X.1 2 d 5 ∧ W.1 2 d 6 = X.1 2 d 6 ∧ (∀ k, k < 8 → W.1 0 d k = X.1 0 d k) ∧ (∀ k, k < 32 → W.1 1 d k = X.1 1 d k) ∧ W.2.1 0 d = X.2.1 0 d ∧ W.2.1 1 d = X.2.1 1 d
def chSm (π : mP) (W X : mW) (c : Nat) : Prop := W.2.2 0 c = X.2.2 0 c ∧ W.2.2 1 c = X.2.2 1 c ∧ (∀ k, k < psz π c → W.1 4 c k = X.1 4 c k) ∧ mage W c = mage X c
def uSm (π : mP) (W X : mW) (d : Nat) : Prop := dSm W X d ∧ ∀ c, c < π.2.1 → plk π c 1 = nI d → chSm π W X c
section CV
variable {θ : gT} {π : mP} {n n' : Nat} {s s0 s0' : gS} {W X : mW} {d : Nat} {P : Prop}
theorem cq_37 (h : cT θ π n 0 s0 s W) (h' : cT θ π n' 2 s0' s X) (hd : d < π.1) (kk : aq (G_X3_isSame_66 θ 0 d 2 d) s P) : ∀ (fu j : Nat), 8 - j < fu → j ≤ 8 → aq (G_X3_isSame_37 θ fu 0 d 2 d (nI j)) s ((∀ k, j ≤ k → k < 8 → W.1 0 d k = X.1 0 d k) ∧ P)
  | 0, j, h, _ => by omega
  | fu + 1, j, hf, hj => by
    unfold G_X3_isSame_37
    refine hif (fun c => ?_) (fun c => ?_)
    · have c : 8 ≤ j := (nI_leI (a := 8) (by omega) (by omega)).mp c
      exact kk.iff ⟨fun q => ⟨fun k h1 h2 => by omega, q⟩, fun q => q.2⟩
    · have c : ¬ 8 ≤ j := fun q => c ((nI_leI (a := 8) (by omega) (by omega)).mpr q)
      refine hl (i := j) rfl (by rw [(h.ln.1 d hd).1]; omega) (by omega) (h.sc 0 d j ⟨hd, by omega⟩) ?_
      refine hl (i := j) rfl (by rw [(h'.ln.1 d hd).1]; omega) (by omega) (h'.sc 0 d j ⟨hd, by omega⟩) ?_
      refine hif (fun c2 => ?_) (fun c2 => aq_0 (fun q => c2 (q.1 j (Nat.le_refl _) (by omega))))
      rw [nI_1]
      refine (cq_37 h h' hd kk fu (j + 1) (by omega) (by omega)).iff ⟨fun q => ⟨fun y h1 h2 => ?_, q.2⟩, fun q => ⟨fun y h1 h2 => q.1 y (by omega) h2, q.2⟩⟩
      by_cases e : y = j
      · rw [e]; exact c2
      · exact q.1 y (by omega) h2
theorem cq_68 (h : cT θ π n 0 s0 s W) (h' : cT θ π n' 2 s0' s X) (hd : d < π.1) (kk : aq (G_X3_isSame_97 θ 0 d 2 d) s P) : ∀ (fu j : Nat), 32 - j < fu → j ≤ 32 → aq (G_X3_isSame_68 θ fu 0 d 2 d (nI j)) s ((∀ k, j ≤ k → k < 32 → W.1 1 d k = X.1 1 d k) ∧ P)
  | 0, j, h, _ => by omega
  | fu + 1, j, hf, hj => by
    unfold G_X3_isSame_68
    refine hif (fun c => ?_) (fun c => ?_)
    · have c : 32 ≤ j := (nI_leI (a := 32) (by omega) (by omega)).mp c
      exact kk.iff ⟨fun q => ⟨fun k h1 h2 => by omega, q⟩, fun q => q.2⟩
    · have c : ¬ 32 ≤ j := fun q => c ((nI_leI (a := 32) (by omega) (by omega)).mpr q)
      refine hl (i := j) rfl (by rw [(h.ln.1 d hd).2]; omega) (by omega) (h.sc 1 d j ⟨hd, by omega⟩) ?_
      refine hl (i := j) rfl (by rw [(h'.ln.1 d hd).2]; omega) (by omega) (h'.sc 1 d j ⟨hd, by omega⟩) ?_
      refine hif (fun c2 => ?_) (fun c2 => aq_0 (fun q => c2 (q.1 j (Nat.le_refl _) (by omega))))
      rw [nI_1]
      refine (cq_68 h h' hd kk fu (j + 1) (by omega) (by omega)).iff ⟨fun q => ⟨fun y h1 h2 => ?_, q.2⟩, fun q => ⟨fun y h1 h2 => q.1 y (by omega) h2, q.2⟩⟩
      by_cases e : y = j
      · rw [e]; exact c2
      · exact q.1 y (by omega) h2
theorem cq_dom (h : cT θ π n 0 s0 s W) (h' : cT θ π n' 2 s0' s X) (hio : ∀ d, d < π.1 → (W.2.1 0 d).length ≤ 8 ∧ (W.2.1 1 d).length ≤ 200) (hd : d < π.1) : aq (G_X3_isSame θ 0 d 2 d) s (dSm W X d) := by
  have hl' := hio d hd
  have p97 : aq (G_X3_isSame_97 θ 0 d 2 d) s (W.2.1 0 d = X.2.1 0 d ∧ W.2.1 1 d = X.2.1 1 d) := by
    unfold G_X3_isSame_97
    refine aq_b (cq_row (h.rw d hd).1 (h'.rw d hd).1 (by omega)) (fun q => hF (by decide) ?_) (fun q => hT rfl (aq_0 (fun z => q z.1)))
    exact aq_b (cq_row (h.rw d hd).2 (h'.rw d hd).2 (by omega)) (fun q' => hF (by decide) (aq_1 ⟨q, q'⟩)) (fun q' => hT rfl (aq_0 (fun z => q' z.2)))
  have p66 : aq (G_X3_isSame_66 θ 0 d 2 d) s ((∀ k, 0 ≤ k → k < 32 → W.1 1 d k = X.1 1 d k) ∧ W.2.1 0 d = X.2.1 0 d ∧ W.2.1 1 d = X.2.1 1 d) := by
    unfold G_X3_isSame_66
    exact cq_68 h h' hd p97 mo_fu 0 (by unfold mo_fu; omega) (Nat.zero_le _)
  have p37 := cq_37 h h' hd p66 mo_fu 0 (by unfold mo_fu; omega) (Nat.zero_le _)
  have nm : ∀ k, 4 ≤ k ∧ k ≤ 8 → s.1 (pk 19 0 d) k = W.1 2 d k := fun k hk => h.sc 2 d k ⟨hd, hk.1, hk.2⟩
  have nm' : ∀ k, 4 ≤ k ∧ k ≤ 8 → s.1 (pk 19 2 d) k = X.1 2 d k := fun k hk => h'.sc 2 d k ⟨hd, hk.1, hk.2⟩
  unfold G_X3_isSame
  refine hg (nm 4 (by omega)) (hg (nm' 4 (by omega)) (hif (fun c4 => ?_) (fun c4 => aq_0 (fun z => c4 z.1))))
  refine hg (nm 5 (by omega)) (hg (nm' 5 (by omega)) (hif (fun c5 => ?_) (fun c5 => aq_0 (fun z => c5 z.2.1))))
  refine hg (nm 6 (by omega)) (hg (nm' 6 (by omega)) (hif (fun c6 => ?_) (fun c6 => aq_0 (fun z => c6 z.2.2.1))))
  exact aq.iff p37 ⟨fun q => ⟨c4, c5, c6, fun k hk => q.1 k (Nat.zero_le _) hk, fun k hk => q.2.1 k (Nat.zero_le _) hk, q.2.2⟩, fun q => ⟨fun k _ hk => q.2.2.2.1 k hk, fun k _ hk => q.2.2.2.2.1 k hk, q.2.2.2.2.2⟩⟩
theorem cq_46 {c : Nat} {y : Int32} (h : cT θ π n 0 s0 s W) (h' : cT θ π n' 2 s0' s X) (hc' : c < π.2.1) (hz : psz π c ≤ 4) (kk : aq (G_X1_looksSame_78 θ 0 c 2 c y) s P) : ∀ (fu j : Nat), psz π c - j < fu → j ≤ psz π c → aq (G_X1_looksSame_46 θ fu 0 c 2 c y (nI j)) s ((∀ k, j ≤ k → k < psz π c → W.1 4 c k = X.1 4 c k) ∧ P)
  | 0, j, h, _ => by omega
  | fu + 1, j, hf, hj => by
    unfold G_X1_looksSame_46
    refine hln (h.ln.2 c hc') ?_
    refine hif (fun q => ?_) (fun q => ?_)
    · rw [nI_leI (by omega) (by omega)] at q
      exact kk.iff ⟨fun q => ⟨fun k h1 h2 => by omega, q⟩, fun q => q.2⟩
    · rw [nI_leI (by omega) (by omega)] at q
      refine hl (i := j) rfl (by rw [h.ln.2 c hc']; omega) (by omega) (h.sc 4 c j ⟨hc', by omega⟩) ?_
      refine hl (i := j) rfl (by rw [h'.ln.2 c hc']; omega) (by omega) (h'.sc 4 c j ⟨hc', by omega⟩) ?_
      refine hif (fun c2 => ?_) (fun c2 => aq_0 (fun q => c2 (q.1 j (Nat.le_refl _) (by omega))))
      rw [nI_1]
      refine (cq_46 h h' hc' hz kk fu (j + 1) (by omega) (by omega)).iff ⟨fun q => ⟨fun y h1 h2 => ?_, q.2⟩, fun q => ⟨fun y h1 h2 => q.1 y (by omega) h2, q.2⟩⟩
      by_cases e : y = j
      · rw [e]; exact c2
      · exact q.1 y (by omega) h2
theorem cq_ch {c T N N' : Nat} (h : cT θ π n 0 s0 s W) (h' : cT θ π n' 2 s0' s X) (hQ : mQ π) (hn : n ≤ 3000) (hn' : n' ≤ 3000) (hI : mI π N T W) (hI' : mI π N' T X) (hB : mNB π W) (hB' : mNB π X) (hc' : c < π.2.1) : aq (G_X1_looksSame θ 0 c 2 c (nI T)) s (chSm π W X c) := by
  obtain ⟨z1, z2, z3, z4⟩ := hQ.lk c hc'
  have m4 : ∀ j, j < 2 → ∀ m, m ∈ W.2.2 j c → m.length ≤ 4 := fun j hj m hm => ((hI.ms c j hc' hj).1 m hm).2
  have m4' : ∀ j, j < 2 → ∀ m, m ∈ X.2.2 j c → m.length ≤ 4 := fun j hj m hm => ((hI'.ms c j hc' hj).1 m hm).2
  unfold G_X1_looksSame
  refine hg (h.pl.lk c 2 hc' (by omega)) ?_
  rcases z4 with e | e
  · rw [e]
    have b1 := hB c
    have b2 := hB' c
    have eq4 : (∀ k, k < psz π c → W.1 4 c k = X.1 4 c k) ∧ mage W c = mage X c := ⟨fun k _ => by rw [(b1 k e).2, (b2 k e).2], by unfold mage; rw [if_pos (b1 0 e).1, if_pos (b2 0 e).1]⟩
    refine hT rfl ?_
    refine aq_b (cq_ms (h.ms c hc').1 (h'.ms c hc').1 hn hn' (m4 0 (by omega)) (m4' 0 (by omega))) (fun q => hF (by decide) ?_) (fun q => hT rfl (aq_0 (fun z => q z.1)))
    exact aq_b (cq_ms (h.ms c hc').2 (h'.ms c hc').2 hn hn' (m4 1 (by omega)) (m4' 1 (by omega))) (fun q' => hF (by decide) (aq_1 ⟨q, q', eq4⟩)) (fun q' => hT rfl (aq_0 (fun z => q' z.2.1)))
  · rw [e]
    refine hF (by decide) ?_
    have eqm : ∀ j, j < 2 → W.2.2 j c = X.2.2 j c := fun j hj => by rw [(hI.ms c j hc' hj).2 e, (hI'.ms c j hc' hj).2 e]
    have a1 : G_X1_age θ 0 c (nI T) s = some (mage W c, s) := by have := e_age h hc'; rw [hI.ck.1] at this; exact this
    have a2 : G_X1_age θ 2 c (nI T) s = some (mage X c, s) := by have := e_age h' hc'; rw [hI'.ck.1] at this; exact this
    have p78 : aq (G_X1_looksSame_78 θ 0 c 2 c (nI T)) s (mage W c = mage X c) := by
      unfold G_X1_looksSame_78
      exact hb a1 (hb a2 (hif (fun q => aq_1 q) (fun q => aq_0 q)))
    refine aq.iff (cq_46 h h' hc' z2 p78 mo_fu 0 (by unfold mo_fu; omega) (Nat.zero_le _)) ⟨fun q => ⟨eqm 0 (by omega), eqm 1 (by omega), fun k hk => q.1 k (Nat.zero_le _) hk, q.2⟩, fun q => ⟨fun k _ hk => q.2.2.1 k hk, q.2.2.2⟩⟩
theorem cq_22 {T N N' : Nat} (h : cT θ π n 0 s0 s W) (h' : cT θ π n' 2 s0' s X) (hQ : mQ π) (hn : n ≤ 3000) (hn' : n' ≤ 3000) (hI : mI π N T W) (hI' : mI π N' T X) (hB : mNB π W) (hB' : mNB π X) : ∀ (fu j : Nat), π.2.1 - j < fu → j ≤ π.2.1 → aq (G_X5_looksSameTo_22 θ fu 0 (nI d) 2 (nI j)) s (∀ c, j ≤ c → c < π.2.1 → plk π c 1 = nI d → chSm π W X c)
  | 0, j, h, _ => by omega
  | fu + 1, j, hf, hj => by
    have ht := h.pl.t1
    unfold G_X5_looksSameTo_22 G_X5_looksSameTo_76
    refine hg h.pl.nc ?_
    refine hif (fun q => ?_) (fun q => ?_)
    · rw [nI_leI (by omega) (by omega)] at q
      exact aq_1 (fun y h1 h2 => by omega)
    · rw [nI_leI (by omega) (by omega)] at q
      refine hx rfl (by rw [ht.2.1]; omega) (by omega) (hg (h.pl.lk j 1 (by omega) (by omega)) ?_)
      rw [nI_1]
      have rec1 := cq_22 h h' hQ hn hn' hI hI' hB hB' fu (j + 1) (by omega) (by omega)
      refine hif (fun e => ?_) (fun e => ?_)
      · refine hx rfl (by rw [ht.2.1]; omega) (by omega) (hx rfl (by rw [ht.2.1]; omega) (by omega) (hg (e_time h hI.ck) ?_))
        refine aq_b (cq_ch h h' hQ hn hn' hI hI' hB hB' (by omega)) (fun z => hF (by decide) ?_) (fun z => hT rfl (aq_0 (fun y => z (y j (Nat.le_refl _) (by omega) e))))
        refine rec1.iff ⟨fun y c h1 h2 h3 => ?_, fun y c h1 h2 h3 => y c (by omega) h2 h3⟩
        by_cases ec : c = j
        · rw [ec]; exact z
        · exact y c (by omega) h2 h3
      · refine rec1.iff ⟨fun y c h1 h2 h3 => ?_, fun y c h1 h2 h3 => y c (by omega) h2 h3⟩
        by_cases ec : c = j
        · rw [ec] at h3; exact absurd h3 e
        · exact y c (by omega) h2 h3
theorem cq_all {T N N' : Nat} (h : cT θ π n 0 s0 s W) (h' : cT θ π n' 2 s0' s X) (hQ : mQ π) (hn : n ≤ 3000) (hn' : n' ≤ 3000) (hI : mI π N T W) (hI' : mI π N' T X) (hB : mNB π W) (hB' : mNB π X) (hd : d < π.1) : aq (G_X5_looksSameTo θ 0 (nI d) 2) s (uSm π W X d) := by
  have ht := h.pl.t1
  unfold G_X5_looksSameTo
  refine hx rfl (by rw [ht.1]; exact hd) (by omega) (hx rfl (by rw [ht.1]; exact hd) (by omega) ?_)
  refine aq_b (cq_dom h h' hI.io hd) (fun z => hF (by decide) ?_) (fun z => hT rfl (aq_0 (fun y => z y.1)))
  exact aq.iff (cq_22 h h' hQ hn hn' hI hI' hB hB' mo_fu 0 (by unfold mo_fu; omega) (Nat.zero_le _)) ⟨fun q => ⟨z, fun c h1 h2 => q c (Nat.zero_le _) h1 h2⟩, fun q c _ h1 h2 => q.2 c h1 h2⟩
end CV
