/-! ===== pure: the row with the fewest coins ===== -/
section TK
variable {val B : Nat → Nat} {n : Nat} {L : Nat → Int}
theorem ls_tri (h : lsOK val n 2000 L) {k s : Nat} (hk : k < n) (hv : val k ≤ s) (hs : s ≤ 2000) (hn : ¬ L (s - val k) = -1) : ¬ L s = -1 ∧ L s ≤ L (s - val k) + 1 := by
  obtain ⟨c, a1, a2, -⟩ := lsOK_get h (show s - val k ≤ 2000 by omega) hn
  have h1 := lsOK_of h hs (show Rc val n (c + 1) s from ⟨k, hk, hv, a2⟩)
  refine ⟨h1.1, ?_⟩
  have := h1.2
  omega
theorem ls_trim (h : lsOK val n 2000 L) {k s j : Nat} (hk : k < n) (hv : j * val k ≤ s) (hs : s ≤ 2000) (hn : ¬ L (s - j * val k) = -1) : ¬ L s = -1 ∧ L s ≤ L (s - j * val k) + j := by
  obtain ⟨c, a1, a2, -⟩ := lsOK_get h (show s - j * val k ≤ 2000 by omega) hn
  have h1 := lsOK_of h hs (Rc_addn hk j s hv a2)
  refine ⟨h1.1, ?_⟩
  have := h1.2
  omega
theorem ls_pos (h : lsOK val n 2000 L) {s : Nat} (hs : s ≤ 2000) (hn : ¬ L s = -1) : 0 ≤ L s := by
  obtain ⟨c, a1, -⟩ := lsOK_get h hs hn
  omega
theorem ls_nil (h : lsOK val n 2000 L) {s : Nat} (hs : s ≤ 2000) (h0 : L s = 0) : s = 0 := by
  obtain ⟨c, a1, a2, -⟩ := lsOK_get h hs (by omega)
  obtain rfl : c = 0 := by omega
  exact a2
/-- no coin of the first q leads to a row with the fewest coins for s -/
def noSt (val B : Nat → Nat) (L : Nat → Int) (q s : Nat) : Prop := ∀ i, i < q → ¬ (val (B i) ≤ s ∧ L (s - val (B i)) = L s - 1)
theorem no_rc (h : lsOK val n 2000 L) (hv1 : ∀ k, k < n → 1 ≤ val k) (hB : ∀ j, j < n → B j < n) (hS : ∀ k, k < n → ∃ j, j < n ∧ B j = k) {q : Nat} (hq : q ≤ n) : ∀ (c s : Nat), s ≤ 2000 → L s = (c : Int) → noSt val B L q s → Rc (fun i => val (B (n - 1 - i))) (n - q) c s
  | 0, s, hs, h0, _ => ls_nil h hs h0
  | c + 1, s, hs, hc, hno => by
    obtain ⟨c0, a1, a2, a3⟩ := lsOK_get h hs (by omega)
    obtain rfl : c0 = c + 1 := by omega
    obtain ⟨k, hk, hv, hr⟩ := a2
    have h1 := lsOK_of h (show s - val k ≤ 2000 by omega) hr
    have h2 := ls_tri h hk hv hs h1.1
    have e : L (s - val k) = (c : Int) := by have := h1.2; have := h2.2; omega
    obtain ⟨i, hi, rfl⟩ := hS k hk
    have hiq : q ≤ i := by
      rcases Nat.lt_or_ge i q with d | d
      · exact absurd ⟨hv, by omega⟩ (hno i d)
      · exact d
    refine ⟨n - 1 - i, by omega, ?_, ?_⟩
    · show val (B (n - 1 - (n - 1 - i))) ≤ s
      rw [show n - 1 - (n - 1 - i) = i by omega]
      exact hv
    · show Rc _ _ c (s - val (B (n - 1 - (n - 1 - i))))
      rw [show n - 1 - (n - 1 - i) = i by omega]
      refine no_rc h hv1 hB hS hq c _ (by omega) e (fun i' hi' hst => ?_)
      have hb' := hB i' (by omega)
      have hb1 := hv1 _ hb'
      have hc1 : 0 < c := by
        rcases Nat.eq_zero_or_pos c with d | d
        · subst d
          have := ls_nil h (show s - val (B i) ≤ 2000 by omega) e
          omega
        · exact d
      have h3 : ¬ L (s - val (B i') - val (B i)) = -1 := by
        rw [show s - val (B i') - val (B i) = s - val (B i) - val (B i') by omega, hst.2]
        omega
      have h4 := ls_tri h (k := B i) (s := s - val (B i')) hk (by omega) (by omega) h3
      have h5 : L (s - val (B i') - val (B i)) = (c : Int) - 1 := by
        rw [show s - val (B i') - val (B i) = s - val (B i) - val (B i') by omega, hst.2]
        omega
      have h6 := ls_tri h (k := B i') (s := s) hb' (by omega) hs h4.1
      exact hno i' hi' ⟨by omega, by have := h4.2; have := h6.2; omega⟩
theorem tb_suf {bd : Nat → Nat} {sm : Nat} {tb : Nat → Nat → Int} (hsm : sm ≤ 2000) (hv1 : ∀ k, k < n → 1 ≤ val k) (hB : ∀ j, j < n → B j < n) (hbd : ∀ j, j < n → bd (B j) = 2000) (ht : tbOK val B bd n sm tb) : ∀ k, k ≤ n → lsOK (fun i => val (B (n - 1 - i))) k sm (tb k)
  | 0, _ => fun s hs => by
    rw [ht.1 s hs]
    by_cases e : s = 0
    · rw [if_pos e]
      exact Or.inr ⟨0, rfl, e, fun _ _ => Nat.zero_le _⟩
    · rw [if_neg e]
      refine Or.inl ⟨rfl, fun c q => ?_⟩
      cases c with
      | zero => exact e q
      | succ c =>
        obtain ⟨k, hk, -⟩ := q
        exact absurd hk (Nat.not_lt_zero _)
  | k + 1, hk => by
    have hb := hB (n - 1 - k) (by omega)
    refine lsOK_step (lim := 2000) (tb_suf hsm hv1 hB hbd ht k (by omega)) (fun j hj => ?_) (fun s hs => ?_)
    · have := mul_lim (hv1 _ hb) hj
      omega
    · have h1 := ht.2 k (by omega) s hs
      rw [hbd (n - 1 - k) (by omega)] at h1
      exact h1
theorem tb_no {bd : Nat → Nat} {sm : Nat} {tb : Nat → Nat → Int} (hsm : sm ≤ 2000) (h : lsOK val n 2000 L) (hv1 : ∀ k, k < n → 1 ≤ val k) (hB : ∀ j, j < n → B j < n) (hS : ∀ k, k < n → ∃ j, j < n ∧ B j = k) (hbd : ∀ j, j < n → bd (B j) = 2000) (ht : tbOK val B bd n sm tb) {q s : Nat} (hq : q ≤ n) (hs : s ≤ sm) (hn : ¬ L s = -1) (hno : noSt val B L q s) : tb (n - q) s = L s := by
  obtain ⟨c, a1, a2, a3⟩ := lsOK_get h (show s ≤ 2000 by omega) hn
  have h1 := no_rc h hv1 hB hS hq c s (by omega) a1 hno
  have h2 := tb_suf hsm hv1 hB hbd ht (n - q) (by omega)
  have h3 := lsOK_of h2 hs h1
  obtain ⟨c2, b1, b2, b3⟩ := lsOK_get h2 hs h3.1
  have h4 := a3 c2 (Rc_perm (fun k hk => ⟨B (n - 1 - k), hB _ (by omega), rfl⟩) c2 s b2)
  have h5 := h3.2
  omega
/-- a row of the suffix is a row -/
theorem tb_ge {bd : Nat → Nat} {sm : Nat} {tb : Nat → Nat → Int} (hsm : sm ≤ 2000) (h : lsOK val n 2000 L) (hv1 : ∀ k, k < n → 1 ≤ val k) (hB : ∀ j, j < n → B j < n) (hbd : ∀ j, j < n → bd (B j) = 2000) (ht : tbOK val B bd n sm tb) {k s : Nat} (hk : k ≤ n) (hs : s ≤ sm) (hn : ¬ tb k s = -1) : ¬ L s = -1 ∧ L s ≤ tb k s := by
  obtain ⟨c2, b1, b2, -⟩ := lsOK_get (tb_suf hsm hv1 hB hbd ht k hk) hs hn
  have h4 := lsOK_of h (show s ≤ 2000 by omega) (Rc_perm (val' := val) (n' := n) (fun k' hk' => ⟨B (n - 1 - k'), hB _ (by omega), rfl⟩) c2 s b2)
  rw [b1]
  exact h4
theorem wfT_spec {v : Nat} : ∀ f left, f * v ≤ left → L (left - wfT L v f left * v) = L left - (wfT L v f left : Nat) ∧ (wfT L v f left < f → ¬ L (left - wfT L v f left * v - v) = L (left - wfT L v f left * v) - 1)
  | 0, left, _ => by
    show L (left - 0 * v) = L left - ((0 : Nat) : Int) ∧ (0 < 0 → _)
    rw [Nat.zero_mul, Nat.sub_zero]
    exact ⟨by omega, fun h => absurd h (Nat.lt_irrefl _)⟩
  | f + 1, left, h => by
    rw [Nat.succ_mul] at h
    by_cases c : L (left - v) = L left - 1
    · rw [wfT_y c]
      have ih := wfT_spec (v := v) f (left - v) (by omega)
      generalize wfT L v f (left - v) = T at ih ⊢
      rw [show left - (T + 1) * v = left - v - T * v by rw [Nat.succ_mul]; omega]
      refine ⟨by rw [ih.1, c]; omega, fun hT => ih.2 (by omega)⟩
    · rw [wfT_n c, Nat.zero_mul, Nat.sub_zero]
      exact ⟨by omega, fun _ => c⟩
theorem take_eq {bd : Nat → Nat} {sm : Nat} {tb : Nat → Nat → Int} (hsm : sm ≤ 2000) (h : lsOK val n 2000 L) (hv1 : ∀ k, k < n → 1 ≤ val k) (hB : ∀ j, j < n → B j < n) (hS : ∀ k, k < n → ∃ j, j < n ∧ B j = k) (hbd : ∀ j, j < n → bd (B j) = 2000) (ht : tbOK val B bd n sm tb) (hn : ¬ L sm = -1) : ∀ q, q ≤ n → wrL tb val B bd n sm q = wfL val B L sm q ∧ ¬ L (wfL val B L sm q) = -1 ∧ noSt val B L q (wfL val B L sm q) ∧ ∀ i, i < q → wrN tb val B bd n (wrL tb val B bd n sm i) i = wfT L (val (B i)) (wfL val B L sm i / val (B i)) (wfL val B L sm i)
  | 0, _ => ⟨rfl, hn, fun i hi => absurd hi (Nat.not_lt_zero _), fun i hi => absurd hi (Nat.not_lt_zero _)⟩
  | q + 1, hq => by
    obtain ⟨e1, e2, e3, e4⟩ := take_eq hsm h hv1 hB hS hbd ht hn q (by omega)
    have hle := wfL_le val B L sm q
    have hb := hB q (by omega)
    have hv := hv1 _ hb
    have hT := wfT_spec (L := L) (v := val (B q)) (wfL val B L sm q / val (B q)) (wfL val B L sm q) (Nat.div_mul_le_self _ _)
    have hTl := wfT_le L (val (B q)) (wfL val B L sm q / val (B q)) (wfL val B L sm q)
    have hmod : wfL val B L sm q - wfL val B L sm q / val (B q) * val (B q) < val (B q) := by
      have h1 := Nat.mod_lt (wfL val B L sm q) hv
      have h2 := Nat.div_add_mod (wfL val B L sm q) (val (B q))
      rw [Nat.mul_comm] at h2
      omega
    have hfm : wfL val B L sm q / val (B q) * val (B q) ≤ wfL val B L sm q := Nat.div_mul_le_self _ _
    have hdl : wfL val B L sm q / val (B q) ≤ wfL val B L sm q := Nat.div_le_self _ _
    have eL : wfL val B L sm (q + 1) = wfL val B L sm q - wfT L (val (B q)) (wfL val B L sm q / val (B q)) (wfL val B L sm q) * val (B q) := rfl
    have eR : wrL tb val B bd n sm (q + 1) = wrL tb val B bd n sm q - wrN tb val B bd n (wrL tb val B bd n sm q) q * val (B q) := rfl
    have eW : wrN tb val B bd n (wrL tb val B bd n sm q) q = dn (wrP tb (n - q) (val (B q)) (wfL val B L sm q)) (min 2000 (wfL val B L sm q / val (B q))) := by
      unfold wrN
      rw [hbd q (by omega), e1]
    rw [eL, eR]
    generalize hT0 : wfT L (val (B q)) (wfL val B L sm q / val (B q)) (wfL val B L sm q) = T at hT hTl ⊢
    generalize hlf : wfL val B L sm q = lf at *
    generalize hf0 : lf / val (B q) = f at *
    generalize hv0 : val (B q) = v at *
    have hTv : T * v ≤ f * v := Nat.mul_le_mul_right v hTl
    have hL0 := ls_pos h (show lf ≤ 2000 by omega) e2
    have hTr := ls_trim h (k := B q) (s := lf) (j := T) hb (by rw [hv0]; omega) (by omega)
    rw [hv0] at hTr
    have hLT : ¬ L (lf - T * v) = -1 := by
      intro hbad
      have h1 := hT.1
      rw [hbad] at h1
      have hc := lsOK_get h (show lf ≤ 2000 by omega) e2
      obtain ⟨c, c1, c2, c3⟩ := hc
      -- T steps down from c would end at -1: then T = c + 1, but step c is at 0 already
      have hTc : T = c + 1 := by omega
      have hsp := wfT_spec (L := L) (v := v) f lf (by omega)
      have hstep : ∀ t, t ≤ T → L (lf - t * v) = L lf - (t : Int) := by
        intro t ht
        have key : ∀ (f' left t' : Nat), f' * v ≤ left → t' ≤ wfT L v f' left → L (left - t' * v) = L left - (t' : Int) := by
          intro f'
          induction f' with
          | zero =>
            intro left t' _ h2
            have : t' = 0 := by
              have : t' ≤ 0 := h2
              omega
            subst this
            rw [Nat.zero_mul, Nat.sub_zero]
            omega
          | succ f' ih =>
            intro left t' h1 h2
            rw [Nat.succ_mul] at h1
            cases t' with
            | zero =>
              rw [Nat.zero_mul, Nat.sub_zero]
              omega
            | succ t' =>
              by_cases c : L (left - v) = L left - 1
              · rw [wfT_y c] at h2
                have := ih (left - v) t' (by omega) (by omega)
                rw [Nat.succ_mul, show left - (t' * v + v) = left - v - t' * v by omega, this, c]
                omega
              · rw [wfT_n c] at h2
                omega
        exact key f lf t (by omega) (by rw [hT0]; exact ht)
      have h2 := hstep c (by omega)
      have hcv : c * v ≤ T * v := Nat.mul_le_mul_right v (by omega)
      have h3 := ls_nil h (show lf - c * v ≤ 2000 by omega) (by omega)
      rw [hTc, Nat.succ_mul] at hTv
      omega
    have hno' : noSt val B L (q + 1) (lf - T * v) := by
      intro i hi hst
      by_cases e : i = q
      · subst e
        rw [hv0] at hst
        by_cases c : T < f
        · exact hT.2 c hst.2
        · have : T = f := by omega
          subst this
          omega
      · have hbi := hB i (by omega)
        have hv1i := hv1 _ hbi
        have hLp := ls_pos h (show lf - T * v ≤ 2000 by omega) hLT
        have hpos : 0 < L (lf - T * v) := by
          by_cases c : L (lf - T * v) = 0
          · have := ls_nil h (show lf - T * v ≤ 2000 by omega) c
            omega
          · omega
        have h1 : ¬ L (lf - val (B i) - T * v) = -1 := by
          rw [show lf - val (B i) - T * v = lf - T * v - val (B i) by omega, hst.2]
          omega
        have h2 := ls_trim h (k := B q) (s := lf - val (B i)) (j := T) hb (by rw [hv0]; omega) (by omega) (by rw [hv0]; exact h1)
        rw [hv0] at h2
        have h3 : L (lf - val (B i) - T * v) = L (lf - T * v) - 1 := by
          rw [show lf - val (B i) - T * v = lf - T * v - val (B i) by omega, hst.2]
        have h4 := ls_tri h (k := B i) (s := lf) hbi (by omega) (by omega) h2.1
        have h5 := h2.2
        have h6 := h4.2
        have h7 := hT.1
        exact e3 i (by omega) ⟨by omega, by omega⟩
    have hWN : wrN tb val B bd n (wrL tb val B bd n sm q) q = T := by
      rw [eW, show min 2000 f = f by omega]
      have hA := tb_no hsm h hv1 hB hS hbd ht (q := q) (s := lf) (by omega) (by omega) e2 e3
      have hC := tb_no hsm h hv1 hB hS hbd ht (q := q + 1) (s := lf - T * v) (by omega) (by omega) hLT hno'
      rw [show n - (q + 1) = n - q - 1 by omega] at hC
      refine dn_eq f hTl (decide_eq_true ?_) (fun j h1 h2 => decide_eq_false ?_)
      · rw [hC, hA]
        exact ⟨hLT, by have := hT.1; omega⟩
      · intro hP
        have hjf : j * v ≤ f * v := Nat.mul_le_mul_right v h2
        have hg := tb_ge hsm h hv1 hB hbd ht (k := n - q - 1) (s := lf - j * v) (by omega) (by omega) hP.1
        have hP2 := hP.2
        rw [hA] at hP2
        have hTj : (T + 1) * v ≤ j * v := Nat.mul_le_mul_right v h1
        have hs2 : lf - (T + 1) * v - (j - (T + 1)) * v = lf - j * v := by
          have : (j - (T + 1)) * v = j * v - (T + 1) * v := Nat.sub_mul _ _ _
          omega
        have hj2 : (j - (T + 1)) * v ≤ lf - (T + 1) * v := by
          have : (j - (T + 1)) * v = j * v - (T + 1) * v := Nat.sub_mul _ _ _
          omega
        have h3 := ls_trim h (k := B q) (s := lf - (T + 1) * v) (j := j - (T + 1)) hb (by rw [hv0]; exact hj2) (by omega) (by rw [hv0, hs2]; exact hg.1)
        rw [hv0, hs2] at h3
        have e5 : lf - (T + 1) * v = lf - T * v - v := by rw [Nat.succ_mul]; omega
        rw [e5] at h3
        have hTv1 : T * v + v ≤ lf := by
          rw [Nat.succ_mul] at hTj
          omega
        have h4 := ls_tri h (k := B q) (s := lf - T * v) hb (by rw [hv0]; omega) (by omega) (by rw [hv0]; exact h3.1)
        rw [hv0] at h4
        have h5 := h3.2
        have h6 := h4.2
        have h7 := hT.1
        have h8 := hg.2
        exact hT.2 (by omega) (by omega)
    rw [hWN]
    refine ⟨by rw [e1], hLT, hno', fun i hi => ?_⟩
    by_cases e : i = q
    · subst e
      rw [hWN, hv0, hlf, hf0, hT0]
    · exact e4 i (by omega)
end TK
