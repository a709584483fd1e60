/-! ===== pure: sums made of coins ===== -/
/-- s is made by c coins out of val 0 .. val (n - 1) -/
def Rc (val : Nat → Nat) (n : Nat) : Nat → Nat → Prop
  | 0, s => s = 0
  | c + 1, s => ∃ k, k < n ∧ val k ≤ s ∧ Rc val n c (s - val k)
theorem Rc_mono {val : Nat → Nat} {n m : Nat} (h : n ≤ m) : ∀ c s, Rc val n c s → Rc val m c s
  | 0, _, q => q
  | c + 1, s, ⟨k, h1, h2, h3⟩ => ⟨k, Nat.lt_of_lt_of_le h1 h, h2, Rc_mono h c _ h3⟩
theorem Rc_perm {val val' : Nat → Nat} {n n' : Nat} (h : ∀ k, k < n → ∃ j, j < n' ∧ val' j = val k) : ∀ c s, Rc val n c s → Rc val' n' c s
  | 0, _, q => q
  | c + 1, s, ⟨k, h1, h2, h3⟩ => by
    obtain ⟨j, hj, e⟩ := h k h1
    exact ⟨j, hj, by rw [e]; exact h2, by rw [e]; exact Rc_perm h c _ h3⟩
theorem Rc_addn {val : Nat → Nat} {n k : Nat} (hk : k < n) {c : Nat} : ∀ j s, j * val k ≤ s → Rc val n c (s - j * val k) → Rc val n (c + j) s
  | 0, s, _, h => by
    rw [Nat.zero_mul, Nat.sub_zero] at h
    exact h
  | j + 1, s, h1, h => by
    rw [Nat.succ_mul] at h1 h
    refine ⟨k, hk, by omega, Rc_addn hk j (s - val k) (by omega) ?_⟩
    rw [show s - val k - j * val k = s - (j * val k + val k) by omega]
    exact h
theorem Rc_split {val : Nat → Nat} {n : Nat} : ∀ c s, Rc val (n + 1) c s → ∃ j c', c = c' + j ∧ j * val n ≤ s ∧ Rc val n c' (s - j * val n)
  | 0, s, h => ⟨0, 0, rfl, by rw [Nat.zero_mul]; exact Nat.zero_le _, by rw [Nat.zero_mul, Nat.sub_zero]; exact h⟩
  | c + 1, s, ⟨k, h1, h2, h3⟩ => by
    obtain ⟨j, c', e, h4, h5⟩ := Rc_split c _ h3
    by_cases hk : k = n
    · subst hk
      refine ⟨j + 1, c', by omega, by rw [Nat.succ_mul]; omega, ?_⟩
      rw [Nat.succ_mul, show s - (j * val k + val k) = s - val k - j * val k by omega]
      exact h5
    · refine ⟨j, c' + 1, by omega, by omega, k, by omega, by omega, ?_⟩
      rw [show s - j * val n - val k = s - val k - j * val n by omega]
      exact h5
theorem Rc_join {val : Nat → Nat} {n j c s : Nat} (h1 : j * val n ≤ s) (h : Rc val n c (s - j * val n)) : Rc val (n + 1) (c + j) s := Rc_addn (Nat.lt_succ_self n) j s h1 (Rc_mono (Nat.le_succ n) c _ h)
/-- L s is the least number of coins for each s up to M, -1 where there is none -/
def lsOK (val : Nat → Nat) (n M : Nat) (L : Nat → Int) : Prop := ∀ s, s ≤ M → (L s = -1 ∧ ∀ c, ¬ Rc val n c s) ∨ (∃ c : Nat, L s = (c : Int) ∧ Rc val n c s ∧ ∀ c', Rc val n c' s → c ≤ c')
theorem lsOK_get {val : Nat → Nat} {n M : Nat} {L : Nat → Int} (h : lsOK val n M L) {s : Nat} (hs : s ≤ M) (hn : ¬ L s = -1) : ∃ c : Nat, L s = (c : Int) ∧ Rc val n c s ∧ ∀ c', Rc val n c' s → c ≤ c' := (h s hs).elim (fun q => absurd q.1 hn) id
theorem lsOK_of {val : Nat → Nat} {n M : Nat} {L : Nat → Int} (h : lsOK val n M L) {s c : Nat} (hs : s ≤ M) (hr : Rc val n c s) : ¬ L s = -1 ∧ L s ≤ c := by
  rcases h s hs with ⟨-, q⟩ | ⟨c0, q1, q2, q3⟩
  · exact absurd hr (q c)
  · have := q3 c hr
    omega
theorem lsOK_uniq {val : Nat → Nat} {n M : Nat} {L L' : Nat → Int} (h : lsOK val n M L) (h' : lsOK val n M L') : ∀ s, s ≤ M → L s = L' s := fun s hs => by
  rcases h s hs with ⟨a1, a2⟩ | ⟨c, a1, a2, a3⟩ <;> rcases h' s hs with ⟨b1, b2⟩ | ⟨c', b1, b2, b3⟩
  · rw [a1, b1]
  · exact absurd b2 (a2 _)
  · exact absurd a2 (b2 _)
  · have := a3 _ b2
    have := b3 _ a2
    omega
theorem lsOK_perm {val val' : Nat → Nat} {n n' M : Nat} {L : Nat → Int} (h1 : ∀ k, k < n → ∃ j, j < n' ∧ val' j = val k) (h2 : ∀ k, k < n' → ∃ j, j < n ∧ val j = val' k) (h : lsOK val n M L) : lsOK val' n' M L := fun s hs => by
  rcases h s hs with ⟨a1, a2⟩ | ⟨c, a1, a2, a3⟩
  · exact Or.inl ⟨a1, fun c q => a2 c (Rc_perm h2 c s q)⟩
  · exact Or.inr ⟨c, a1, Rc_perm h1 c s a2, fun c' q => a3 c' (Rc_perm h2 c' s q)⟩
theorem lsOK_step {val : Nat → Nat} {n M lim : Nat} {L N : Nat → Int} (h : lsOK val n M L) (hlim : ∀ j, j * val n ≤ M → j ≤ lim) (hN : ∀ s, s ≤ M → isMn L (val n) lim s (N s)) : lsOK val (n + 1) M N := fun s hs => by
  rcases hN s hs with ⟨a1, a2⟩ | ⟨j, a1, a2, a3, a4, a5⟩
  · refine Or.inl ⟨a1, fun c q => ?_⟩
    obtain ⟨j, c', e, h1, h2⟩ := Rc_split c s q
    exact (lsOK_of h (by omega) h2).1 (a2 j (hlim j (by omega)) h1)
  · obtain ⟨c0, b1, b2, b3⟩ := lsOK_get h (show s - j * val n ≤ M by omega) a3
    refine Or.inr ⟨c0 + j, by omega, Rc_join a2 b2, fun c q => ?_⟩
    obtain ⟨i, c', e, h1, h2⟩ := Rc_split c s q
    have h3 := lsOK_of h (by omega) h2
    have h4 := a5 i (hlim i (by omega)) h1 h3.1
    omega
/-! the table that grows coin by coin -/
theorem imp_hi {lst : Nat → Int} {v : Nat} : ∀ t k, v + t ≤ k → imp lst v t k = lst k
  | 0, _, _ => rfl
  | t + 1, k, h => by
    by_cases c : imp lst v t t ≠ -1 ∧ (imp lst v t (v + t) = -1 ∨ imp lst v t t + 1 < imp lst v t (v + t))
    · rw [imp_y c, va_up_ne _ _ (by omega)]
      exact imp_hi t k (by omega)
    · rw [imp_n c]
      exact imp_hi t k (by omega)
theorem imp_lo {lst : Nat → Int} {v t k : Nat} (hk : k < v + t) : ∀ d, imp lst v (t + d) k = imp lst v t k
  | 0 => rfl
  | d + 1 => by
    show imp lst v (t + d + 1) k = _
    by_cases c : imp lst v (t + d) (t + d) ≠ -1 ∧ (imp lst v (t + d) (v + (t + d)) = -1 ∨ imp lst v (t + d) (t + d) + 1 < imp lst v (t + d) (v + (t + d)))
    · rw [imp_y c, va_up_ne _ _ (by omega)]
      exact imp_lo hk d
    · rw [imp_n c]
      exact imp_lo hk d
theorem imp_rec {lst : Nat → Int} {v t m : Nat} (hv : 1 ≤ v) (ht : t < m) : imp lst v m (v + t) = if imp lst v m t ≠ -1 ∧ (lst (v + t) = -1 ∨ imp lst v m t + 1 < lst (v + t)) then imp lst v m t + 1 else lst (v + t) := by
  have e1 : imp lst v m (v + t) = imp lst v (t + 1) (v + t) := by
    have := imp_lo (lst := lst) (v := v) (t := t + 1) (k := v + t) (by omega) (m - (t + 1))
    rw [show t + 1 + (m - (t + 1)) = m by omega] at this
    exact this
  have e2 : imp lst v m t = imp lst v t t := by
    have := imp_lo (lst := lst) (v := v) (t := t) (k := t) (by omega) (m - t)
    rw [show t + (m - t) = m by omega] at this
    exact this
  have e3 : imp lst v t (v + t) = lst (v + t) := imp_hi t _ (Nat.le_refl _)
  rw [e1, e2]
  by_cases c : imp lst v t t ≠ -1 ∧ (imp lst v t (v + t) = -1 ∨ imp lst v t t + 1 < imp lst v t (v + t))
  · rw [imp_y c, va_up_self, if_pos (by rw [← e3]; exact c)]
  · rw [imp_n c, if_neg (by rw [← e3]; exact c), e3]
theorem imp_mn {lst : Nat → Int} {v : Nat} (hv : 1 ≤ v) (hr : ∀ k, k < 2001 → -1 ≤ lst k ∧ lst k ≤ k) : ∀ s, s ≤ 2000 → isMn lst v 2000 s (imp lst v (2001 - v) s) := by
  intro s
  induction s using Nat.strongRecOn with
  | ind s ih =>
    intro hs
    by_cases hlt : s < v
    · have e : imp lst v (2001 - v) s = lst s := by
        have := imp_lo (lst := lst) (v := v) (t := 0) (k := s) (by omega) (2001 - v)
        rw [Nat.zero_add] at this
        exact this
      have hj : ∀ j, j * v ≤ s → j = 0 := fun j h => by
        rcases Nat.eq_zero_or_pos j with q | q
        · exact q
        · have : 1 * v ≤ j * v := Nat.mul_le_mul_right v q
          omega
      rw [e]
      by_cases c : lst s = -1
      · refine Or.inl ⟨c, fun j h1 h2 => ?_⟩
        obtain rfl := hj j h2
        rw [Nat.zero_mul, Nat.sub_zero]
        exact c
      · refine Or.inr ⟨0, by omega, by omega, by rw [Nat.zero_mul, Nat.sub_zero]; exact c, by rw [Nat.zero_mul, Nat.sub_zero]; omega, fun j h1 h2 h3 => ?_⟩
        obtain rfl := hj j h2
        rw [Nat.zero_mul, Nat.sub_zero]
        omega
    · obtain ⟨t, rfl⟩ : ∃ t, s = v + t := ⟨s - v, by omega⟩
      have h0 := ih t (by omega) (by omega)
      have hR := imp_rng hv hr (2001 - v) (by omega) t (by omega)
      rw [imp_rec hv (show t < 2001 - v by omega)]
      generalize imp lst v (2001 - v) t = F at h0 hR ⊢
      have hsub : ∀ i, v + t - (i + 1) * v = t - i * v := fun i => by rw [Nat.succ_mul]; omega
      have hle : ∀ i, (i + 1) * v ≤ v + t ↔ i * v ≤ t := fun i => by rw [Nat.succ_mul]; omega
      by_cases c : F ≠ -1 ∧ (lst (v + t) = -1 ∨ F + 1 < lst (v + t))
      · rw [if_pos c]
        rcases h0 with ⟨a1, -⟩ | ⟨j, a1, a2, a3, a4, a5⟩
        · exact absurd a1 c.1
        · have hjv : j + 1 ≤ (j + 1) * v := Nat.le_mul_of_pos_right _ hv
          have hj2 := (hle j).mpr a2
          refine Or.inr ⟨j + 1, by omega, hj2, by rw [hsub]; exact a3, by rw [hsub]; omega, fun i h1 h2 h3 => ?_⟩
          cases i with
          | zero =>
            rw [Nat.zero_mul, Nat.sub_zero] at h3 ⊢
            have := c.2
            omega
          | succ i =>
            rw [hsub] at h3 ⊢
            have := a5 i (by omega) ((hle i).mp h2) h3
            omega
      · rw [if_neg c]
        by_cases c2 : lst (v + t) = -1
        · have hF : F = -1 := Decidable.byContradiction fun q => c ⟨q, Or.inl c2⟩
          rcases h0 with ⟨-, a2⟩ | ⟨j, a1, a2, a3, a4, -⟩
          · refine Or.inl ⟨c2, fun i h1 h2 => ?_⟩
            cases i with
            | zero =>
              rw [Nat.zero_mul, Nat.sub_zero]
              exact c2
            | succ i =>
              rw [hsub]
              exact a2 i (by omega) ((hle i).mp h2)
          · have := hr (t - j * v) (by omega)
            omega
        · refine Or.inr ⟨0, by omega, by omega, by rw [Nat.zero_mul, Nat.sub_zero]; exact c2, by rw [Nat.zero_mul, Nat.sub_zero]; omega, fun i h1 h2 h3 => ?_⟩
          cases i with
          | zero =>
            rw [Nat.zero_mul, Nat.sub_zero]
            omega
          | succ i =>
            rw [hsub] at h3 ⊢
            rcases h0 with ⟨a1, a2⟩ | ⟨j, a1, a2, a3, a4, a5⟩
            · exact absurd (a2 i (by omega) ((hle i).mp h2)) h3
            · have := a5 i (by omega) ((hle i).mp h2) h3
              have hj := hr (t - j * v) (by omega)
              have : ¬ F + 1 < lst (v + t) := fun q => c ⟨by omega, Or.inr q⟩
              omega
theorem lsF_0 (val : Nat → Nat) {s : Nat} (h : s < 2001) : lsF val 0 s = if s = 0 then 0 else -1 := fill_one h
theorem lsF_rng {val : Nat → Nat} : ∀ n, (∀ k, k < n → 1 ≤ val k ∧ val k ≤ 1000) → ∀ k, k < 2001 → -1 ≤ lsF val n k ∧ lsF val n k ≤ k
  | 0, _, k, hk => by
    rw [lsF_0 val hk]
    split <;> omega
  | n + 1, h, k, hk => by
    have hn := h n (by omega)
    exact imp_rng hn.1 (lsF_rng n (fun q hq => h q (by omega))) (2001 - val n) (by omega) k hk
theorem mul_lim {v j M : Nat} (hv : 1 ≤ v) (h : j * v ≤ M) : j ≤ M := Nat.le_trans (Nat.le_mul_of_pos_right j hv) h
theorem lsF_ok {val : Nat → Nat} : ∀ n, (∀ k, k < n → 1 ≤ val k ∧ val k ≤ 1000) → lsOK val n 2000 (lsF val n)
  | 0, _ => fun s hs => by
    rw [lsF_0 val (by omega)]
    by_cases e : s = 0
    · rw [if_pos e]
      exact Or.inr ⟨0, rfl, e, fun _ _ => Nat.zero_le _⟩
    · rw [if_neg e]
      refine Or.inl ⟨rfl, fun c q => ?_⟩
      cases c with
      | zero => exact e q
      | succ c =>
        obtain ⟨k, hk, -⟩ := q
        exact absurd hk (Nat.not_lt_zero _)
  | n + 1, h => by
    have hn := h n (by omega)
    exact lsOK_step (lim := 2000) (lsF_ok n (fun q hq => h q (by omega))) (fun j hj => mul_lim hn.1 hj) (imp_mn hn.1 (lsF_rng n (fun q hq => h q (by omega))))
theorem lsF_c {val val' : Nat → Nat} : ∀ n, (∀ k, k < n → val k = val' k) → lsF val n = lsF val' n
  | 0, _ => rfl
  | n + 1, h => by
    show imp (lsF val n) (val n) (2001 - val n) = imp (lsF val' n) (val' n) (2001 - val' n)
    rw [lsF_c n (fun k hk => h k (by omega)), h n (by omega)]
/-! the table of the rows -/
theorem isMn_c {A A' : Nat → Int} {v lim s : Nat} {r r' : Int} (hA : ∀ k, k ≤ s → A k = A' k) (h : isMn A v lim s r) (h' : isMn A' v lim s r') : r = r' := by
  have e : ∀ j, A (s - j * v) = A' (s - j * v) := fun j => hA _ (Nat.sub_le _ _)
  rcases h with ⟨a1, a2⟩ | ⟨j, a1, a2, a3, a4, a5⟩ <;> rcases h' with ⟨b1, b2⟩ | ⟨j', b1, b2, b3, b4, b5⟩
  · rw [a1, b1]
  · exact absurd ((e j').symm.trans (a2 j' b1 b2)) b3
  · exact absurd ((e j).trans (b2 j a1 a2)) a3
  · have h1 := a5 j' b1 b2 (by rw [e]; exact b3)
    have h2 := b5 j a1 a2 (by rw [← e]; exact a3)
    rw [e] at h1 a4
    omega
theorem tb_uniq {val fal lim val' fal' lim' : Nat → Nat} {cnt sm : Nat} {tb tb' : Nat → Nat → Int} (h : tbOK val fal lim cnt sm tb) (h' : tbOK val' fal' lim' cnt sm tb') (hc : ∀ j, j < cnt → val (fal j) = val' (fal' j) ∧ lim (fal j) = lim' (fal' j)) : ∀ k, k ≤ cnt → ∀ s, s ≤ sm → tb k s = tb' k s
  | 0, _, s, hs => by rw [h.1 s hs, h'.1 s hs]
  | k + 1, hk, s, hs => by
    have h1 := h.2 k (by omega) s hs
    have h2 := h'.2 k (by omega) s hs
    have h3 := hc (cnt - 1 - k) (by omega)
    rw [← h3.1, ← h3.2] at h2
    exact isMn_c (fun q hq => tb_uniq h h' hc k (by omega) q (by omega)) h1 h2
theorem dn_c {P P' : Nat → Bool} : ∀ n, (∀ k, k ≤ n → P k = P' k) → dn P n = dn P' n
  | 0, _ => rfl
  | n + 1, h => by
    show (if P (n + 1) then n + 1 else dn P n) = if P' (n + 1) then n + 1 else dn P' n
    rw [h (n + 1) (Nat.le_refl _), dn_c n (fun k hk => h k (by omega))]
theorem dn_eq {P : Nat → Bool} {t : Nat} : ∀ m, t ≤ m → P t = true → (∀ j, t < j → j ≤ m → P j = false) → dn P m = t
  | 0, h, _, _ => by
    have : t = 0 := by omega
    rw [this]
    rfl
  | m + 1, h, hP, hj => by
    by_cases e : t = m + 1
    · rw [e] at hP ⊢
      exact dn_y hP
    · rw [dn_n (hj (m + 1) (by omega) (Nat.le_refl _))]
      exact dn_eq m (by omega) hP (fun j h1 h2 => hj j h1 (by omega))
theorem wrL_c {val fal lim val' fal' lim' : Nat → Nat} {cnt sm : Nat} {tb tb' : Nat → Nat → Int} (ht : ∀ k, k ≤ cnt → ∀ s, s ≤ sm → tb k s = tb' k s) (hc : ∀ j, j < cnt → val (fal j) = val' (fal' j) ∧ lim (fal j) = lim' (fal' j)) : ∀ j, j ≤ cnt → wrL tb val fal lim cnt sm j = wrL tb' val' fal' lim' cnt sm j ∧ ∀ i, i < j → wrN tb val fal lim cnt (wrL tb val fal lim cnt sm i) i = wrN tb' val' fal' lim' cnt (wrL tb' val' fal' lim' cnt sm i) i
  | 0, _ => ⟨rfl, fun i hi => absurd hi (Nat.not_lt_zero _)⟩
  | j + 1, hj => by
    obtain ⟨e1, e2⟩ := wrL_c ht hc j (by omega)
    have hl := wrL_le tb val fal lim cnt sm j
    have hq := hc j (by omega)
    have eN : wrN tb val fal lim cnt (wrL tb val fal lim cnt sm j) j = wrN tb' val' fal' lim' cnt (wrL tb' val' fal' lim' cnt sm j) j := by
      rw [← e1]
      unfold wrN
      rw [← hq.1, ← hq.2]
      refine dn_c _ (fun k _ => ?_)
      unfold wrP
      rw [ht (cnt - j - 1) (by omega) _ (Nat.le_trans (Nat.sub_le _ _) hl), ht (cnt - j) (by omega) _ hl]
    refine ⟨?_, fun i hi => ?_⟩
    · show wrL tb val fal lim cnt sm j - wrN tb val fal lim cnt (wrL tb val fal lim cnt sm j) j * val (fal j) = wrL tb' val' fal' lim' cnt sm j - wrN tb' val' fal' lim' cnt (wrL tb' val' fal' lim' cnt sm j) j * val' (fal' j)
      rw [eN, e1, hq.1]
    · by_cases e : i = j
      · rw [e]
        exact eN
      · exact e2 i (by omega)
theorem wrM_c {val fal lim val' fal' lim' : Nat → Nat} {cnt sm : Nat} {tb tb' : Nat → Nat → Int} {rz rz' : Nat → Nat} {k : Nat} (hf : ∀ j, j < cnt → fal j = fal' j) (hN : ∀ i, i < cnt → wrN tb val fal lim cnt (wrL tb val fal lim cnt sm i) i = wrN tb' val' fal' lim' cnt (wrL tb' val' fal' lim' cnt sm i) i) : ∀ n, n ≤ cnt → (∃ j, j < n ∧ fal j = k) → wrM tb val fal lim cnt sm rz n k = wrM tb' val' fal' lim' cnt sm rz' n k
  | 0, _, h => by
    obtain ⟨j, hj, -⟩ := h
    exact absurd hj (Nat.not_lt_zero _)
  | n + 1, hn, h => by
    show va_up (wrM tb val fal lim cnt sm rz n) (fal n) (wrN tb val fal lim cnt (wrL tb val fal lim cnt sm n) n) k = va_up (wrM tb' val' fal' lim' cnt sm rz' n) (fal' n) (wrN tb' val' fal' lim' cnt (wrL tb' val' fal' lim' cnt sm n) n) k
    rw [← hf n (by omega), hN n (by omega)]
    by_cases e : k = fal n
    · rw [e, va_up_self, va_up_self]
    · rw [va_up_ne _ _ e, va_up_ne _ _ e]
      obtain ⟨j, hj, hk⟩ := h
      refine wrM_c hf hN n (by omega) ⟨j, ?_, hk⟩
      rcases Nat.lt_or_ge j n with c | c
      · exact c
      · exact absurd (show k = fal n by rw [← hk, show j = n by omega]) e
