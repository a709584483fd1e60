
/-! ===== ChangeMaker: the fewest coins where each coin may be taken lim times at most ===== -/
def isMn (A : Nat → Int) (v lim s : Nat) (r : Int) : Prop := (r = -1 ∧ ∀ j, j ≤ lim → j * v ≤ s → A (s - j * v) = -1) ∨ (∃ j, j ≤ lim ∧ j * v ≤ s ∧ A (s - j * v) ≠ -1 ∧ r = A (s - j * v) + j ∧ ∀ j', j' ≤ lim → j' * v ≤ s → A (s - j' * v) ≠ -1 → r ≤ A (s - j' * v) + j')
theorem isMn_rng {A : Nat → Int} {v lim s : Nat} {r : Int} (hv : 1 ≤ v) (hA : ∀ k, k ≤ s → -1 ≤ A k ∧ A k ≤ k) (h : isMn A v lim s r) : -1 ≤ r ∧ r ≤ s := by
  rcases h with ⟨h, -⟩ | ⟨j, h1, h2, h3, h4, -⟩
  · omega
  · have h5 := hA (s - j * v) (by omega)
    have h6 : j * 1 ≤ j * v := Nat.mul_le_mul_left j hv
    omega
def qG (A : Nat → Int) (f v lim p m h t : Nat) (P C : Nat → Int) : Prop := (h ≤ t ∧ t ≤ m) ∧ (∀ a, h ≤ a → a < t → ∃ q : Nat, P a = q ∧ q < m ∧ p ≤ q + lim + 1 ∧ A (f + q * v) ≠ -1 ∧ C a = A (f + q * v) - q) ∧ (∀ a b, h ≤ a → a < b → b < t → P a < P b ∧ C a < C b) ∧ (∀ q : Nat, q < m → p ≤ q + lim + 1 → A (f + q * v) ≠ -1 → ∃ a, h ≤ a ∧ a < t ∧ (q : Int) ≤ P a ∧ C a ≤ A (f + q * v) - q)
def qJ (A : Nat → Int) (f v lim p h t : Nat) (P C : Nat → Int) (cost : Int) : Prop := (h ≤ t ∧ t ≤ p) ∧ (∀ a, h ≤ a → a < t → ∃ q : Nat, P a = q ∧ q < p ∧ p ≤ q + lim + 1 ∧ A (f + q * v) ≠ -1 ∧ C a = A (f + q * v) - q) ∧ (∀ a b, h ≤ a → a < b → b < t → P a < P b ∧ C a < C b) ∧ (∀ q : Nat, q < p → p ≤ q + lim + 1 → A (f + q * v) ≠ -1 → (∃ a, h ≤ a ∧ a < t ∧ (q : Int) ≤ P a ∧ C a ≤ A (f + q * v) - q) ∨ cost ≤ A (f + q * v) - q)
theorem qG_0 (A : Nat → Int) (f v lim : Nat) (P C : Nat → Int) : qG A f v lim 0 0 0 0 P C := ⟨⟨Nat.le_refl _, Nat.le_refl _⟩, fun a h1 h2 => absurd h2 (Nat.not_lt_zero _), fun a b h1 h2 h3 => absurd h3 (Nat.not_lt_zero _), fun q h => absurd h (Nat.not_lt_zero _)⟩
theorem qG_no {A : Nat → Int} {f v lim p h t : Nat} {P C : Nat → Int} (H : qG A f v lim p p h t P C) (hA : A (f + p * v) = -1) : qG A f v lim p (p + 1) h t P C := by
  obtain ⟨h1, h2, h3, h4⟩ := H
  refine ⟨by omega, fun a ha hb => ?_, h3, fun q hq hw hn => ?_⟩
  · obtain ⟨q, e1, e2, e3⟩ := h2 a ha hb
    exact ⟨q, e1, by omega, e3⟩
  · rcases Nat.lt_or_ge q p with c | c
    · exact h4 q c hw hn
    · exact absurd hA (by rw [show p = q by omega]; exact hn)
theorem qJ_in {A : Nat → Int} {f v lim p h t : Nat} {P C : Nat → Int} (H : qG A f v lim p p h t P C) (cost : Int) : qJ A f v lim p h t P C cost := ⟨H.1, H.2.1, H.2.2.1, fun q a b c => Or.inl (H.2.2.2 q a b c)⟩
theorem qJ_pop {A : Nat → Int} {f v lim p h t : Nat} {P C : Nat → Int} {cost : Int} (H : qJ A f v lim p h (t + 1) P C cost) (ht : h ≤ t) (hc : cost ≤ C t) : qJ A f v lim p h t P C cost := by
  obtain ⟨h1, h2, h3, h4⟩ := H
  refine ⟨by omega, fun a ha hb => h2 a ha (by omega), fun a b x y z => h3 a b x y (by omega), fun q hq hw hn => ?_⟩
  rcases h4 q hq hw hn with ⟨a, x1, x2, x3, x4⟩ | x
  · rcases Nat.lt_or_ge a t with y | y
    · exact Or.inl ⟨a, x1, y, x3, x4⟩
    · rw [show a = t by omega] at x4
      exact Or.inr (by omega)
  · exact Or.inr x
theorem qJ_push {A : Nat → Int} {f v lim p h t : Nat} {P C : Nat → Int} {cost : Int} (H : qJ A f v lim p h t P C cost) (hl : t ≤ h ∨ C (t - 1) < cost) (hA : A (f + p * v) ≠ -1) (hc : cost = A (f + p * v) - p) : qG A f v lim p (p + 1) h (t + 1) (va_up P t (p : Int)) (va_up C t cost) := by
  obtain ⟨h1, h2, h3, h4⟩ := H
  have eP : va_up P t (p : Int) t = p := va_up_self _ _ _
  have eC : va_up C t cost t = cost := va_up_self _ _ _
  have nP : ∀ a, a ≠ t → va_up P t (p : Int) a = P a := fun a x => va_up_ne _ _ x
  have nC : ∀ a, a ≠ t → va_up C t cost a = C a := fun a x => va_up_ne _ _ x
  refine ⟨by omega, fun a ha hb => ?_, fun a b x y z => ?_, fun q hq hw hn => ?_⟩
  · by_cases e : a = t
    · subst e
      exact ⟨p, eP, by omega, by omega, hA, by rw [eC, hc]⟩
    · obtain ⟨q, e1, e2, e3, e4, e5⟩ := h2 a ha (by omega)
      exact ⟨q, by rw [nP a e, e1], by omega, e3, e4, by rw [nC a e, e5]⟩
  · by_cases e : b = t
    · subst e
      obtain ⟨q, e1, e2, -⟩ := h2 a x (by omega)
      rw [nP a (by omega), nC a (by omega), eP, eC]
      refine ⟨by omega, ?_⟩
      by_cases e9 : a = b - 1
      · subst e9
        omega
      · have := (h3 a (b - 1) x (by omega) (by omega)).2
        omega
    · rw [nP a (by omega), nC a (by omega), nP b e, nC b e]
      exact h3 a b x y (by omega)
  · by_cases e : q = p
    · subst e
      exact ⟨t, by omega, by omega, by rw [eP]; omega, by rw [eC, hc]; omega⟩
    · rcases h4 q (by omega) hw hn with ⟨a, x1, x2, x3, x4⟩ | x
      · exact ⟨a, x1, by omega, by rw [nP a (by omega)]; exact x3, by rw [nC a (by omega)]; exact x4⟩
      · exact ⟨t, by omega, by omega, by rw [eP]; omega, by rw [eC]; exact x⟩
theorem qG_pop {A : Nat → Int} {f v lim p h t : Nat} {P C : Nat → Int} (H : qG A f v lim p (p + 1) h t P C) (ht : h < t) (hp : P h < (p : Int) - lim) : qG A f v lim (p + 1) (p + 1) (h + 1) t P C := by
  obtain ⟨h1, h2, h3, h4⟩ := H
  refine ⟨by omega, fun a ha hb => ?_, fun a b x y z => h3 a b (by omega) y z, fun q hq hw hn => ?_⟩
  · obtain ⟨q, e1, e2, e3, e4, e5⟩ := h2 a (by omega) hb
    obtain ⟨q0, f1, f2, f3, -⟩ := h2 h (Nat.le_refl _) ht
    have := (h3 h a (Nat.le_refl _) (by omega) hb).1
    exact ⟨q, e1, e2, by omega, e4, e5⟩
  · obtain ⟨a, x1, x2, x3, x4⟩ := h4 q hq (by omega) hn
    by_cases e : a = h
    · subst e
      omega
    · exact ⟨a, by omega, x2, x3, x4⟩
theorem qG_stay {A : Nat → Int} {f v lim p h t : Nat} {P C : Nat → Int} (H : qG A f v lim p (p + 1) h t P C) (hp : t ≤ h ∨ (p : Int) - lim ≤ P h) : qG A f v lim (p + 1) (p + 1) h t P C := by
  obtain ⟨h1, h2, h3, h4⟩ := H
  refine ⟨by omega, fun a ha hb => ?_, h3, fun q hq hw hn => h4 q hq (by omega) hn⟩
  obtain ⟨q, e1, e2, e3, e4, e5⟩ := h2 a ha hb
  by_cases e : a = h
  · subst e
    exact ⟨q, e1, e2, by omega, e4, e5⟩
  · have := (h3 h a (Nat.le_refl _) (by omega) hb).1
    exact ⟨q, e1, e2, by omega, e4, e5⟩
theorem qG_rng {A : Nat → Int} {f v lim p m h t M : Nat} {P C : Nat → Int} (H : qG A f v lim p m h t P C) (hA : ∀ k, k ≤ M → -1 ≤ A k ∧ A k ≤ k) (hM : ∀ q, q < m → f + q * v ≤ M) (hm : m ≤ 2001) (hMM : M ≤ 2000) : ∀ a, h ≤ a → a < t → -3000 ≤ C a ∧ C a ≤ 3000 ∧ 0 ≤ P a ∧ P a ≤ 3000 := by
  intro a ha hb
  obtain ⟨q, e1, e2, e3, e4, e5⟩ := H.2.1 a ha hb
  have := hA _ (hM q e2)
  have := hM q e2
  omega
theorem qJ_rng {A : Nat → Int} {f v lim p h t M : Nat} {P C : Nat → Int} {cost : Int} (H : qJ A f v lim p h t P C cost) (hA : ∀ k, k ≤ M → -1 ≤ A k ∧ A k ≤ k) (hM : ∀ q, q < p → f + q * v ≤ M) (hm : p ≤ 2001) (hMM : M ≤ 2000) : ∀ a, h ≤ a → a < t → -3000 ≤ C a ∧ C a ≤ 3000 := by
  intro a ha hb
  obtain ⟨q, e1, e2, e3, e4, e5⟩ := H.2.1 a ha hb
  have := hA _ (hM q e2)
  have := hM q e2
  omega
theorem mul_lt_le {f v p j : Nat} (hf : f < v) (h : j * v ≤ f + p * v) : j ≤ p := by
  rcases Nat.lt_or_ge p j with c | c
  · have h1 : (p + 1) * v ≤ j * v := Nat.mul_le_mul_right v c
    rw [Nat.succ_mul] at h1
    omega
  · exact c
theorem sub_mul' {f v p j : Nat} (h : j ≤ p) : f + p * v - j * v = f + (p - j) * v := by
  have h1 : (p - j) * v + j * v = p * v := by rw [← Nat.add_mul, Nat.sub_add_cancel h]
  omega
theorem mul_step {v q p : Nat} (f : Nat) (h : q < p) : f + q * v + v ≤ f + p * v := by
  have e9 : (q + 1) * v ≤ p * v := Nat.mul_le_mul_right v h
  rw [Nat.succ_mul] at e9
  omega
theorem mul_in {v q p f M : Nat} (hM : f + p * v ≤ M) (h : q < p + 1) : f + q * v ≤ M := by
  have e9 : q * v ≤ p * v := Nat.mul_le_mul_right v (by omega)
  omega
theorem qG_mn {A : Nat → Int} {f v lim p h t : Nat} {P C : Nat → Int} (hf : f < v) (H : qG A f v lim (p + 1) (p + 1) h t P C) (ht : h < t) : isMn A v lim (f + p * v) (C h + p) := by
  obtain ⟨h1, h2, h3, h4⟩ := H
  obtain ⟨q, e1, e2, e3, e4, e5⟩ := h2 h (Nat.le_refl _) ht
  have hq : p - (p - q) = q := by omega
  refine Or.inr ⟨p - q, by omega, ?_, ?_, ?_, fun j' hj' hjv hn => ?_⟩
  · have : (p - q) * v ≤ p * v := Nat.mul_le_mul_right v (Nat.sub_le p q)
    omega
  · rw [sub_mul' (by omega), hq]
    exact e4
  · rw [sub_mul' (by omega), hq, e5]
    omega
  · have hle := mul_lt_le hf hjv
    rw [sub_mul' hle] at hn ⊢
    obtain ⟨a, x1, x2, x3, x4⟩ := h4 (p - j') (by omega) (by omega) hn
    by_cases e : a = h
    · subst e
      omega
    · have := (h3 h a (Nat.le_refl _) (by omega) x2).2
      omega
theorem qG_no_mn {A : Nat → Int} {f v lim p h t : Nat} {P C : Nat → Int} (hf : f < v) (H : qG A f v lim (p + 1) (p + 1) h t P C) (ht : t ≤ h) : isMn A v lim (f + p * v) (-1) := by
  obtain ⟨h1, h2, h3, h4⟩ := H
  refine Or.inl ⟨rfl, fun j hj hjv => ?_⟩
  have hle := mul_lt_le hf hjv
  rw [sub_mul' hle]
  refine Decidable.byContradiction fun hn => ?_
  obtain ⟨a, x1, x2, -⟩ := h4 (p - j) (by omega) (by omega) hn
  omega
set_option maxHeartbeats 4000000 in
set_option maxRecDepth 100000 in
theorem c_X0_leadsOn {l : Launch} {G : nG} {N : Nat} {ad : Nat → Nat} {w : Nat → va_E} {sz : Nat} (i q left rest nn : Nat) (T0 T1 : Nat → Int) (hN : i + 13 < N) (hq : 1 ≤ q ∧ q ≤ 8) (hlt : left < 2001 ∧ rest < 2001) (hnn : nn ≤ 2000) (hT0 : -1 ≤ T0 rest ∧ T0 rest ≤ 2000) (hT1 : -1 ≤ T1 left ∧ T1 left ≤ 2000) (f_m : w i = .inr (0, [.ref (ad (i + 1)), .ref (ad (i + 2)), .ref (ad (i + 12)), .ref (ad (i + 13))])) (f_g : w (i + 2) = aR G 5 9 (fun k => some (ad (i + 3 + k)))) (f_r0 : w (i + 3 + (q - 1)) = aI G 2001 T0) (f_r1 : w (i + 3 + q) = aI G 2001 T1) : Met l yX0_leadsOn wsX0_leadsOn ({ frames := 0, cells := 0, slots := 0, locals := 0 }) (va_Pc [.ref (ad i), .int (iI ((q : Nat) : Int)), .int (iI ((left : Nat) : Int)), .int (iI ((rest : Nat) : Int)), .int (iI ((nn : Nat) : Int))] (nB G N ad w sz)) (nRd (.int (iI (bI (¬ T0 rest = -1 ∧ T0 rest + (nn : Int) = T1 left))))) 0 0 (fun _ => False) := by
  refine n_ent (cc := cX0_leadsOn) (maxL := 5) (ret := (some .boolean)) (by decide) rfl (Nat.le_of_ble_eq_true rfl) ?_
  intro p e s m below meth cd hx hb hr hml hlocks hts hown hnm hsz hP hK hI Q hQ ls hl
  have hown : s.vm.findClass RX0 = some m.cls := hown
  have hl : lv_has ls 5 [(0, .ref (ad i)), (1, .int (iI ((q : Nat) : Int))), (2, .int (iI ((left : Nat) : Int))), (3, .int (iI ((rest : Nat) : Int))), (4, .int (iI ((nn : Nat) : Int)))] := hl
  refine lv_aload_n hx hb dX0_leadsOn_0 rfl (lv_at hl 0 rfl) ?_
  refine n_get hx hb hts u_X0 hown hK hP (by omega) f_m rfl 1 (by decide) (nT_m wf_X0_17) rfl dX0_leadsOn_1 ?_
  refine lv_iload_n hx hb dX0_leadsOn_4 rfl (lv_at hl 1 rfl) ?_
  refine n_iconst hx hb dX0_leadsOn_5 ?_
  refine n_isub hx hb dX0_leadsOn_6 ?_
  refine n_aald hx hb hK hP (.array .int) (q - 1) (by omega) f_g rfl rfl (by omega) (by omega) (by decide) rfl dX0_leadsOn_7 ?_
  refine lv_iload_n hx hb dX0_leadsOn_8 rfl (lv_at hl 3 rfl) ?_
  refine n_iald hx hb hK hP rest (by omega) f_r0 (by omega) (by omega) (by decide) dX0_leadsOn_9 ?_
  refine n_iconst hx hb dX0_leadsOn_10 ?_
  refine n_icmp_eq (tgt := 42) hx hb dX0_leadsOn_11 (by decide) (by omega) (by omega) (fun hc11 => ?_) (fun hc11 => ?_)
  · skip
    refine n_iconst hx hb dX0_leadsOn_42 ?_
    exact n_zretR hQ hx hb hr hlocks (by unfold bI; split <;> omega) dX0_leadsOn_43
  · skip
    refine lv_aload_n hx hb dX0_leadsOn_14 rfl (lv_at hl 0 rfl) ?_
    refine n_get hx hb hts u_X0 hown hK hP (by omega) f_m rfl 1 (by decide) (nT_m wf_X0_17) rfl dX0_leadsOn_15 ?_
    refine lv_iload_n hx hb dX0_leadsOn_18 rfl (lv_at hl 1 rfl) ?_
    refine n_iconst hx hb dX0_leadsOn_19 ?_
    refine n_isub hx hb dX0_leadsOn_20 ?_
    refine n_aald hx hb hK hP (.array .int) (q - 1) (by omega) f_g rfl rfl (by omega) (by omega) (by decide) rfl dX0_leadsOn_21 ?_
    refine lv_iload_n hx hb dX0_leadsOn_22 rfl (lv_at hl 3 rfl) ?_
    refine n_iald hx hb hK hP rest (by omega) f_r0 (by omega) (by omega) (by decide) dX0_leadsOn_23 ?_
    refine lv_iload hx hb dX0_leadsOn_24 (lv_at hl 4 rfl) ?_
    refine n_iadd hx hb dX0_leadsOn_26 ?_
    refine lv_aload_n hx hb dX0_leadsOn_27 rfl (lv_at hl 0 rfl) ?_
    refine n_get hx hb hts u_X0 hown hK hP (by omega) f_m rfl 1 (by decide) (nT_m wf_X0_17) rfl dX0_leadsOn_28 ?_
    refine lv_iload_n hx hb dX0_leadsOn_31 rfl (lv_at hl 1 rfl) ?_
    refine n_aald hx hb hK hP (.array .int) q (by omega) f_g rfl rfl (by omega) (by omega) (by decide) rfl dX0_leadsOn_32 ?_
    refine lv_iload_n hx hb dX0_leadsOn_33 rfl (lv_at hl 2 rfl) ?_
    refine n_iald hx hb hK hP left (by omega) f_r1 (by omega) (by omega) (by decide) dX0_leadsOn_34 ?_
    refine n_icmp_ne (tgt := 42) hx hb dX0_leadsOn_35 (by decide) (by omega) (by omega) (fun hc35 => ?_) (fun hc35 => ?_)
    · skip
      refine n_iconst hx hb dX0_leadsOn_42 ?_
      exact n_zretR hQ hx hb hr hlocks (by unfold bI; split <;> omega) dX0_leadsOn_43
    · skip
      refine n_iconst hx hb dX0_leadsOn_38 ?_
      refine lv_goto (tgt := 43) hx hb dX0_leadsOn_39 (by decide) ?_
      exact n_zretR hQ hx hb hr hlocks (by unfold bI; split <;> omega) dX0_leadsOn_43
theorem sl_last {f v M : Nat} (hv : 1 ≤ v) (hfM : f ≤ M) : ∃ lst : Nat, (((M : Nat) : Int) - ((f : Nat) : Int)) / ((v : Nat) : Int) = ((lst : Nat) : Int) ∧ f + lst * v ≤ M ∧ M < f + lst * v + v ∧ lst ≤ lst * v := by
  refine ⟨(M - f) / v, ?_, ?_, ?_, Nat.le_mul_of_pos_right _ hv⟩
  · rw [show ((M : Nat) : Int) - ((f : Nat) : Int) = ((M - f : Nat) : Int) by omega]
    rfl
  · have h1 := Nat.div_mul_le_self (M - f) v
    omega
  · have h1 := Nat.div_add_mod (M - f) v
    have h2 := Nat.mod_lt (M - f) hv
    rw [Nat.mul_comm] at h1
    omega
set_option maxHeartbeats 4000000 in
set_option maxRecDepth 100000 in
theorem c_X0_slide {l : Launch} {G : nG} {N : Nat} {ad : Nat → Nat} {w : Nat → va_E} {sz : Nat} (i ia ib f v lim M : Nat) (A T P0 C0 : Nat → Int) (hN : i + 13 < N) (hia : ia < N ∧ ib < N ∧ ia ≠ ib ∧ ia ≠ i + 12 ∧ ia ≠ i + 13 ∧ ib ≠ i + 12 ∧ ib ≠ i + 13 ∧ ia ≠ i ∧ ib ≠ i) (hv : 1 ≤ v ∧ v ≤ 1000) (hf : f < v) (hfM : f ≤ M) (hM : M ≤ 2000) (hlim : lim ≤ 2000) (hA : ∀ k, k ≤ M → -1 ≤ A k ∧ A k ≤ k) (f_m : w i = .inr (0, [.ref (ad (i + 1)), .ref (ad (i + 2)), .ref (ad (i + 12)), .ref (ad (i + 13))])) (f_fr : w ia = aI G 2001 A) (f_to : w ib = aI G 2001 T) (f_pl : w (i + 12) = aI G 2001 P0) (f_co : w (i + 13) = aI G 2001 C0) : Met l yX0_slide wsX0_slide ({ frames := 1, cells := 0, slots := 0, locals := 21 }) (va_Pc [.ref (ad i), .ref (ad ia), .ref (ad ib), .int (iI ((f : Nat) : Int)), .int (iI ((v : Nat) : Int)), .int (iI ((lim : Nat) : Int)), .int (iI ((M : Nat) : Int))] (nB G N ad w sz)) (nPv G N ad sz (fun u => (∀ j, j ≠ ib → j ≠ (i + 12) → j ≠ (i + 13) → u j = w j) ∧ (∃ Tn, u ib = aI G 2001 Tn ∧ (∀ p1, f + p1 * v ≤ M → isMn A v lim (f + p1 * v) (Tn (f + p1 * v))) ∧ (∀ s1, (∀ p1, s1 = f + p1 * v → M < s1) → Tn s1 = T s1)) ∧ (∃ Pn, u (i + 12) = aI G 2001 Pn) ∧ (∃ Cn, u (i + 13) = aI G 2001 Cn))) 0 0 (nA N ad sz) := by
  refine n_ent (cc := cX0_slide) (maxL := 13) (ret := (none : Option Jvm.ClassFile.FieldType)) (by decide) rfl (Nat.le_of_ble_eq_true rfl) ?_
  intro p e s m below meth cd hx hb hr hml hlocks hts hown hnm hsz hP hK hI Q hQ ls hl
  have hown : s.vm.findClass RX0 = some m.cls := hown
  subst hsz
  have hJ := hI.J s.heap.size
  have hS : va_S (nA N ad s.heap.size) s.heap s.heap [] := va_S.rf
  have hfr : ∀ j, j ≠ ib → j ≠ (i + 12) → j ≠ (i + 13) → w j = w j := fun _ _ _ _ => rfl
  have hl : lv_has ls 13 [(0, .ref (ad i)), (1, .ref (ad ia)), (2, .ref (ad ib)), (3, .int (iI ((f : Nat) : Int))), (4, .int (iI ((v : Nat) : Int))), (5, .int (iI ((lim : Nat) : Int))), (6, .int (iI ((M : Nat) : Int)))] := hl
  refine n_iconst hx hb dX0_slide_0 ?_
  refine lv_istore (lv' := [(7, .int (iI 0)), (0, .ref (ad i)), (1, .ref (ad ia)), (2, .ref (ad ib)), (3, .int (iI ((f : Nat) : Int))), (4, .int (iI ((v : Nat) : Int))), (5, .int (iI ((lim : Nat) : Int))), (6, .int (iI ((M : Nat) : Int)))]) hx hb dX0_slide_1 hl (by decide) rfl (fun ls hl => ?_)
  refine n_iconst hx hb dX0_slide_3 ?_
  refine lv_istore (lv' := [(8, .int (iI 0)), (7, .int (iI 0)), (0, .ref (ad i)), (1, .ref (ad ia)), (2, .ref (ad ib)), (3, .int (iI ((f : Nat) : Int))), (4, .int (iI ((v : Nat) : Int))), (5, .int (iI ((lim : Nat) : Int))), (6, .int (iI ((M : Nat) : Int)))]) hx hb dX0_slide_4 hl (by decide) rfl (fun ls hl => ?_)
  refine lv_iload hx hb dX0_slide_6 (lv_at hl 8 rfl) ?_
  refine lv_iload_n hx hb dX0_slide_8 rfl (lv_at hl 5 rfl) ?_
  refine n_isub hx hb dX0_slide_9 ?_
  refine lv_iload hx hb dX0_slide_10 (lv_at hl 6 rfl) ?_
  obtain ⟨lst, hlst, hlM, hlt, hlv⟩ := sl_last hv.1 hfM
  have hw9 := c_X6_wholeTimes (l := l) (((M : Nat) : Int) - ((f : Nat) : Int)) ((v : Nat) : Int) (by omega) (by omega)
  rw [hlst] at hw9
  refine n_rdF (va_runSN (As := [.int (iI (((M : Nat) : Int) - ((f : Nat) : Int))), .int (iI ((v : Nat) : Int))]) (rest := []) ⟨hx, hb, hml, hown, hts⟩ (hw9) ⟨va_cnB 2 hts (nT_N wc_X6_wholeTimes) rfl rfl rfl (hK.2 _ (List.mem_of_getElem? (i := 11) rfl)) (hts _ (nT_m wn_X6)) (by decide +kernel) ⟨Nat.le_of_ble_eq_true rfl, Nat.le_of_ble_eq_true rfl⟩, hts _ (nT_m wt_X6_wholeTimes), trivial⟩ preEq rfl rfl hl.1 rfl (lv_room (Nat.le_of_ble_eq_true rfl)) dX0_slide_12 ⟨Nat.zero_le _, Nat.zero_le _⟩) ?_
  refine lv_istore (lv' := [(9, .int (iI ((lst : Nat) : Int))), (8, .int (iI 0)), (7, .int (iI 0)), (0, .ref (ad i)), (1, .ref (ad ia)), (2, .ref (ad ib)), (3, .int (iI ((f : Nat) : Int))), (4, .int (iI ((v : Nat) : Int))), (5, .int (iI ((lim : Nat) : Int))), (6, .int (iI ((M : Nat) : Int)))]) hx hb dX0_slide_15 hl (by decide) rfl (fun ls hl => ?_)
  refine n_iconst hx hb dX0_slide_17 ?_
  refine lv_istore (lv' := [(10, .int (iI 0)), (9, .int (iI ((lst : Nat) : Int))), (8, .int (iI 0)), (7, .int (iI 0)), (0, .ref (ad i)), (1, .ref (ad ia)), (2, .ref (ad ib)), (3, .int (iI ((f : Nat) : Int))), (4, .int (iI ((v : Nat) : Int))), (5, .int (iI ((lim : Nat) : Int))), (6, .int (iI ((M : Nat) : Int)))]) hx hb dX0_slide_18 hl (by decide) rfl (fun ls hl => ?_)
  have lp1 : ∀ (fu : Nat), ∀ (p_ : Nat) (h : Nat) (t : Nat) (Tn : Nat → Int) (Pn : Nat → Int) (Cn : Nat → Int), ∀ (w2 : Nat → va_E) (H : Heap) (locs : List Loc), ∀ (ls : Array Slot), lst + 1 - p_ < fu → qG A f v lim p_ p_ h t Pn Cn → (∀ p1, p1 < p_ → isMn A v lim (f + p1 * v) (Tn (f + p1 * v))) → (∀ s1, (∀ p1, p1 < p_ → s1 ≠ f + p1 * v) → Tn s1 = T s1) → p_ ≤ lst + 1 → (∀ j, j ≠ ib → j ≠ (i + 12) → j ≠ (i + 13) → w2 j = w j) → w2 i = .inr (0, [.ref (ad (i + 1)), .ref (ad (i + 2)), .ref (ad (i + 12)), .ref (ad (i + 13))]) → w2 ia = aI G 2001 A → w2 ib = aI G 2001 Tn → w2 (i + 12) = aI G 2001 Pn → w2 (i + 13) = aI G 2001 Cn → va_P G.1 vwCl (nL N ad w2) H → va_S (nA N ad s.heap.size) s.heap H locs → lv_has ls 13 [(0, .ref (ad i)), (1, .ref (ad ia)), (2, .ref (ad ib)), (3, .int (iI ((f : Nat) : Int))), (4, .int (iI ((v : Nat) : Int))), (5, .int (iI ((lim : Nat) : Int))), (6, .int (iI ((M : Nat) : Int))), (7, .int (iI ((h : Nat) : Int))), (8, .int (iI ((t : Nat) : Int))), (9, .int (iI ((lst : Nat) : Int))), (10, .int (iI ((p_ : Nat) : Int)))] → W p l e ({ frames := 1, cells := 0, slots := 0, locals := 21 } : Room) s m ([.ref (ad i), .ref (ad ia), .ref (ad ib), .int (iI ((f : Nat) : Int)), .int (iI ((v : Nat) : Int)), .int (iI ((lim : Nat) : Int)), .int (iI ((M : Nat) : Int))] : List Value).toArray below meth cd H locs 0 0 Q (F0 m 20 ls []) := by
    intro fu
    induction fu with
    | zero =>
      intro p_ h t Tn Pn Cn w2 H locs ls hfu hq hdone hold hpb hfr f_m f_fr f_to f_pl f_co hP hS hl
      exact absurd hfu (Nat.not_lt_zero _)
    | succ fu ih3 =>
      intro p_ h t Tn Pn Cn w2 H locs ls hfu hq hdone hold hpb hfr f_m f_fr f_to f_pl f_co hP hS hl
      have hpv : p_ ≤ p_ * v := Nat.le_mul_of_pos_right p_ hv.1
      have ht9 := hq.1
      have hqv : ∀ q9, q9 < p_ → f + q9 * v + v ≤ f + p_ * v := fun q9 h9 => mul_step f h9
      refine lv_iload hx hb dX0_slide_20 (lv_at hl 10 rfl) ?_
      refine lv_iload hx hb dX0_slide_22 (lv_at hl 9 rfl) ?_
      refine n_icmp_gt (tgt := 157) hx hb dX0_slide_24 (by decide) (by omega) (by omega) (fun hc24 => ?_) (fun hc24 => ?_)
      · skip
        refine n_vretP hQ hx hb hr hlocks hP hS dX0_slide_157 ?_
        have e7 := mul_step f (show lst < p_ by omega) (v := v)
        refine ⟨hfr, ⟨Tn, f_to, fun p1 h1 => hdone p1 ?_, fun s1 h1 => hold s1 fun p1 h2 h3 => ?_⟩, ⟨_, f_pl⟩, ⟨_, f_co⟩⟩
        · rcases Nat.lt_or_ge p1 p_ with c9 | c9
          · exact c9
          · have e9 : p_ * v ≤ p1 * v := Nat.mul_le_mul_right v c9
            omega
        · have e8 := h1 p1 h3
          have e9 := mul_in hlM (show p1 < lst + 1 by omega)
          omega
      · skip
        have hpM : f + p_ * v ≤ M := mul_in hlM (by omega)
        refine lv_iload_n hx hb dX0_slide_27 rfl (lv_at hl 3 rfl) ?_
        refine lv_iload hx hb dX0_slide_28 (lv_at hl 10 rfl) ?_
        refine lv_iload hx hb dX0_slide_30 (lv_at hl 4 rfl) ?_
        refine n_imul hx hb dX0_slide_32 ?_
        refine n_iadd hx hb dX0_slide_33 ?_
        refine lv_istore (lv' := [(11, .int (iI ((f + p_ * v : Nat) : Int))), (0, .ref (ad i)), (1, .ref (ad ia)), (2, .ref (ad ib)), (3, .int (iI ((f : Nat) : Int))), (4, .int (iI ((v : Nat) : Int))), (5, .int (iI ((lim : Nat) : Int))), (6, .int (iI ((M : Nat) : Int))), (7, .int (iI ((h : Nat) : Int))), (8, .int (iI ((t : Nat) : Int))), (9, .int (iI ((lst : Nat) : Int))), (10, .int (iI ((p_ : Nat) : Int)))]) hx hb dX0_slide_34 hl (by decide) rfl (fun ls hl => ?_)
        have lp4 : ∀ (t : Nat) (Pn : Nat → Int) (Cn : Nat → Int), ∀ (w5 : Nat → va_E) (H : Heap) (locs : List Loc), ∀ (ls : Array Slot), qG A f v lim p_ (p_ + 1) h t Pn Cn → (∀ j, j ≠ ib → j ≠ (i + 12) → j ≠ (i + 13) → w5 j = w j) → w5 i = .inr (0, [.ref (ad (i + 1)), .ref (ad (i + 2)), .ref (ad (i + 12)), .ref (ad (i + 13))]) → w5 ia = aI G 2001 A → w5 ib = aI G 2001 Tn → w5 (i + 12) = aI G 2001 Pn → w5 (i + 13) = aI G 2001 Cn → va_P G.1 vwCl (nL N ad w5) H → va_S (nA N ad s.heap.size) s.heap H locs → lv_has ls 13 [(0, .ref (ad i)), (1, .ref (ad ia)), (2, .ref (ad ib)), (3, .int (iI ((f : Nat) : Int))), (4, .int (iI ((v : Nat) : Int))), (5, .int (iI ((lim : Nat) : Int))), (6, .int (iI ((M : Nat) : Int))), (7, .int (iI ((h : Nat) : Int))), (8, .int (iI ((t : Nat) : Int))), (9, .int (iI ((lst : Nat) : Int))), (10, .int (iI ((p_ : Nat) : Int))), (11, .int (iI ((f + p_ * v : Nat) : Int)))] → W p l e ({ frames := 1, cells := 0, slots := 0, locals := 21 } : Room) s m ([.ref (ad i), .ref (ad ia), .ref (ad ib), .int (iI ((f : Nat) : Int)), .int (iI ((v : Nat) : Int)), .int (iI ((lim : Nat) : Int)), .int (iI ((M : Nat) : Int))] : List Value).toArray below meth cd H locs 0 0 Q (F0 m 101 ls []) := by
          intro t Pn Cn w5 H locs ls hq hfr f_m f_fr f_to f_pl f_co hP hS hl
          have ht8 := hq.1
          have hrg := qG_rng hq hA (fun q9 h9 => mul_in hpM h9) (by omega) hM
          have lp7 : ∀ (h : Nat), ∀ (w8 : Nat → va_E) (H : Heap) (locs : List Loc), ∀ (ls : Array Slot), qG A f v lim (p_ + 1) (p_ + 1) h t Pn Cn → (∀ j, j ≠ ib → j ≠ (i + 12) → j ≠ (i + 13) → w8 j = w j) → w8 i = .inr (0, [.ref (ad (i + 1)), .ref (ad (i + 2)), .ref (ad (i + 12)), .ref (ad (i + 13))]) → w8 ia = aI G 2001 A → w8 ib = aI G 2001 Tn → w8 (i + 12) = aI G 2001 Pn → w8 (i + 13) = aI G 2001 Cn → va_P G.1 vwCl (nL N ad w8) H → va_S (nA N ad s.heap.size) s.heap H locs → lv_has ls 13 [(0, .ref (ad i)), (1, .ref (ad ia)), (2, .ref (ad ib)), (3, .int (iI ((f : Nat) : Int))), (4, .int (iI ((v : Nat) : Int))), (5, .int (iI ((lim : Nat) : Int))), (6, .int (iI ((M : Nat) : Int))), (7, .int (iI ((h : Nat) : Int))), (8, .int (iI ((t : Nat) : Int))), (9, .int (iI ((lst : Nat) : Int))), (10, .int (iI ((p_ : Nat) : Int))), (11, .int (iI ((f + p_ * v : Nat) : Int)))] → W p l e ({ frames := 1, cells := 0, slots := 0, locals := 21 } : Room) s m ([.ref (ad i), .ref (ad ia), .ref (ad ib), .int (iI ((f : Nat) : Int)), .int (iI ((v : Nat) : Int)), .int (iI ((lim : Nat) : Int)), .int (iI ((M : Nat) : Int))] : List Value).toArray below meth cd H locs 0 0 Q (F0 m 126 ls []) := by
            intro h w8 H locs ls hq hfr f_m f_fr f_to f_pl f_co hP hS hl
            have ht8 := hq.1
            have hrg := qG_rng hq hA (fun q9 h9 => mul_in hpM h9) (by omega) hM
            refine lv_aload_n hx hb dX0_slide_126 rfl (lv_at hl 2 rfl) ?_
            refine lv_iload hx hb dX0_slide_127 (lv_at hl 11 rfl) ?_
            refine lv_iload hx hb dX0_slide_129 (lv_at hl 7 rfl) ?_
            refine lv_iload hx hb dX0_slide_131 (lv_at hl 8 rfl) ?_
            refine n_icmp_ge (tgt := 149) hx hb dX0_slide_133 (by decide) (by omega) (by omega) (fun hc133 => ?_) (fun hc133 => ?_)
            · skip
              refine n_iconst hx hb dX0_slide_149 ?_
              refine n_iast hx hb hK hJ hP hS (f + p_ * v) (by omega) f_to (by omega) (by omega) (by decide) dX0_slide_150 (fun w10 H locs f_to hne11 hP hS => ?_)
              have f_m := (hne11 i (by omega)).trans f_m
              have f_fr := (hne11 ia (by omega)).trans f_fr
              have f_pl := (hne11 (i + 12) (by omega)).trans f_pl
              have f_co := (hne11 (i + 13) (by omega)).trans f_co
              have hfr : ∀ j, j ≠ ib → j ≠ (i + 12) → j ≠ (i + 13) → w10 j = w j := fun j a0 a1 a2 => (hne11 j (by omega)).trans (hfr j a0 a1 a2)
              refine lv_iinc (v := iI (((p_ : Nat) : Int) + 1)) (lv' := [(10, .int (iI (((p_ : Nat) : Int) + 1))), (0, .ref (ad i)), (1, .ref (ad ia)), (2, .ref (ad ib)), (3, .int (iI ((f : Nat) : Int))), (4, .int (iI ((v : Nat) : Int))), (5, .int (iI ((lim : Nat) : Int))), (6, .int (iI ((M : Nat) : Int))), (7, .int (iI ((h : Nat) : Int))), (8, .int (iI ((t : Nat) : Int))), (9, .int (iI ((lst : Nat) : Int))), (11, .int (iI ((f + p_ * v : Nat) : Int)))]) hx hb dX0_slide_151 hl (k := 10) rfl (by first | exact iI_add _ _ | exact (iI_add _ _).trans (congrArg iI (by omega))) (by decide) rfl (fun ls hl => ?_)
              refine lv_goto (tgt := 20) hx hb dX0_slide_154 (by decide) ?_
              exact ih3 (p_ + 1) h t (va_up Tn (f + p_ * v) (-1)) Pn Cn _ _ _ _ (by omega) hq (lt_s (fun p1 h1 => by rw [va_up_ne _ _ (by have e9 := hqv p1 h1; omega)]; exact hdone p1 h1) (by rw [va_up_self]; exact qG_no_mn hf hq (by omega))) (fun s1 h1 => by rw [va_up_ne _ _ (h1 p_ (Nat.lt_succ_self _))]; exact hold s1 (fun p1 h2 => h1 p1 (by omega))) (by omega) hfr f_m f_fr f_to f_pl f_co hP hS (by first | exact lv_sub hl [1, 2, 3, 4, 5, 6, 7, 8, 9, 10, 0] rfl | exact lv_cast (lv_sub (l' := [(0, .ref (ad i)), (1, .ref (ad ia)), (2, .ref (ad ib)), (3, .int (iI ((f : Nat) : Int))), (4, .int (iI ((v : Nat) : Int))), (5, .int (iI ((lim : Nat) : Int))), (6, .int (iI ((M : Nat) : Int))), (7, .int (iI ((h : Nat) : Int))), (8, .int (iI ((t : Nat) : Int))), (9, .int (iI ((lst : Nat) : Int))), (10, .int (iI (((p_ : Nat) : Int) + 1)))]) hl [1, 2, 3, 4, 5, 6, 7, 8, 9, 10, 0] rfl) (lc_s (lc_s (lc_s (lc_s (lc_s (lc_s (lc_s (lc_s (lc_s (lc_s (lc_i (show ((((p_ : Nat) : Int) + 1) : Int) = (((p_ + 1) : Nat) : Int) by omega) rfl))))))))))))
            · skip
              have hrg9 := hrg
              refine lv_aload_n hx hb dX0_slide_136 rfl (lv_at hl 0 rfl) ?_
              refine n_get hx hb hts u_X0 hown hK hP (by omega) f_m rfl 3 (by decide) (nT_m wf_X0_23) rfl dX0_slide_137 ?_
              refine lv_iload hx hb dX0_slide_140 (lv_at hl 7 rfl) ?_
              refine n_iald hx hb hK hP h (by omega) f_co (by omega) (by omega) (by decide) dX0_slide_142 ?_
              have ho12 := hrg h (by omega) (by omega)
              refine lv_iload hx hb dX0_slide_143 (lv_at hl 10 rfl) ?_
              refine n_iadd hx hb dX0_slide_145 ?_
              refine lv_goto (tgt := 150) hx hb dX0_slide_146 (by decide) ?_
              refine n_iast hx hb hK hJ hP hS (f + p_ * v) (by omega) f_to (by omega) (by omega) (by decide) dX0_slide_150 (fun w13 H locs f_to hne14 hP hS => ?_)
              have f_m := (hne14 i (by omega)).trans f_m
              have f_fr := (hne14 ia (by omega)).trans f_fr
              have f_pl := (hne14 (i + 12) (by omega)).trans f_pl
              have f_co := (hne14 (i + 13) (by omega)).trans f_co
              have hfr : ∀ j, j ≠ ib → j ≠ (i + 12) → j ≠ (i + 13) → w13 j = w j := fun j a0 a1 a2 => (hne14 j (by omega)).trans (hfr j a0 a1 a2)
              refine lv_iinc (v := iI (((p_ : Nat) : Int) + 1)) (lv' := [(10, .int (iI (((p_ : Nat) : Int) + 1))), (0, .ref (ad i)), (1, .ref (ad ia)), (2, .ref (ad ib)), (3, .int (iI ((f : Nat) : Int))), (4, .int (iI ((v : Nat) : Int))), (5, .int (iI ((lim : Nat) : Int))), (6, .int (iI ((M : Nat) : Int))), (7, .int (iI ((h : Nat) : Int))), (8, .int (iI ((t : Nat) : Int))), (9, .int (iI ((lst : Nat) : Int))), (11, .int (iI ((f + p_ * v : Nat) : Int)))]) hx hb dX0_slide_151 hl (k := 10) rfl (by first | exact iI_add _ _ | exact (iI_add _ _).trans (congrArg iI (by omega))) (by decide) rfl (fun ls hl => ?_)
              refine lv_goto (tgt := 20) hx hb dX0_slide_154 (by decide) ?_
              exact ih3 (p_ + 1) h t (va_up Tn (f + p_ * v) (Cn h + ((p_ : Nat) : Int))) Pn Cn _ _ _ _ (by omega) hq (lt_s (fun p1 h1 => by rw [va_up_ne _ _ (by have e9 := hqv p1 h1; omega)]; exact hdone p1 h1) (by rw [va_up_self]; exact qG_mn hf hq (by omega))) (fun s1 h1 => by rw [va_up_ne _ _ (h1 p_ (Nat.lt_succ_self _))]; exact hold s1 (fun p1 h2 => h1 p1 (by omega))) (by omega) hfr f_m f_fr f_to f_pl f_co hP hS (by first | exact lv_sub hl [1, 2, 3, 4, 5, 6, 7, 8, 9, 10, 0] rfl | exact lv_cast (lv_sub (l' := [(0, .ref (ad i)), (1, .ref (ad ia)), (2, .ref (ad ib)), (3, .int (iI ((f : Nat) : Int))), (4, .int (iI ((v : Nat) : Int))), (5, .int (iI ((lim : Nat) : Int))), (6, .int (iI ((M : Nat) : Int))), (7, .int (iI ((h : Nat) : Int))), (8, .int (iI ((t : Nat) : Int))), (9, .int (iI ((lst : Nat) : Int))), (10, .int (iI (((p_ : Nat) : Int) + 1)))]) hl [1, 2, 3, 4, 5, 6, 7, 8, 9, 10, 0] rfl) (lc_s (lc_s (lc_s (lc_s (lc_s (lc_s (lc_s (lc_s (lc_s (lc_s (lc_i (show ((((p_ : Nat) : Int) + 1) : Int) = (((p_ + 1) : Nat) : Int) by omega) rfl))))))))))))
          refine lv_iload hx hb dX0_slide_101 (lv_at hl 7 rfl) ?_
          refine lv_iload hx hb dX0_slide_103 (lv_at hl 8 rfl) ?_
          refine n_icmp_ge (tgt := 126) hx hb dX0_slide_105 (by decide) (by omega) (by omega) (fun hc105 => ?_) (fun hc105 => ?_)
          · skip
            exact lp7 h _ _ _ _ (qG_stay hq (Or.inl (by omega))) hfr f_m f_fr f_to f_pl f_co hP hS (lv_sub hl [0, 1, 2, 3, 4, 5, 6, 7, 8, 9, 10, 11] rfl)
          · skip
            refine lv_aload_n hx hb dX0_slide_108 rfl (lv_at hl 0 rfl) ?_
            refine n_get hx hb hts u_X0 hown hK hP (by omega) f_m rfl 2 (by decide) (nT_m wf_X0_20) rfl dX0_slide_109 ?_
            refine lv_iload hx hb dX0_slide_112 (lv_at hl 7 rfl) ?_
            refine n_iald hx hb hK hP h (by omega) f_pl (by omega) (by omega) (by decide) dX0_slide_114 ?_
            have ho15 := hrg h (by omega) (by omega)
            refine lv_iload hx hb dX0_slide_115 (lv_at hl 10 rfl) ?_
            refine lv_iload hx hb dX0_slide_117 (lv_at hl 5 rfl) ?_
            refine n_isub hx hb dX0_slide_119 ?_
            refine n_icmp_ge (tgt := 126) hx hb dX0_slide_120 (by decide) (by omega) (by omega) (fun hc120 => ?_) (fun hc120 => ?_)
            · skip
              exact lp7 h _ _ _ _ (qG_stay hq (Or.inr hc120)) hfr f_m f_fr f_to f_pl f_co hP hS (lv_sub hl [0, 1, 2, 3, 4, 5, 6, 7, 8, 9, 10, 11] rfl)
            · skip
              refine lv_iinc (v := iI (((h : Nat) : Int) + 1)) (lv' := [(7, .int (iI (((h : Nat) : Int) + 1))), (0, .ref (ad i)), (1, .ref (ad ia)), (2, .ref (ad ib)), (3, .int (iI ((f : Nat) : Int))), (4, .int (iI ((v : Nat) : Int))), (5, .int (iI ((lim : Nat) : Int))), (6, .int (iI ((M : Nat) : Int))), (8, .int (iI ((t : Nat) : Int))), (9, .int (iI ((lst : Nat) : Int))), (10, .int (iI ((p_ : Nat) : Int))), (11, .int (iI ((f + p_ * v : Nat) : Int)))]) hx hb dX0_slide_123 hl (k := 7) rfl (by first | exact iI_add _ _ | exact (iI_add _ _).trans (congrArg iI (by omega))) (by decide) rfl (fun ls hl => ?_)
              exact lp7 (h + 1) _ _ _ _ (qG_pop hq (by omega) hc120) hfr f_m f_fr f_to f_pl f_co hP hS (by first | exact lv_sub hl [1, 2, 3, 4, 5, 6, 7, 0, 8, 9, 10, 11] rfl | exact lv_cast (lv_sub (l' := [(0, .ref (ad i)), (1, .ref (ad ia)), (2, .ref (ad ib)), (3, .int (iI ((f : Nat) : Int))), (4, .int (iI ((v : Nat) : Int))), (5, .int (iI ((lim : Nat) : Int))), (6, .int (iI ((M : Nat) : Int))), (7, .int (iI (((h : Nat) : Int) + 1))), (8, .int (iI ((t : Nat) : Int))), (9, .int (iI ((lst : Nat) : Int))), (10, .int (iI ((p_ : Nat) : Int))), (11, .int (iI ((f + p_ * v : Nat) : Int)))]) hl [1, 2, 3, 4, 5, 6, 7, 0, 8, 9, 10, 11] rfl) (lc_s (lc_s (lc_s (lc_s (lc_s (lc_s (lc_s (lc_i (show ((((h : Nat) : Int) + 1) : Int) = (((h + 1) : Nat) : Int) by omega) (lc_s (lc_s (lc_s (lc_s rfl)))))))))))))
        refine lv_aload_n hx hb dX0_slide_36 rfl (lv_at hl 2 rfl) ?_
        refine lv_iload hx hb dX0_slide_37 (lv_at hl 0 rfl) ?_
        refine n_iald hx hb hK hP (f + p_ * v) (by omega) f_fr (by omega) (by omega) (by decide) dX0_slide_39 ?_
        have ho16 := hA (f + p_ * v) (by omega)
        refine n_iconst hx hb dX0_slide_40 ?_
        refine n_icmp_eq (tgt := 101) hx hb dX0_slide_41 (by decide) (by omega) (by omega) (fun hc41 => ?_) (fun hc41 => ?_)
        · skip
          exact lp4 t Pn Cn _ _ _ _ (qG_no hq hc41) hfr f_m f_fr f_to f_pl f_co hP hS (lv_sub hl [1, 2, 3, 4, 5, 6, 7, 8, 9, 10, 11, 0] rfl)
        · skip
          refine lv_aload_n hx hb dX0_slide_44 rfl (lv_at hl 2 rfl) ?_
          refine lv_iload hx hb dX0_slide_45 (lv_at hl 0 rfl) ?_
          refine n_iald hx hb hK hP (f + p_ * v) (by omega) f_fr (by omega) (by omega) (by decide) dX0_slide_47 ?_
          have ho17 := hA (f + p_ * v) (by omega)
          refine lv_iload hx hb dX0_slide_48 (lv_at hl 11 rfl) ?_
          refine n_isub hx hb dX0_slide_50 ?_
          refine lv_istore (lv' := [(12, .int (iI (A (f + p_ * v) - ((p_ : Nat) : Int)))), (11, .int (iI ((f + p_ * v : Nat) : Int))), (0, .ref (ad i)), (1, .ref (ad ia)), (2, .ref (ad ib)), (3, .int (iI ((f : Nat) : Int))), (4, .int (iI ((v : Nat) : Int))), (5, .int (iI ((lim : Nat) : Int))), (6, .int (iI ((M : Nat) : Int))), (7, .int (iI ((h : Nat) : Int))), (8, .int (iI ((t : Nat) : Int))), (9, .int (iI ((lst : Nat) : Int))), (10, .int (iI ((p_ : Nat) : Int)))]) hx hb dX0_slide_51 hl (by decide) rfl (fun ls hl => ?_)
          have lp18 : ∀ (fu : Nat), ∀ (t : Nat), ∀ (w19 : Nat → va_E) (H : Heap) (locs : List Loc), ∀ (ls : Array Slot), t < fu → qJ A f v lim p_ h t Pn Cn (A (f + p_ * v) - ((p_ : Nat) : Int)) → (∀ j, j ≠ ib → j ≠ (i + 12) → j ≠ (i + 13) → w19 j = w j) → w19 i = .inr (0, [.ref (ad (i + 1)), .ref (ad (i + 2)), .ref (ad (i + 12)), .ref (ad (i + 13))]) → w19 ia = aI G 2001 A → w19 ib = aI G 2001 Tn → w19 (i + 12) = aI G 2001 Pn → w19 (i + 13) = aI G 2001 Cn → va_P G.1 vwCl (nL N ad w19) H → va_S (nA N ad s.heap.size) s.heap H locs → lv_has ls 13 [(0, .ref (ad i)), (1, .ref (ad ia)), (2, .ref (ad ib)), (3, .int (iI ((f : Nat) : Int))), (4, .int (iI ((v : Nat) : Int))), (5, .int (iI ((lim : Nat) : Int))), (6, .int (iI ((M : Nat) : Int))), (7, .int (iI ((h : Nat) : Int))), (8, .int (iI ((t : Nat) : Int))), (9, .int (iI ((lst : Nat) : Int))), (10, .int (iI ((p_ : Nat) : Int))), (11, .int (iI ((f + p_ * v : Nat) : Int))), (12, .int (iI (A (f + p_ * v) - ((p_ : Nat) : Int))))] → W p l e ({ frames := 1, cells := 0, slots := 0, locals := 21 } : Room) s m ([.ref (ad i), .ref (ad ia), .ref (ad ib), .int (iI ((f : Nat) : Int)), .int (iI ((v : Nat) : Int)), .int (iI ((lim : Nat) : Int)), .int (iI ((M : Nat) : Int))] : List Value).toArray below meth cd H locs 0 0 Q (F0 m 53 ls []) := by
            intro fu
            induction fu with
            | zero =>
              intro t w19 H locs ls hfu hj hfr f_m f_fr f_to f_pl f_co hP hS hl
              exact absurd hfu (Nat.not_lt_zero _)
            | succ fu ih20 =>
              intro t w19 H locs ls hfu hj hfr f_m f_fr f_to f_pl f_co hP hS hl
              have ht8 := hj.1
              have hrg := qJ_rng hj hA (fun q9 h9 => by have := hqv q9 h9; omega) (by omega) hM
              refine lv_iload hx hb dX0_slide_53 (lv_at hl 8 rfl) ?_
              refine lv_iload hx hb dX0_slide_55 (lv_at hl 7 rfl) ?_
              refine n_icmp_le (tgt := 80) hx hb dX0_slide_57 (by decide) (by omega) (by omega) (fun hc57 => ?_) (fun hc57 => ?_)
              · skip
                refine lv_aload_n hx hb dX0_slide_80 rfl (lv_at hl 0 rfl) ?_
                refine n_get hx hb hts u_X0 hown hK hP (by omega) f_m rfl 2 (by decide) (nT_m wf_X0_20) rfl dX0_slide_81 ?_
                refine lv_iload hx hb dX0_slide_84 (lv_at hl 8 rfl) ?_
                refine lv_iload hx hb dX0_slide_86 (lv_at hl 10 rfl) ?_
                refine n_iast hx hb hK hJ hP hS t (by omega) f_pl (by omega) (by omega) (by decide) dX0_slide_88 (fun w21 H locs f_pl hne22 hP hS => ?_)
                have f_m := (hne22 i (by omega)).trans f_m
                have f_fr := (hne22 ia (by omega)).trans f_fr
                have f_to := (hne22 ib (by omega)).trans f_to
                have f_co := (hne22 (i + 13) (by omega)).trans f_co
                have hfr : ∀ j, j ≠ ib → j ≠ (i + 12) → j ≠ (i + 13) → w21 j = w j := fun j a0 a1 a2 => (hne22 j (by omega)).trans (hfr j a0 a1 a2)
                refine lv_aload_n hx hb dX0_slide_89 rfl (lv_at hl 0 rfl) ?_
                refine n_get hx hb hts u_X0 hown hK hP (by omega) f_m rfl 3 (by decide) (nT_m wf_X0_23) rfl dX0_slide_90 ?_
                refine lv_iload hx hb dX0_slide_93 (lv_at hl 8 rfl) ?_
                refine lv_iload hx hb dX0_slide_95 (lv_at hl 12 rfl) ?_
                refine n_iast hx hb hK hJ hP hS t (by omega) f_co (by omega) (by omega) (by decide) dX0_slide_97 (fun w23 H locs f_co hne24 hP hS => ?_)
                have f_m := (hne24 i (by omega)).trans f_m
                have f_fr := (hne24 ia (by omega)).trans f_fr
                have f_to := (hne24 ib (by omega)).trans f_to
                have f_pl := (hne24 (i + 12) (by omega)).trans f_pl
                have hfr : ∀ j, j ≠ ib → j ≠ (i + 12) → j ≠ (i + 13) → w23 j = w j := fun j a0 a1 a2 => (hne24 j (by omega)).trans (hfr j a0 a1 a2)
                refine lv_iinc (v := iI (((t : Nat) : Int) + 1)) (lv' := [(8, .int (iI (((t : Nat) : Int) + 1))), (0, .ref (ad i)), (1, .ref (ad ia)), (2, .ref (ad ib)), (3, .int (iI ((f : Nat) : Int))), (4, .int (iI ((v : Nat) : Int))), (5, .int (iI ((lim : Nat) : Int))), (6, .int (iI ((M : Nat) : Int))), (7, .int (iI ((h : Nat) : Int))), (9, .int (iI ((lst : Nat) : Int))), (10, .int (iI ((p_ : Nat) : Int))), (11, .int (iI ((f + p_ * v : Nat) : Int))), (12, .int (iI (A (f + p_ * v) - ((p_ : Nat) : Int))))]) hx hb dX0_slide_98 hl (k := 8) rfl (by first | exact iI_add _ _ | exact (iI_add _ _).trans (congrArg iI (by omega))) (by decide) rfl (fun ls hl => ?_)
                exact lp4 (t + 1) (va_up Pn t ((p_ : Nat) : Int)) (va_up Cn t (A (f + p_ * v) - ((p_ : Nat) : Int))) _ _ _ _ (qJ_push hj (Or.inl (by omega)) hc41 rfl) hfr f_m f_fr f_to f_pl f_co hP hS (by first | exact lv_sub hl [1, 2, 3, 4, 5, 6, 7, 8, 0, 9, 10, 11] rfl | exact lv_cast (lv_sub (l' := [(0, .ref (ad i)), (1, .ref (ad ia)), (2, .ref (ad ib)), (3, .int (iI ((f : Nat) : Int))), (4, .int (iI ((v : Nat) : Int))), (5, .int (iI ((lim : Nat) : Int))), (6, .int (iI ((M : Nat) : Int))), (7, .int (iI ((h : Nat) : Int))), (8, .int (iI (((t : Nat) : Int) + 1))), (9, .int (iI ((lst : Nat) : Int))), (10, .int (iI ((p_ : Nat) : Int))), (11, .int (iI ((f + p_ * v : Nat) : Int)))]) hl [1, 2, 3, 4, 5, 6, 7, 8, 0, 9, 10, 11] rfl) (lc_s (lc_s (lc_s (lc_s (lc_s (lc_s (lc_s (lc_s (lc_i (show ((((t : Nat) : Int) + 1) : Int) = (((t + 1) : Nat) : Int) by omega) (lc_s (lc_s (lc_s rfl)))))))))))))
              · skip
                refine lv_aload_n hx hb dX0_slide_60 rfl (lv_at hl 0 rfl) ?_
                refine n_get hx hb hts u_X0 hown hK hP (by omega) f_m rfl 3 (by decide) (nT_m wf_X0_23) rfl dX0_slide_61 ?_
                refine lv_iload hx hb dX0_slide_64 (lv_at hl 8 rfl) ?_
                refine n_iconst hx hb dX0_slide_66 ?_
                refine n_isub hx hb dX0_slide_67 ?_
                refine n_iald hx hb hK hP (t - 1) (by omega) f_co (by omega) (by omega) (by decide) dX0_slide_68 ?_
                have ho25 := hrg (t - 1) (by omega) (by omega)
                refine lv_iload hx hb dX0_slide_69 (lv_at hl 12 rfl) ?_
                refine n_icmp_lt (tgt := 80) hx hb dX0_slide_71 (by decide) (by omega) (by omega) (fun hc71 => ?_) (fun hc71 => ?_)
                · skip
                  refine lv_aload_n hx hb dX0_slide_80 rfl (lv_at hl 0 rfl) ?_
                  refine n_get hx hb hts u_X0 hown hK hP (by omega) f_m rfl 2 (by decide) (nT_m wf_X0_20) rfl dX0_slide_81 ?_
                  refine lv_iload hx hb dX0_slide_84 (lv_at hl 8 rfl) ?_
                  refine lv_iload hx hb dX0_slide_86 (lv_at hl 10 rfl) ?_
                  refine n_iast hx hb hK hJ hP hS t (by omega) f_pl (by omega) (by omega) (by decide) dX0_slide_88 (fun w26 H locs f_pl hne27 hP hS => ?_)
                  have f_m := (hne27 i (by omega)).trans f_m
                  have f_fr := (hne27 ia (by omega)).trans f_fr
                  have f_to := (hne27 ib (by omega)).trans f_to
                  have f_co := (hne27 (i + 13) (by omega)).trans f_co
                  have hfr : ∀ j, j ≠ ib → j ≠ (i + 12) → j ≠ (i + 13) → w26 j = w j := fun j a0 a1 a2 => (hne27 j (by omega)).trans (hfr j a0 a1 a2)
                  refine lv_aload_n hx hb dX0_slide_89 rfl (lv_at hl 0 rfl) ?_
                  refine n_get hx hb hts u_X0 hown hK hP (by omega) f_m rfl 3 (by decide) (nT_m wf_X0_23) rfl dX0_slide_90 ?_
                  refine lv_iload hx hb dX0_slide_93 (lv_at hl 8 rfl) ?_
                  refine lv_iload hx hb dX0_slide_95 (lv_at hl 12 rfl) ?_
                  refine n_iast hx hb hK hJ hP hS t (by omega) f_co (by omega) (by omega) (by decide) dX0_slide_97 (fun w28 H locs f_co hne29 hP hS => ?_)
                  have f_m := (hne29 i (by omega)).trans f_m
                  have f_fr := (hne29 ia (by omega)).trans f_fr
                  have f_to := (hne29 ib (by omega)).trans f_to
                  have f_pl := (hne29 (i + 12) (by omega)).trans f_pl
                  have hfr : ∀ j, j ≠ ib → j ≠ (i + 12) → j ≠ (i + 13) → w28 j = w j := fun j a0 a1 a2 => (hne29 j (by omega)).trans (hfr j a0 a1 a2)
                  refine lv_iinc (v := iI (((t : Nat) : Int) + 1)) (lv' := [(8, .int (iI (((t : Nat) : Int) + 1))), (0, .ref (ad i)), (1, .ref (ad ia)), (2, .ref (ad ib)), (3, .int (iI ((f : Nat) : Int))), (4, .int (iI ((v : Nat) : Int))), (5, .int (iI ((lim : Nat) : Int))), (6, .int (iI ((M : Nat) : Int))), (7, .int (iI ((h : Nat) : Int))), (9, .int (iI ((lst : Nat) : Int))), (10, .int (iI ((p_ : Nat) : Int))), (11, .int (iI ((f + p_ * v : Nat) : Int))), (12, .int (iI (A (f + p_ * v) - ((p_ : Nat) : Int))))]) hx hb dX0_slide_98 hl (k := 8) rfl (by first | exact iI_add _ _ | exact (iI_add _ _).trans (congrArg iI (by omega))) (by decide) rfl (fun ls hl => ?_)
                  exact lp4 (t + 1) (va_up Pn t ((p_ : Nat) : Int)) (va_up Cn t (A (f + p_ * v) - ((p_ : Nat) : Int))) _ _ _ _ (qJ_push hj (Or.inr hc71) hc41 rfl) hfr f_m f_fr f_to f_pl f_co hP hS (by first | exact lv_sub hl [1, 2, 3, 4, 5, 6, 7, 8, 0, 9, 10, 11] rfl | exact lv_cast (lv_sub (l' := [(0, .ref (ad i)), (1, .ref (ad ia)), (2, .ref (ad ib)), (3, .int (iI ((f : Nat) : Int))), (4, .int (iI ((v : Nat) : Int))), (5, .int (iI ((lim : Nat) : Int))), (6, .int (iI ((M : Nat) : Int))), (7, .int (iI ((h : Nat) : Int))), (8, .int (iI (((t : Nat) : Int) + 1))), (9, .int (iI ((lst : Nat) : Int))), (10, .int (iI ((p_ : Nat) : Int))), (11, .int (iI ((f + p_ * v : Nat) : Int)))]) hl [1, 2, 3, 4, 5, 6, 7, 8, 0, 9, 10, 11] rfl) (lc_s (lc_s (lc_s (lc_s (lc_s (lc_s (lc_s (lc_s (lc_i (show ((((t : Nat) : Int) + 1) : Int) = (((t + 1) : Nat) : Int) by omega) (lc_s (lc_s (lc_s rfl)))))))))))))
                · skip
                  refine lv_iinc (v := iI (((t : Nat) : Int) - 1)) (lv' := [(8, .int (iI (((t : Nat) : Int) - 1))), (0, .ref (ad i)), (1, .ref (ad ia)), (2, .ref (ad ib)), (3, .int (iI ((f : Nat) : Int))), (4, .int (iI ((v : Nat) : Int))), (5, .int (iI ((lim : Nat) : Int))), (6, .int (iI ((M : Nat) : Int))), (7, .int (iI ((h : Nat) : Int))), (9, .int (iI ((lst : Nat) : Int))), (10, .int (iI ((p_ : Nat) : Int))), (11, .int (iI ((f + p_ * v : Nat) : Int))), (12, .int (iI (A (f + p_ * v) - ((p_ : Nat) : Int))))]) hx hb dX0_slide_74 hl (k := 8) rfl (by first | exact iI_add _ _ | exact (iI_add _ _).trans (congrArg iI (by omega))) (by decide) rfl (fun ls hl => ?_)
                  refine lv_goto (tgt := 53) hx hb dX0_slide_77 (by decide) ?_
                  obtain ⟨t1, rfl⟩ : ∃ t1, t = t1 + 1 := ⟨t - 1, by omega⟩
                  rw [show t1 + 1 - 1 = t1 by omega] at hc71
                  exact ih20 t1 _ _ _ _ (by omega) (qJ_pop hj (by omega) hc71) hfr f_m f_fr f_to f_pl f_co hP hS (by first | exact lv_sub hl [1, 2, 3, 4, 5, 6, 7, 8, 0, 9, 10, 11, 12] rfl | exact lv_cast (lv_sub (l' := [(0, .ref (ad i)), (1, .ref (ad ia)), (2, .ref (ad ib)), (3, .int (iI ((f : Nat) : Int))), (4, .int (iI ((v : Nat) : Int))), (5, .int (iI ((lim : Nat) : Int))), (6, .int (iI ((M : Nat) : Int))), (7, .int (iI ((h : Nat) : Int))), (8, .int (iI ((((t1 + 1) : Nat) : Int) - 1))), (9, .int (iI ((lst : Nat) : Int))), (10, .int (iI ((p_ : Nat) : Int))), (11, .int (iI ((f + p_ * v : Nat) : Int))), (12, .int (iI (A (f + p_ * v) - ((p_ : Nat) : Int))))]) hl [1, 2, 3, 4, 5, 6, 7, 8, 0, 9, 10, 11, 12] rfl) (lc_s (lc_s (lc_s (lc_s (lc_s (lc_s (lc_s (lc_s (lc_i (show (((((t1 + 1) : Nat) : Int) - 1) : Int) = ((t1 : Nat) : Int) by omega) (lc_s (lc_s (lc_s (lc_s rfl))))))))))))))
          exact lp18 (t + 1) t _ _ _ _ (Nat.lt_succ_self _) (qJ_in hq _) hfr f_m f_fr f_to f_pl f_co hP hS (by first | exact lv_sub hl [2, 3, 4, 5, 6, 7, 8, 9, 10, 11, 12, 1, 0] rfl | exact lv_cast (lv_sub (l' := [(0, .ref (ad i)), (1, .ref (ad ia)), (2, .ref (ad ib)), (3, .int (iI ((f : Nat) : Int))), (4, .int (iI ((v : Nat) : Int))), (5, .int (iI ((lim : Nat) : Int))), (6, .int (iI ((M : Nat) : Int))), (7, .int (iI ((h : Nat) : Int))), (8, .int (iI ((t : Nat) : Int))), (9, .int (iI ((lst : Nat) : Int))), (10, .int (iI ((p_ : Nat) : Int))), (11, .int (iI ((f + p_ * v : Nat) : Int))), (12, .int (iI (A (f + p_ * v) - ((p_ : Nat) : Int))))]) hl [2, 3, 4, 5, 6, 7, 8, 9, 10, 11, 12, 1, 0] rfl) (lc_s (lc_s (lc_s (lc_s (lc_s (lc_s (lc_s (lc_s (lc_s (lc_s (lc_s (lc_s (lc_i (show ((A (f + p_ * v) - ((p_ : Nat) : Int)) : Int) = A (f + p_ * v) - ((p_ : Nat) : Int) by omega) rfl))))))))))))))
  exact lp1 (lst + 1 - 0 + 1) 0 0 0 T P0 C0 _ _ _ _ (Nat.lt_succ_self _) (qG_0 A f v lim P0 C0) (fun p1 h1 => absurd h1 (Nat.not_lt_zero _)) (fun _ _ => rfl) (by omega) hfr f_m f_fr f_to f_pl f_co hP hS (by first | exact lv_sub hl [4, 5, 6, 7, 8, 9, 10, 3, 2, 1, 0] rfl | exact lv_cast (lv_sub (l' := [(0, .ref (ad i)), (1, .ref (ad ia)), (2, .ref (ad ib)), (3, .int (iI ((f : Nat) : Int))), (4, .int (iI ((v : Nat) : Int))), (5, .int (iI ((lim : Nat) : Int))), (6, .int (iI ((M : Nat) : Int))), (7, .int (iI 0)), (8, .int (iI 0)), (9, .int (iI ((lst : Nat) : Int))), (10, .int (iI 0))]) hl [4, 5, 6, 7, 8, 9, 10, 3, 2, 1, 0] rfl) (lc_s (lc_s (lc_s (lc_s (lc_s (lc_s (lc_s (lc_i (show (0 : Int) = ((0 : Nat) : Int) by omega) (lc_i (show (0 : Int) = ((0 : Nat) : Int) by omega) (lc_s (lc_i (show (0 : Int) = ((0 : Nat) : Int) by omega) rfl))))))))))))
