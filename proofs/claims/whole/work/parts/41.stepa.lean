
theorem inv_coin {c : Nat} {M : Nat → Nat → Nat} (hI : LInv c M) {sy : Nat} (hs : sy < 2) : (∀ k, dV M sy k ≤ 1000) ∧ (∀ k, k < M 1 sy → 1 ≤ dV M sy k) ∧ (∀ k, k < M 1 sy → dF M sy k < M 1 sy) ∧ (∀ k, k < 2001 → -1 ≤ dL M sy k ∧ dL M sy k ≤ k) ∧ (∀ k, k < M 1 sy → ∃ j, j < M 1 sy ∧ dF M sy j = k) ∧ M 1 sy ≤ 8 ∧ (∀ k, k < 8 → dV M sy k = M 2 (8 * sy + k)) ∧ lsOK (dV M sy) (M 1 sy) 2000 (dL M sy) := by
  obtain ⟨i1, i2, -⟩ := hI
  have h8 := i1 sy hs
  have h7 : ∀ k, k < 8 → dV M sy k = M 2 (8 * sy + k) := fun k hk => clip_at hk
  have h2 : ∀ k, k < M 1 sy → 1 ≤ dV M sy k := fun k hk => by
    rw [h7 k (by omega)]
    exact (i2 sy hs k (by omega)).2 hk
  have h1 : ∀ k, dV M sy k ≤ 1000 := clip_le fun q hq => (i2 sy hs q hq).1
  exact ⟨h1, h2, srt_lt _ _ _, lsF_rng _ (fun k hk => ⟨h2 k hk, h1 k⟩), srt_sur _ _ _, h8, h7, lsF_ok _ (fun k hk => ⟨h2 k hk, h1 k⟩)⟩
theorem inv_mod {c : Nat} {M : Nat → Nat → Nat} (hc : c ≤ 600) (hI : LInv c M) : (∀ k, k < 2 → M 1 k ≤ 8) ∧ (∀ k, k < 16 → M 2 k ≤ 1000) ∧ (∀ k, k < 2 → 1 ≤ M 3 k ∧ M 3 k ≤ 100) ∧ (∀ k, k < 1 → M 4 k < 2147483647) ∧ (∀ k, k < 1 → M 5 k ≤ 14) ∧ (∀ k, k < 14 → M 6 k ≤ 10000) ∧ (∀ k, k < 14 → M 7 k ≤ 100) ∧ (∀ k, k < 1 → 1 ≤ M 8 k ∧ M 8 k ≤ 100) ∧ (∀ k, k < 1 → M 9 k ≤ 4) ∧ (∀ k, k < 4 → M 10 k < 2147483647) ∧ (∀ k, k < 4 → M 13 k ≤ 20) ∧ ∀ k, k < 64 → M 14 k ≤ 1000 := by
  obtain ⟨i1, i2, i3, i4, i5, i6, i7, i8, i9, i10, i11⟩ := hI
  refine ⟨i1, fun k hk => ?_, fun k hk => ?_, fun k hk => ?_, fun k hk => ?_, fun k hk => (i5.2 k hk).1, fun k hk => (i5.2 k hk).2, fun k hk => ?_, fun k hk => ?_, fun k hk => ?_, fun k hk => (i8 k hk).2.1, i9⟩
  · have := (i2 (k / 8) (by omega) (k % 8) (by omega)).1
    rw [show 8 * (k / 8) + k % 8 = k by omega] at this
    exact this
  · rcases (show k = 0 ∨ k = 1 by omega) with rfl | rfl
    · exact i3.1
    · exact i3.2
  · obtain rfl : k = 0 := by omega
    omega
  · obtain rfl : k = 0 := by omega
    exact i5.1
  · obtain rfl : k = 0 := by omega
    exact i6
  · obtain rfl : k = 0 := by omega
    exact i7
  · have := (i8 k hk).1
    omega
def dVc (M : Nat → Nat → Nat) (s1 : Nat) : Nat → Nat := if s1 < 2 then dV M s1 else fun _ => 0
def dHc (M : Nat → Nat → Nat) (t s1 : Nat) : Nat → Nat := if s1 < 2 then dH M t s1 else fun _ => 0
def dHd (M : Nat → Nat → Nat) (t s1 : Nat) : Nat → Nat := if t < 4 then dHc M t s1 else fun _ => 0
theorem dVc_le {c : Nat} {M : Nat → Nat → Nat} (hI : LInv c M) : ∀ s1 q, dVc M s1 q ≤ 1000 := fun s1 q => by
  unfold dVc
  split
  · exact (inv_coin hI (by assumption)).1 q
  · exact Nat.zero_le _
theorem dHc_le {c : Nat} {M : Nat → Nat → Nat} (hI : LInv c M) {t : Nat} (ht : t < 4) : ∀ s1 q, dHc M t s1 q ≤ 1000 := fun s1 q => by
  unfold dHc
  split
  · exact clip_le (fun q hq => hI.2.2.2.2.2.2.2.2.1 _ (by omega)) q
  · exact Nat.zero_le _
theorem dHd_le {c : Nat} {M : Nat → Nat → Nat} (hI : LInv c M) : ∀ t s1 q, dHd M t s1 q ≤ 1000 := fun t s1 q => by
  unfold dHd
  split
  · exact dHc_le hI (by assumption) s1 q
  · exact Nat.zero_le _
section TL
variable {G : nG} {ad : Nat → Nat} {w : Nat → va_E} {b : Nat} {M : Nat → Nat → Nat}
theorem tl_T (h : ∀ t, t < 4 → tillAt G ad w (b + 14 + 9 * t) (dTl M t)) : ∀ t, t < 4 → w (b + 14 + 9 * t) = .inr (5, [.ref (ad (b + 14 + 9 * t + 1)), .ref (ad (b + 14 + 9 * t + 2)), .ref (ad (b + 14 + 9 * t + 3)), .ref (ad (b + 14 + 9 * t + 4)), .int (iI ((clip 4 (M 10) t : Nat) : Int)), .long (jI ((M 11 t : Nat) : Int)), .long (jI ((M 12 t / M 3 1 : Nat) : Int))]) := fun t ht => by
  rw [clip_at ht]
  exact (h t ht).1
theorem tl_E (h : ∀ t, t < 4 → tillAt G ad w (b + 14 + 9 * t) (dTl M t)) : ∀ t, t < 4 → w (b + 14 + 9 * t + 4) = .inr (2, [.int (iI ((clip 4 (M 13) t : Nat) : Int)), .ref (ad (b + 14 + 9 * t + 4 + 1)), .ref (ad (b + 14 + 9 * t + 4 + 2)), .ref (ad (b + 14 + 9 * t + 4 + 3)), .ref (ad (b + 14 + 9 * t + 4 + 4))]) := fun t ht => by
  rw [clip_at ht]
  exact (h t ht).2.2.2.2.1
theorem tl_h (h : ∀ t, t < 4 → tillAt G ad w (b + 14 + 9 * t) (dTl M t)) {t : Nat} (ht : t < 4) : ∀ s1, s1 < 2 → w (b + 14 + 9 * t + 1 + s1) = aI G 8 (fun q => (dHc M t s1 q : Int)) := fun s1 hs => by
  unfold dHc
  rw [if_pos hs]
  rcases (show s1 = 0 ∨ s1 = 1 by omega) with rfl | rfl
  · exact (h t ht).2.1
  · exact (h t ht).2.2.1
theorem tl_hd (h : ∀ t, t < 4 → tillAt G ad w (b + 14 + 9 * t) (dTl M t)) : ∀ t, t < 4 → ∀ s1, s1 < 2 → w (b + 14 + 9 * t + 1 + s1) = aI G 8 (fun q => (dHd M t s1 q : Int)) := fun t ht s1 hs => by
  unfold dHd
  rw [if_pos ht]
  exact tl_h h ht s1 hs
theorem tl_cn (h : ∀ k, k < 2 → coinAt G ad w (b + 1 + 4 * k) (M 1 k) (dV M k) (dF M k) (dL M k)) : ∀ k, k < 2 → w (b + 1 + 4 * k) = .inr (1, [.int (iI ((M 1 k : Nat) : Int)), .ref (ad (b + 1 + 4 * k + 1)), .ref (ad (b + 1 + 4 * k + 2)), .ref (ad (b + 1 + 4 * k + 3))]) := fun k hk => (h k hk).1
theorem tl_vs (h : ∀ k, k < 2 → coinAt G ad w (b + 1 + 4 * k) (M 1 k) (dV M k) (dF M k) (dL M k)) : ∀ k, k < 2 → w (b + 1 + 4 * k + 1) = aI G 8 (fun q => (dVc M k q : Int)) := fun k hk => by
  unfold dVc
  rw [if_pos hk]
  exact (h k hk).2.1
end TL
theorem clip4_le {c : Nat} {M : Nat → Nat → Nat} (hc : c ≤ 600) (hI : LInv c M) : ∀ k, clip 4 (M 10) k < 2147483648 := fun k => by
  have := clip_le (n := 4) (B := 600) (f := M 10) (fun q hq => by have := (hI.2.2.2.2.2.2.2.1 q hq).1; omega) k
  omega
theorem srt_cf {val val' b0 : Nat → Nat} : ∀ n, (∀ k, k < n → val k = val' k) → srt val b0 n = srt val' b0 n
  | 0, _ => rfl
  | n + 1, h => by
    have ih := srt_cf (b0 := b0) n (fun k hk => h k (by omega))
    have e : insP val (srt val b0 n) (val n) n = insP val' (srt val' b0 n) (val' n) n := by
      rw [← h n (by omega), ← ih]
      exact insP_c n (fun i hi => h _ (Nat.lt_trans (srt_lt val b0 n i hi) (Nat.lt_succ_self n)))
    show insF (srt val b0 n) n (insP val (srt val b0 n) (val n) n) = insF (srt val' b0 n) n (insP val' (srt val' b0 n) (val' n) n)
    rw [← e, ih]
theorem coin_c {G : nG} {ad : Nat → Nat} {w : Nat → va_E} {i k : Nat} {M M' : Nat → Nat → Nat} (e1 : M' 1 k = M 1 k) (e2 : dV M' k = dV M k) (h : coinAt G ad w i (M 1 k) (dV M k) (dF M k) (dL M k)) : coinAt G ad w i (M' 1 k) (dV M' k) (dF M' k) (dL M' k) := by
  unfold dF dL at h ⊢
  rw [e1, e2]
  exact h
set_option maxHeartbeats 4000000 in
theorem k_coin {l : Launch} {G : nG} {N : Nat} {ad : Nat → Nat} {x y c : Nat} {w : Nat → va_E} (hN : N = x + 246) (hy : y = x + 219) (hc : c ≤ 600) (hS : Sd G ad x y c w) (a1 : Int) (a2 : Int) (r_a1 : -2147483648 ≤ a1 ∧ a1 < 2147483648) (r_a2 : -2147483648 ≤ a2 ∧ a2 < 2147483648) : StpI l G N ad x y c w yX6_coin yX7_coin wsX6_coin wsX7_coin ({ frames := 2, cells := 0, slots := 0, locals := 44 }) ({ frames := 1, cells := 0, slots := 0, locals := 22 }) [.int (iI a1), .int (iI a2)] := by
  obtain ⟨M, kp, hC, hM, hk, hI⟩ := hS
  obtain ⟨i1, i2, i3, i4, i5, i6, i7, i8, i9, i10, i11⟩ := id hI
  obtain ⟨mCo, mVa, mRa, mSl, mGo, mPr, mTi, mSt, mTl, mTs, mEx, mHa⟩ := inv_mod hc hI
  obtain ⟨x0, hL, x2, x3, x4, x5, x6, x7⟩ := id hC
  obtain ⟨L0, L1, L2, L3, L4, L5⟩ := id hL
  by_cases h0 : a1 = 0 ∨ a1 = 1
  · obtain ⟨sy, hs, rfl⟩ : ∃ sy : Nat, sy < 2 ∧ a1 = (sy : Int) := ⟨a1.toNat, by omega, by omega⟩
    obtain ⟨v1, v2, v3, v4, v5, v6, v7, v8⟩ := inv_coin hI hs
    have hav : ∀ z, anyV (fun q9 => M 2 (8 * sy + q9)) z (M 1 sy) = anyV (dV M sy) z (M 1 sy) := fun z => anyV_c _ (fun k hk => (v7 k (by omega)).symm)
    by_cases hno : M 1 sy = 8 ∨ ¬ (1 ≤ a2 ∧ a2 ≤ 1000) ∨ anyV (dV M sy) a2 (M 1 sy) = true
    · exact stp_rd (-1) hy hC hM hk hI (fun sz => c_X6_coin_no x (x + 1) (M 9 0) (M 3 0) (M 3 1) (M 8 0) sy (M 1 sy) (dV M sy) a2 (by omega) rfl hs v6 r_a2 v1 hno x0 L0 (L1 sy hs).1 (L1 sy hs).2.1) (fun u hu sz => c_X7_coin_no y (M 1) (M 2) sy a2 (by omega) mCo mVa hs r_a2 (by rw [hav]; exact hno) hu.1 hu.2.1 hu.2.2.1) (fun u r v hu h => mod_eq hu h)
    · obtain ⟨n1, n2⟩ := not_or.mp hno
      obtain ⟨n3, n4⟩ := not_or.mp n2
      have n3 := Decidable.of_not_not n3
      have n4 : anyV (dV M sy) a2 (M 1 sy) = false := by simpa using n4
      obtain ⟨v, hv, rfl⟩ : ∃ v : Nat, (1 ≤ v ∧ v ≤ 1000) ∧ a2 = (v : Int) := ⟨a2.toNat, by omega, by omega⟩
      have hc8 : M 1 sy < 8 := by omega
      have eV : ∀ k, k < 2 → dV (va_up (va_up M 1 (va_up (M 1) sy (M 1 sy + 1))) 2 (va_up (M 2) (8 * sy + M 1 sy) v)) k = if k = sy then va_up (dV M sy) (M 1 sy) v else dV M k := fun k hk => by
        show clip 8 (fun q => va_up (M 2) (8 * sy + M 1 sy) v (8 * k + q)) = _
        by_cases e : k = sy
        · rw [if_pos e, e]
          unfold dV
          rw [clip_up hc8]
          refine clip_c fun q hq => ?_
          by_cases e2 : q = M 1 sy
          · rw [e2, va_up_self, va_up_self]
          · rw [va_up_ne _ _ e2, va_up_ne _ _ (by omega)]
        · rw [if_neg e]
          exact clip_c fun q hq => va_up_ne _ _ (by omega)
      refine stp_mk (M 1 sy : Int) (va_up (va_up M 1 (va_up (M 1) sy (M 1 sy + 1))) 2 (va_up (M 2) (8 * sy + M 1 sy) v)) kp hy hM hk ?_ (fun sz => c_X6_coin_yes x (x + 1) (M 9 0) (M 3 0) (M 3 1) (M 8 0) sy (M 1 sy) (dV M sy) (dF M sy) (dL M sy) v (by omega) rfl hs hc8 hv v1 (fun k hk => by have := v3 k hk; omega) v4 n4 x0 L0 (L1 sy hs).1 (L1 sy hs).2.1 (L1 sy hs).2.2.1 (L1 sy hs).2.2.2) (fun r u hq => ?_) (fun u hu sz => c_X7_coin_yes y (M 1) (M 2) sy v (by omega) mCo mVa hs hc8 hv (by rw [hav]; exact n4) hu.1 hu.2.1 hu.2.2.1) (fun u r v' hu h => ?_)
      · have g1 : ∀ k, M 1 k ≤ va_up (M 1) sy (M 1 sy + 1) k := fun k => by
          by_cases e : k = sy
          · rw [e, va_up_self]
            omega
          · rw [va_up_ne _ _ e]
            exact Nat.le_refl _
        refine ⟨fun k hk => ?_, fun k hk q hq => ?_, i3, ⟨Nat.le_succ_of_le i4.1, i4.2⟩, i5, i6, i7, fun t ht => ⟨Nat.le_succ_of_le (i8 t ht).1, (i8 t ht).2⟩, i9, i10, fun t ht q hq => ?_⟩
        · show va_up (M 1) sy (M 1 sy + 1) k ≤ 8
          by_cases e : k = sy
          · rw [e, va_up_self]
            omega
          · rw [va_up_ne _ _ e]
            exact i1 k hk
        · show va_up (M 2) (8 * sy + M 1 sy) v (8 * k + q) ≤ 1000 ∧ (q < va_up (M 1) sy (M 1 sy + 1) k → 1 ≤ va_up (M 2) (8 * sy + M 1 sy) v (8 * k + q))
          by_cases e : 8 * k + q = 8 * sy + M 1 sy
          · rw [e, va_up_self]
            exact ⟨hv.2, fun _ => hv.1⟩
          · rw [va_up_ne _ _ e]
            have h9 := i2 k hk q hq
            refine ⟨h9.1, fun hq2 => h9.2 ?_⟩
            by_cases e2 : k = sy
            · rw [e2, va_up_self] at hq2
              rw [e2] at e ⊢
              omega
            · rw [va_up_ne _ _ e2] at hq2
              exact hq2
        · have h9 := i11 t ht q hq
          exact ⟨h9.1, h9.2.1, h9.2.2.1, Nat.lt_of_lt_of_le h9.2.2.2 (g1 _)⟩
      · obtain ⟨hne, hr, c0, c1, c2, c3⟩ := hq
        refine ⟨hr, fun j hj => hne j (by omega) (by omega) (by omega) (by omega), Cls_land (fun j a b d => hne j (by omega) (by omega) (by omega) (by omega)) ⟨(hne _ (by omega) (by omega) (by omega) (by omega)).trans L0, fun k hk => ?_, goodAt_fr (fun j a b => hne j (by omega) (by omega) (by omega) (by omega)) L2, (hne _ (by omega) (by omega) (by omega) (by omega)).trans L3, (hne _ (by omega) (by omega) (by omega) (by omega)).trans L4, fun t ht => tillAt_fr (fun j a b => hne j (by omega) (by omega) (by omega) (by omega)) (L5 t ht)⟩ (Hi_up (Hi_up (Hi_r M) (Hi_1 (by show sy < 2; omega))) (Hi_1 (by show _ < 16; omega))) hC⟩
        by_cases e : k = sy
        · subst e
          have e1 : va_up (va_up M 1 (va_up (M 1) k (M 1 k + 1))) 2 (va_up (M 2) (8 * k + M 1 k) v) 1 k = M 1 k + 1 := va_up_self _ _ _
          have e2 := eV k hk
          rw [if_pos rfl] at e2
          have e3 : ∀ q, q < M 1 k → va_up (dV M k) (M 1 k) v q = dV M k q := fun q hq => va_up_ne _ _ (by omega)
          have e4 : va_up (dV M k) (M 1 k) v (M 1 k) = v := va_up_self _ _ _
          unfold dF dL
          rw [e1, e2]
          refine ⟨c0, c1, ?_, ?_⟩
          · show u _ = aI G 8 (fun q => ((insF (srt (va_up (dV M k) (M 1 k) v) (fun _ => 0) (M 1 k)) (M 1 k) (insP (va_up (dV M k) (M 1 k) v) (srt (va_up (dV M k) (M 1 k) v) (fun _ => 0) (M 1 k)) (va_up (dV M k) (M 1 k) v (M 1 k)) (M 1 k)) q : Nat) : Int))
            rw [srt_cf _ e3, e4]
            exact c2
          · show u _ = aI G 2001 (imp (lsF (va_up (dV M k) (M 1 k) v) (M 1 k)) (va_up (dV M k) (M 1 k) v (M 1 k)) (2001 - va_up (dV M k) (M 1 k) v (M 1 k)))
            rw [lsF_c _ e3, e4]
            exact c3
        · have e2 := eV k hk
          rw [if_neg e] at e2
          exact coin_c (M := M) (va_up_ne _ _ e) e2 (coinAt_fr (fun j a b => hne j (by omega) (by omega) (by omega) (by omega)) (L1 k hk))
      · obtain ⟨hne, hr, c1, c2⟩ := h
        obtain ⟨m0, m1, m2, m3, m4, m5, m6, m7, m8, m9, m10, m11, m12, m13, m14, m15, m16, m17, m18, m19, m20, m21, m22, m23, m24, m25, m26⟩ := id hu
        exact ⟨hr, fun j hj => hne j (by omega) (by omega), (hne _ (by omega) (by omega)).trans m0, c1, c2, (hne _ (by omega) (by omega)).trans m3, (hne _ (by omega) (by omega)).trans m4, (hne _ (by omega) (by omega)).trans m5, (hne _ (by omega) (by omega)).trans m6, (hne _ (by omega) (by omega)).trans m7, (hne _ (by omega) (by omega)).trans m8, (hne _ (by omega) (by omega)).trans m9, (hne _ (by omega) (by omega)).trans m10, (hne _ (by omega) (by omega)).trans m11, (hne _ (by omega) (by omega)).trans m12, (hne _ (by omega) (by omega)).trans m13, (hne _ (by omega) (by omega)).trans m14, (hne _ (by omega) (by omega)).trans m15, (hne _ (by omega) (by omega)).trans m16, (hne _ (by omega) (by omega)).trans m17, ex_fr m18 (hne _ (by omega) (by omega)), ex_fr m19 (hne _ (by omega) (by omega)), ex_fr m20 (hne _ (by omega) (by omega)), ex_fr m21 (hne _ (by omega) (by omega)), ex_fr m22 (hne _ (by omega) (by omega)), ex_fr m23 (hne _ (by omega) (by omega)), ex_fr m24 (hne _ (by omega) (by omega)), ex_fr m25 (hne _ (by omega) (by omega)), (hne _ (by omega) (by omega)).trans m26⟩
  · have h1 : ¬ a1 = 0 ∧ ¬ a1 = 1 := by omega
    exact stp_rd (-1) hy hC hM hk hI (fun sz => c_X6_coin_n x (x + 1) (M 9 0) (M 3 0) (M 3 1) (M 8 0) a1 a2 (by omega) rfl r_a1 h1 x0 L0) (fun u hu sz => c_X7_coin_n y a1 a2 (by omega) r_a1 h1 hu.1) (fun u r v hu h => mod_eq hu h)
