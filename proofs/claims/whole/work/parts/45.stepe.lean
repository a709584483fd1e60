
theorem inv_vs {c : Nat} {M : Nat → Nat → Nat} (hI : LInv c M) {sy : Nat} (hs : sy < 2) : (∀ k, k < M 1 sy → 1 ≤ M 2 (8 * sy + k)) ∧ (∀ k, k < M 1 sy → M 2 (8 * sy + k) = dV M sy k) ∧ (∀ b9 j, j < M 1 sy → srt (fun q9 => M 2 (8 * sy + q9)) b9 (M 1 sy) j = dF M sy j) ∧ (∀ b9 sm, grV (fun q9 => M 2 (8 * sy + q9)) (srt (fun q9 => M 2 (8 * sy + q9)) b9 (M 1 sy)) (M 1 sy) sm = grV (dV M sy) (dF M sy) (M 1 sy) sm) ∧ lsF (fun q9 => M 2 (8 * sy + q9)) (M 1 sy) = dL M sy ∧ lsOK (fun q9 => M 2 (8 * sy + q9)) (M 1 sy) 2000 (dL M sy) ∧ fwOK (fun q9 => M 2 (8 * sy + q9)) (M 1 sy) (dL M sy) (tkQ (dV M sy) (M 1 sy)) := by
  obtain ⟨v1, v2, v3, v4, v5, v6, v7, v8⟩ := inv_coin hI hs
  have h2 : ∀ k, k < M 1 sy → M 2 (8 * sy + k) = dV M sy k := fun k hk => (v7 k (by omega)).symm
  have h1 : ∀ k, k < M 1 sy → 1 ≤ M 2 (8 * sy + k) := fun k hk => by
    rw [h2 k hk]
    exact v2 k hk
  have h12 : ∀ k, k < M 1 sy → 1 ≤ (fun q9 => M 2 (8 * sy + q9)) k ∧ (fun q9 => M 2 (8 * sy + q9)) k ≤ 1000 := fun k hk => ⟨h1 k hk, by
    show M 2 (8 * sy + k) ≤ 1000
    rw [h2 k hk]
    exact v1 k⟩
  have h3 : ∀ b9 j, j < M 1 sy → srt (fun q9 => M 2 (8 * sy + q9)) b9 (M 1 sy) j = dF M sy j := fun b9 j hj => srt_c _ h2 j hj
  have h5 : lsF (fun q9 => M 2 (8 * sy + q9)) (M 1 sy) = dL M sy := lsF_c _ h2
  refine ⟨h1, h2, h3, fun b9 sm => grV_c fun j hj => ?_, h5, ?_, ?_⟩
  · rw [h3 b9 j hj]
    exact h2 _ (v3 j hj)
  · rw [← h5]
    exact lsF_ok _ h12
  · exact fwOK_c (fw_ok v6 h12) h5 (fun sm k => tkQ_c h2)
theorem allB_c {P P' : Nat → Bool} : ∀ n, (∀ k, k < n → P k = P' k) → allB P n = allB P' n
  | 0, _ => rfl
  | n + 1, h => by
    show (allB P n && P n) = (allB P' n && P' n)
    rw [allB_c n (fun k hk => h k (by omega)), h n (by omega)]
theorem ml_c {tk md tk' md' : Nat → Int} : ∀ n, (∀ k, k < n → tk k = tk' k ∧ md k = md' k) → mlB tk md n = mlB tk' md' n ∧ mlM tk md n = mlM tk' md' n
  | 0, _ => ⟨rfl, rfl⟩
  | n + 1, h => by
    obtain ⟨e1, e2⟩ := ml_c n (fun k hk => h k (by omega))
    obtain ⟨f1, f2⟩ := h n (by omega)
    have e3 : mlB tk md (n + 1) = mlB tk' md' (n + 1) := by
      show mlB tk md n + md n - tk n = mlB tk' md' n + md' n - tk' n
      rw [e1, f1, f2]
    refine ⟨e3, ?_⟩
    show max (mlM tk md n) (-(mlB tk md (n + 1))) = max (mlM tk' md' n) (-(mlB tk' md' (n + 1)))
    rw [e2, e3]
set_option maxHeartbeats 4000000 in
theorem k_fairest {l : Launch} {G : nG} {N : Nat} {ad : Nat → Nat} {x y c : Nat} {w : Nat → va_E} (hN : N = x + 246) (hy : y = x + 219) (hc : c ≤ 600) (hS : Sd G ad x y c w) : StpI l G N ad x y c w yX6_fairest yX7_fairest wsX6_fairest wsX7_fairest ({ frames := 4, cells := 0, slots := 0, locals := 102 }) ({ frames := 2, cells := 0, slots := 0, locals := 50 }) [] := by
  obtain ⟨M, kp, hC, hM, hk, hI⟩ := hS
  obtain ⟨i1, i2, i3, i4, i5, i6, i7, i8, i9, i10, i11⟩ := id hI
  obtain ⟨mCo, mVa, mRa, mSl, mGo, mPr, mTi, mSt, mTl, mTs, mEx, mHa⟩ := inv_mod hc hI
  obtain ⟨x0, hL, x2, x3, x4, x5, x6, x7⟩ := id hC
  obtain ⟨L0, L1, L2, L3, L4, L5⟩ := id hL
  obtain ⟨tu, htu⟩ := x6
  have hfa : faB (alW (sumI (fun g9 => gnV (clip 14 (M 6)) (clip 14 (M 7)) (M 3 0) (M 3 1) (M 8 0) g9 0) (M 5 0)) (tuF tu (fun g9 => gnV (clip 14 (M 6)) (clip 14 (M 7)) (M 3 0) (M 3 1) (M 8 0) g9 1 - gnV (clip 14 (M 6)) (clip 14 (M 7)) (M 3 0) (M 3 1) (M 8 0) g9 0) (M 5 0))) (2 ^ (M 5 0) - 1) = faB (fun x9 => (sumI (fun g9 => gnV (M 6) (M 7) (M 3 0) (M 3 1) (M 8 0) g9 (if bt ((x9 : Nat) : Int) g9 = 1 then 1 else 0)) (M 5 0))) (2 ^ (M 5 0) - 1) := (fa_c _ (fun x9 hx9 => by
    have hp := Nat.two_pow_pos (M 5 0)
    rw [fair_eq (f1 := fun g9 => gnV (clip 14 (M 6)) (clip 14 (M 7)) (M 3 0) (M 3 1) (M 8 0) g9 1) i5.1 (fun _ => rfl) x9 (by omega)]
    refine (fair_S (f1 := fun g9 => gnV (clip 14 (M 6)) (clip 14 (M 7)) (M 3 0) (M 3 1) (M 8 0) g9 1) (fun _ => rfl)).symm.trans (sumI_c _ (fun g hg => ?_))
    have h14 : g < 14 := by have := i5.1; omega
    have eg : ∀ ru, gnV (clip 14 (M 6)) (clip 14 (M 7)) (M 3 0) (M 3 1) (M 8 0) g ru = gnV (M 6) (M 7) (M 3 0) (M 3 1) (M 8 0) g ru := fun ru => gnV_c (clip_at h14) (clip_at h14)
    rw [eg 0, eg 1]
    split <;> rfl)).2
  refine stp_mk2 ((faB (alW (sumI (fun g9 => gnV (clip 14 (M 6)) (clip 14 (M 7)) (M 3 0) (M 3 1) (M 8 0) g9 0) (M 5 0)) (tuF tu (fun g9 => gnV (clip 14 (M 6)) (clip 14 (M 7)) (M 3 0) (M 3 1) (M 8 0) g9 1 - gnV (clip 14 (M 6)) (clip 14 (M 7)) (M 3 0) (M 3 1) (M 8 0) g9 0) (M 5 0))) (2 ^ (M 5 0) - 1) : Nat) : Int) M kp hy hM hk (LInv_mono (Nat.le_succ c) hI) (fun sz => c_X6_fairest x (x + 1) (M 9 0) (M 3 0) (M 3 1) (M 8 0) (M 5 0) (clip 14 (M 6)) (clip 14 (M 7)) tu (by omega) rfl i7 i3.1 i3.2 i6 (clip_le fun q hq => (i5.2 q hq).1) (clip_le fun q hq => (i5.2 q hq).2) i5.1 x0 L0 L2.1 L2.2.1 L2.2.2 htu) (fun r u hq => ?_) (fun u hu sz => ?_)
  · obtain ⟨hne, hr, c0⟩ := hq
    refine ⟨hr, fun j hj => hne j (by omega), Cls_scr (fun j a b d => hne j (by omega)) ?_ (ex_fr x5 (hne _ (by omega))) ⟨_, c0⟩ hC⟩
    obtain ⟨rz, tb, P0, C0, q⟩ := x4
    exact ⟨rz, tb, P0, C0, makAt_fr (fun j a b => hne j (by omega)) q⟩
  · obtain ⟨o9, h9⟩ := hu.2.2.2.2.2.2.2.2.2.2.2.2.2.2.2.2.2.2.1
    refine wr_i (c_X7_fairest y (M 3) (M 5) (M 6) (M 7) (M 8) o9 (by omega) mRa mGo mPr mTi mSt hu.1 hu.2.2.2.1 hu.2.2.2.2.2.1 hu.2.2.2.2.2.2.1 hu.2.2.2.2.2.2.2.1 hu.2.2.2.2.2.2.2.2.1 h9) (fun r v h => ?_)
    obtain ⟨hne, hr, c18⟩ := h
    obtain ⟨m0, m1, m2, m3, m4, m5, m6, m7, m8, m9, m10, m11, m12, m13, m14, m15, m16, m17, m18, m19, m20, m21, m22, m23, m24, m25, m26⟩ := id hu
    exact ⟨by rw [hfa]; exact hr, fun j hj => hne j (by omega), (hne _ (by omega)).trans m0, (hne _ (by omega)).trans m1, (hne _ (by omega)).trans m2, (hne _ (by omega)).trans m3, (hne _ (by omega)).trans m4, (hne _ (by omega)).trans m5, (hne _ (by omega)).trans m6, (hne _ (by omega)).trans m7, (hne _ (by omega)).trans m8, (hne _ (by omega)).trans m9, (hne _ (by omega)).trans m10, (hne _ (by omega)).trans m11, (hne _ (by omega)).trans m12, (hne _ (by omega)).trans m13, (hne _ (by omega)).trans m14, (hne _ (by omega)).trans m15, (hne _ (by omega)).trans m16, (hne _ (by omega)).trans m17, c18, ex_fr m19 (hne _ (by omega)), ex_fr m20 (hne _ (by omega)), ex_fr m21 (hne _ (by omega)), ex_fr m22 (hne _ (by omega)), ex_fr m23 (hne _ (by omega)), ex_fr m24 (hne _ (by omega)), ex_fr m25 (hne _ (by omega)), (hne _ (by omega)).trans m26⟩
set_option maxHeartbeats 4000000 in
theorem k_greedy {l : Launch} {G : nG} {N : Nat} {ad : Nat → Nat} {x y c : Nat} {w : Nat → va_E} (hN : N = x + 246) (hy : y = x + 219) (hc : c ≤ 600) (hS : Sd G ad x y c w) (a1 : Int) (a2 : Int) (r_a1 : -2147483648 ≤ a1 ∧ a1 < 2147483648) (r_a2 : -2147483648 ≤ a2 ∧ a2 < 2147483648) : StpI l G N ad x y c w yX6_greedy yX7_greedy wsX6_greedy wsX7_greedy ({ frames := 2, cells := 0, slots := 0, locals := 47 }) ({ frames := 1, cells := 0, slots := 0, locals := 26 }) [.int (iI a1), .int (iI a2)] := by
  obtain ⟨M, kp, hC, hM, hk, hI⟩ := hS
  obtain ⟨i1, i2, i3, i4, i5, i6, i7, i8, i9, i10, i11⟩ := id hI
  obtain ⟨mCo, mVa, mRa, mSl, mGo, mPr, mTi, mSt, mTl, mTs, mEx, mHa⟩ := inv_mod hc hI
  obtain ⟨x0, hL, x2, x3, x4, x5, x6, x7⟩ := id hC
  obtain ⟨L0, L1, L2, L3, L4, L5⟩ := id hL
  by_cases hv : (a1 = 0 ∨ a1 = 1) ∧ 0 ≤ a2 ∧ a2 ≤ 2000
  · obtain ⟨sy, hs, rfl⟩ : ∃ sy : Nat, sy < 2 ∧ a1 = (sy : Int) := ⟨a1.toNat, by omega, by omega⟩
    obtain ⟨sm, hsm, rfl⟩ : ∃ sm : Nat, sm ≤ 2000 ∧ a2 = (sm : Int) := ⟨a2.toNat, by omega, by omega⟩
    obtain ⟨v1, v2, v3, v4, v5, v6, v7, v8⟩ := inv_coin hI hs
    obtain ⟨s1, s2, s3, s4, s5, s6, s7⟩ := inv_vs hI hs
    refine stp_rd2 (grV (dV M sy) (dF M sy) (M 1 sy) sm) hy hC hM hk hI (fun sz => c_X6_greedy_yes x (x + 1) (M 9 0) (M 3 0) (M 3 1) (M 8 0) sy (M 1 sy) (dV M sy) (dF M sy) sm (by omega) rfl hs v6 v1 v2 v3 hsm x0 L0 (L1 sy hs).1 (L1 sy hs).2.1 (L1 sy hs).2.2.1) (fun u hu sz => ?_)
    obtain ⟨b9, h9⟩ := hu.2.2.2.2.2.2.2.2.2.2.2.2.2.2.2.2.2.2.2.1
    refine wr_i (c_X7_greedy_yes y (M 1) (M 2) sy sm b9 (by omega) mCo mVa hs hsm s1 hu.1 hu.2.1 hu.2.2.1 h9) (fun r v h => ?_)
    obtain ⟨hne, B, hB, hr, c19⟩ := h
    obtain ⟨m0, m1, m2, m3, m4, m5, m6, m7, m8, m9, m10, m11, m12, m13, m14, m15, m16, m17, m18, m19, m20, m21, m22, m23, m24, m25, m26⟩ := id hu
    exact ⟨by rw [hr, hB, s4], fun j hj => hne j (by omega), (hne _ (by omega)).trans m0, (hne _ (by omega)).trans m1, (hne _ (by omega)).trans m2, (hne _ (by omega)).trans m3, (hne _ (by omega)).trans m4, (hne _ (by omega)).trans m5, (hne _ (by omega)).trans m6, (hne _ (by omega)).trans m7, (hne _ (by omega)).trans m8, (hne _ (by omega)).trans m9, (hne _ (by omega)).trans m10, (hne _ (by omega)).trans m11, (hne _ (by omega)).trans m12, (hne _ (by omega)).trans m13, (hne _ (by omega)).trans m14, (hne _ (by omega)).trans m15, (hne _ (by omega)).trans m16, (hne _ (by omega)).trans m17, ex_fr m18 (hne _ (by omega)), ⟨B, c19⟩, ex_fr m20 (hne _ (by omega)), ex_fr m21 (hne _ (by omega)), ex_fr m22 (hne _ (by omega)), ex_fr m23 (hne _ (by omega)), ex_fr m24 (hne _ (by omega)), ex_fr m25 (hne _ (by omega)), (hne _ (by omega)).trans m26⟩
  · exact stp_rd (-1) hy hC hM hk hI (fun sz => c_X6_greedy_no x (x + 1) (M 9 0) (M 3 0) (M 3 1) (M 8 0) a1 a2 (by omega) rfl r_a1 r_a2 hv x0 L0) (fun u hu sz => c_X7_greedy_no y a1 a2 (by omega) r_a1 r_a2 hv hu.1) (fun u r v hu h => mod_eq hu h)
set_option maxHeartbeats 4000000 in
theorem k_odd {l : Launch} {G : nG} {N : Nat} {ad : Nat → Nat} {x y c : Nat} {w : Nat → va_E} (hN : N = x + 246) (hy : y = x + 219) (hc : c ≤ 600) (hS : Sd G ad x y c w) (a1 : Int) (r_a1 : -2147483648 ≤ a1 ∧ a1 < 2147483648) : StpI l G N ad x y c w yX6_odd yX7_odd wsX6_odd wsX7_odd ({ frames := 3, cells := 0, slots := 0, locals := 68 }) ({ frames := 1, cells := 0, slots := 0, locals := 26 }) [.int (iI a1)] := by
  obtain ⟨M, kp, hC, hM, hk, hI⟩ := hS
  obtain ⟨i1, i2, i3, i4, i5, i6, i7, i8, i9, i10, i11⟩ := id hI
  obtain ⟨mCo, mVa, mRa, mSl, mGo, mPr, mTi, mSt, mTl, mTs, mEx, mHa⟩ := inv_mod hc hI
  obtain ⟨x0, hL, x2, x3, x4, x5, x6, x7⟩ := id hC
  obtain ⟨L0, L1, L2, L3, L4, L5⟩ := id hL
  by_cases hv : a1 = 0 ∨ a1 = 1
  · obtain ⟨sy, hs, rfl⟩ : ∃ sy : Nat, sy < 2 ∧ a1 = (sy : Int) := ⟨a1.toNat, by omega, by omega⟩
    obtain ⟨v1, v2, v3, v4, v5, v6, v7, v8⟩ := inv_coin hI hs
    obtain ⟨s1, s2, s3, s4, s5, s6, s7⟩ := inv_vs hI hs
    refine stp_rd2 _ hy hC hM hk hI (fun sz => c_X6_odd_yes x (x + 1) (M 9 0) (M 3 0) (M 3 1) (M 8 0) sy (M 1 sy) (dV M sy) (dF M sy) (dL M sy) (by omega) rfl hs v6 v1 v2 v3 v4 x0 L0 (L1 sy hs).1 (L1 sy hs).2.1 (L1 sy hs).2.2.1 (L1 sy hs).2.2.2) (fun u hu sz => ?_)
    obtain ⟨b9, h9⟩ := hu.2.2.2.2.2.2.2.2.2.2.2.2.2.2.2.2.2.2.2.1
    obtain ⟨le0, h8⟩ := hu.2.2.2.2.2.2.2.2.2.2.2.2.2.2.2.2.2.2.2.2.2.2.2.1
    refine wr_i (c_X7_odd_yes y (M 1) (M 2) sy b9 (dL M sy) le0 (by omega) mCo mVa hs s1 v4 ?_ (odd_rec s6 v4 s1) (odd_gr s6 (srt_lt _ _ _) s1) hu.1 hu.2.1 hu.2.2.1 h9 h8) (fun r v h => ?_)
    · have h0 := v4 0 (by omega)
      rcases s6 0 (by omega) with h7 | h7
      · exact absurd (show Rc (fun q9 => M 2 (8 * sy + q9)) (M 1 sy) 0 0 from rfl) (h7.2 0)
      · obtain ⟨c9, e9, -, -⟩ := h7
        omega
    · obtain ⟨hne, ⟨B, hB, hr, c19⟩, c23⟩ := h
      obtain ⟨m0, m1, m2, m3, m4, m5, m6, m7, m8, m9, m10, m11, m12, m13, m14, m15, m16, m17, m18, m19, m20, m21, m22, m23, m24, m25, m26⟩ := id hu
      exact ⟨by rw [hr, hB]; exact congrArg (fun F => fo F 2001 0) (funext fun k => by rw [s4]), fun j hj => hne j (by omega) (by omega), (hne _ (by omega) (by omega)).trans m0, (hne _ (by omega) (by omega)).trans m1, (hne _ (by omega) (by omega)).trans m2, (hne _ (by omega) (by omega)).trans m3, (hne _ (by omega) (by omega)).trans m4, (hne _ (by omega) (by omega)).trans m5, (hne _ (by omega) (by omega)).trans m6, (hne _ (by omega) (by omega)).trans m7, (hne _ (by omega) (by omega)).trans m8, (hne _ (by omega) (by omega)).trans m9, (hne _ (by omega) (by omega)).trans m10, (hne _ (by omega) (by omega)).trans m11, (hne _ (by omega) (by omega)).trans m12, (hne _ (by omega) (by omega)).trans m13, (hne _ (by omega) (by omega)).trans m14, (hne _ (by omega) (by omega)).trans m15, (hne _ (by omega) (by omega)).trans m16, (hne _ (by omega) (by omega)).trans m17, ex_fr m18 (hne _ (by omega) (by omega)), ⟨B, c19⟩, ex_fr m20 (hne _ (by omega) (by omega)), ex_fr m21 (hne _ (by omega) (by omega)), ex_fr m22 (hne _ (by omega) (by omega)), c23, ex_fr m24 (hne _ (by omega) (by omega)), ex_fr m25 (hne _ (by omega) (by omega)), (hne _ (by omega) (by omega)).trans m26⟩
  · exact stp_rd (-1) hy hC hM hk hI (fun sz => c_X6_odd_no x (x + 1) (M 9 0) (M 3 0) (M 3 1) (M 8 0) a1 (by omega) rfl r_a1 (by omega) x0 L0) (fun u hu sz => c_X7_odd_no y a1 (by omega) r_a1 hv hu.1) (fun u r v hu h => mod_eq hu h)
set_option maxHeartbeats 4000000 in
theorem k_fewest {l : Launch} {G : nG} {N : Nat} {ad : Nat → Nat} {x y c : Nat} {w : Nat → va_E} (hN : N = x + 246) (hy : y = x + 219) (hc : c ≤ 600) (hS : Sd G ad x y c w) (a1 : Int) (a2 : Int) (a3 : Int) (r_a1 : -2147483648 ≤ a1 ∧ a1 < 2147483648) (r_a2 : -2147483648 ≤ a2 ∧ a2 < 2147483648) (r_a3 : -2147483648 ≤ a3 ∧ a3 < 2147483648) : StpI l G N ad x y c w yX6_fewest yX7_fewest wsX6_fewest wsX7_fewest ({ frames := 3, cells := 0, slots := 0, locals := 63 }) ({ frames := 2, cells := 0, slots := 0, locals := 53 }) [.int (iI a1), .int (iI a2), .int (iI a3)] := by
  obtain ⟨M, kp, hC, hM, hk, hI⟩ := hS
  obtain ⟨i1, i2, i3, i4, i5, i6, i7, i8, i9, i10, i11⟩ := id hI
  obtain ⟨mCo, mVa, mRa, mSl, mGo, mPr, mTi, mSt, mTl, mTs, mEx, mHa⟩ := inv_mod hc hI
  obtain ⟨x0, hL, x2, x3, x4, x5, x6, x7⟩ := id hC
  obtain ⟨L0, L1, L2, L3, L4, L5⟩ := id hL
  have fls : ∀ k, k < 2 → w (x + 1 + 1 + 4 * k + 3) = aI G 2001 (dL M k) := fun k hk => (L1 k hk).2.2.2
  have hls : ∀ k, k < 2 → ∀ q, q < 2001 → -1 ≤ dL M k q ∧ dL M k q ≤ q := fun k hk => (inv_coin hI hk).2.2.2.1
  by_cases hv : (a1 = 0 ∨ a1 = 1) ∧ (0 ≤ a2 ∧ a2 ≤ 2000) ∧ (a3 = -1 ∨ (0 ≤ a3 ∧ a3 < (M 1 a1.toNat : Int)))
  · obtain ⟨sy, hs, rfl⟩ : ∃ sy : Nat, sy < 2 ∧ a1 = (sy : Int) := ⟨a1.toNat, by omega, by omega⟩
    obtain ⟨sm, hsm, rfl⟩ : ∃ sm : Nat, sm ≤ 2000 ∧ a2 = (sm : Int) := ⟨a2.toNat, by omega, by omega⟩
    obtain ⟨v1, v2, v3, v4, v5, v6, v7, v8⟩ := inv_coin hI hs
    obtain ⟨s1, s2, s3, s4, s5, s6, s7⟩ := inv_vs hI hs
    have hno : dL M sy sm = -1 → ∀ sz, Met l yX6_fewest wsX6_fewest ({ frames := 3, cells := 0, slots := 0, locals := 63 }) (va_Pc (.ref (ad x) :: [.int (iI (sy : Int)), .int (iI (sm : Int)), .int (iI a3)]) (nB G N ad w sz)) (nRd (.int (iI (-1)))) 0 0 (fun _ => False) := fun hl sz => c_X6_fewest_no x (x + 1) (M 9 0) (M 3 0) (M 3 1) (M 8 0) (M 1) (dL M) sy sm a3 (by omega) rfl i1 hls r_a1 r_a2 r_a3 (fun h9 => h9.2.2.1 (by rw [Int.toNat_natCast, Int.toNat_natCast]; exact hl)) x0 L0 (tl_cn L1) fls
    rcases hv.2.2 with rfl | hk3
    · have hB : ∀ u, Mod G ad u y M kp → ∀ sz, Met l yX7_fewest wsX7_fewest ({ frames := 2, cells := 0, slots := 0, locals := 53 }) (va_Pc (.ref (ad y) :: [.int (iI (sy : Int)), .int (iI (sm : Int)), .int (iI (-1))]) (nB G N ad u sz)) (nPi G N ad sz (mQ G ad y M kp (dL M sy sm) u)) 0 0 (nA N ad sz) := fun u hu sz => by
        obtain ⟨b9, h19⟩ := hu.2.2.2.2.2.2.2.2.2.2.2.2.2.2.2.2.2.2.2.1
        obtain ⟨Fw0, h20⟩ := hu.2.2.2.2.2.2.2.2.2.2.2.2.2.2.2.2.2.2.2.2.1
        obtain ⟨tk0, h21⟩ := hu.2.2.2.2.2.2.2.2.2.2.2.2.2.2.2.2.2.2.2.2.2.1
        obtain ⟨bd, h22⟩ := hu.2.2.2.2.2.2.2.2.2.2.2.2.2.2.2.2.2.2.2.2.2.2.1
        refine wr_i (c_X7_fewest_cnt y (M 1) (M 2) sy sm b9 bd tk0 Fw0 (dL M sy) (tkQ (dV M sy) (M 1 sy)) (by omega) mCo mVa hs hsm s1 s7 hu.1 hu.2.1 hu.2.2.1 h19 h20 h21 h22) (fun r v h => ?_)
        obtain ⟨hne, hr, c19, c20, c21, c22⟩ := h
        obtain ⟨m0, m1, m2, m3, m4, m5, m6, m7, m8, m9, m10, m11, m12, m13, m14, m15, m16, m17, m18, m19, m20, m21, m22, m23, m24, m25, m26⟩ := id hu
        exact ⟨hr, fun j hj => hne j (by omega) (by omega) (by omega) (by omega), (hne _ (by omega) (by omega) (by omega) (by omega)).trans m0, (hne _ (by omega) (by omega) (by omega) (by omega)).trans m1, (hne _ (by omega) (by omega) (by omega) (by omega)).trans m2, (hne _ (by omega) (by omega) (by omega) (by omega)).trans m3, (hne _ (by omega) (by omega) (by omega) (by omega)).trans m4, (hne _ (by omega) (by omega) (by omega) (by omega)).trans m5, (hne _ (by omega) (by omega) (by omega) (by omega)).trans m6, (hne _ (by omega) (by omega) (by omega) (by omega)).trans m7, (hne _ (by omega) (by omega) (by omega) (by omega)).trans m8, (hne _ (by omega) (by omega) (by omega) (by omega)).trans m9, (hne _ (by omega) (by omega) (by omega) (by omega)).trans m10, (hne _ (by omega) (by omega) (by omega) (by omega)).trans m11, (hne _ (by omega) (by omega) (by omega) (by omega)).trans m12, (hne _ (by omega) (by omega) (by omega) (by omega)).trans m13, (hne _ (by omega) (by omega) (by omega) (by omega)).trans m14, (hne _ (by omega) (by omega) (by omega) (by omega)).trans m15, (hne _ (by omega) (by omega) (by omega) (by omega)).trans m16, (hne _ (by omega) (by omega) (by omega) (by omega)).trans m17, ex_fr m18 (hne _ (by omega) (by omega) (by omega) (by omega)), c19, c20, c21, c22, ex_fr m23 (hne _ (by omega) (by omega) (by omega) (by omega)), ex_fr m24 (hne _ (by omega) (by omega) (by omega) (by omega)), ex_fr m25 (hne _ (by omega) (by omega) (by omega) (by omega)), (hne _ (by omega) (by omega) (by omega) (by omega)).trans m26⟩
      by_cases hl : dL M sy sm = -1
      · rw [hl] at hB
        exact stp_rd2 (-1) hy hC hM hk hI (hno hl) hB
      · exact stp_rd2 (dL M sy sm) hy hC hM hk hI (fun sz => c_X6_fewest_cnt x (x + 1) (M 9 0) (M 3 0) (M 3 1) (M 8 0) sy (M 1 sy) (dV M sy) (dF M sy) (dL M sy) sm (by omega) rfl hs v6 v1 v2 v3 v4 hsm hl x0 L0 (L1 sy hs).1 (L1 sy hs).2.1 (L1 sy hs).2.2.1 (L1 sy hs).2.2.2) hB
    · obtain ⟨kk, hkk, rfl⟩ : ∃ kk : Nat, kk < M 1 sy ∧ a3 = (kk : Int) := ⟨a3.toNat, by rw [Int.toNat_natCast] at hk3; omega, by omega⟩
      have hB : ∀ u, Mod G ad u y M kp → ∀ sz, Met l yX7_fewest wsX7_fewest ({ frames := 2, cells := 0, slots := 0, locals := 53 }) (va_Pc (.ref (ad y) :: [.int (iI (sy : Int)), .int (iI (sm : Int)), .int (iI (kk : Int))]) (nB G N ad u sz)) (nPi G N ad sz (mQ G ad y M kp (if dL M sy sm = -1 then -1 else tkQ (dV M sy) (M 1 sy) sm kk) u)) 0 0 (nA N ad sz) := fun u hu sz => by
        obtain ⟨b9, h19⟩ := hu.2.2.2.2.2.2.2.2.2.2.2.2.2.2.2.2.2.2.2.1
        obtain ⟨Fw0, h20⟩ := hu.2.2.2.2.2.2.2.2.2.2.2.2.2.2.2.2.2.2.2.2.1
        obtain ⟨tk0, h21⟩ := hu.2.2.2.2.2.2.2.2.2.2.2.2.2.2.2.2.2.2.2.2.2.1
        obtain ⟨bd, h22⟩ := hu.2.2.2.2.2.2.2.2.2.2.2.2.2.2.2.2.2.2.2.2.2.2.1
        refine wr_i (c_X7_fewest_row y (M 1) (M 2) sy sm kk b9 bd tk0 Fw0 (dL M sy) (tkQ (dV M sy) (M 1 sy)) (by omega) mCo mVa hs hsm hkk s1 s7 hu.1 hu.2.1 hu.2.2.1 h19 h20 h21 h22) (fun r v h => ?_)
        obtain ⟨hne, hr, c19, c20, c21, c22⟩ := h
        obtain ⟨m0, m1, m2, m3, m4, m5, m6, m7, m8, m9, m10, m11, m12, m13, m14, m15, m16, m17, m18, m19, m20, m21, m22, m23, m24, m25, m26⟩ := id hu
        exact ⟨hr, fun j hj => hne j (by omega) (by omega) (by omega) (by omega), (hne _ (by omega) (by omega) (by omega) (by omega)).trans m0, (hne _ (by omega) (by omega) (by omega) (by omega)).trans m1, (hne _ (by omega) (by omega) (by omega) (by omega)).trans m2, (hne _ (by omega) (by omega) (by omega) (by omega)).trans m3, (hne _ (by omega) (by omega) (by omega) (by omega)).trans m4, (hne _ (by omega) (by omega) (by omega) (by omega)).trans m5, (hne _ (by omega) (by omega) (by omega) (by omega)).trans m6, (hne _ (by omega) (by omega) (by omega) (by omega)).trans m7, (hne _ (by omega) (by omega) (by omega) (by omega)).trans m8, (hne _ (by omega) (by omega) (by omega) (by omega)).trans m9, (hne _ (by omega) (by omega) (by omega) (by omega)).trans m10, (hne _ (by omega) (by omega) (by omega) (by omega)).trans m11, (hne _ (by omega) (by omega) (by omega) (by omega)).trans m12, (hne _ (by omega) (by omega) (by omega) (by omega)).trans m13, (hne _ (by omega) (by omega) (by omega) (by omega)).trans m14, (hne _ (by omega) (by omega) (by omega) (by omega)).trans m15, (hne _ (by omega) (by omega) (by omega) (by omega)).trans m16, (hne _ (by omega) (by omega) (by omega) (by omega)).trans m17, ex_fr m18 (hne _ (by omega) (by omega) (by omega) (by omega)), c19, c20, c21, c22, ex_fr m23 (hne _ (by omega) (by omega) (by omega) (by omega)), ex_fr m24 (hne _ (by omega) (by omega) (by omega) (by omega)), ex_fr m25 (hne _ (by omega) (by omega) (by omega) (by omega)), (hne _ (by omega) (by omega) (by omega) (by omega)).trans m26⟩
      by_cases hl : dL M sy sm = -1
      · rw [if_pos hl] at hB
        exact stp_rd2 (-1) hy hC hM hk hI (hno hl) hB
      · rw [if_neg hl] at hB
        obtain ⟨row, hrow⟩ := x5
        refine stp_mk2 _ M kp hy hM hk (LInv_mono (Nat.le_succ c) hI) (fun sz => c_X6_fewest_row x (x + 1) (M 9 0) (M 3 0) (M 3 1) (M 8 0) sy (M 1 sy) (dV M sy) (dF M sy) (dL M sy) sm kk row (by omega) rfl hs v6 v1 v2 v3 v4 hsm hl hkk x0 L0 (L1 sy hs).1 (L1 sy hs).2.1 (L1 sy hs).2.2.1 (L1 sy hs).2.2.2 hrow) (fun r u hq => ?_) hB
        obtain ⟨hne, hr, c0⟩ := hq
        refine ⟨hr.trans (wfR_ind _ (v5 kk hkk)), fun j hj => hne j (by omega), Cls_scr (fun j a b d => hne j (by omega)) ?_ ⟨_, c0⟩ (ex_fr x6 (hne _ (by omega))) hC⟩
        obtain ⟨rz, tb, P0, C0, q⟩ := x4
        exact ⟨rz, tb, P0, C0, makAt_fr (fun j a b => hne j (by omega)) q⟩
  · exact stp_rd (-1) hy hC hM hk hI (fun sz => c_X6_fewest_no x (x + 1) (M 9 0) (M 3 0) (M 3 1) (M 8 0) (M 1) (dL M) a1 a2 a3 (by omega) rfl i1 hls r_a1 r_a2 r_a3 (fun h9 => hv ⟨h9.1, h9.2.1, h9.2.2.2⟩) x0 L0 (tl_cn L1) fls) (fun u hu sz => c_X7_fewest_no y (M 1) a1 a2 a3 (by omega) mCo r_a1 r_a2 r_a3 hv hu.1 hu.2.1) (fun u r v hu h => mod_eq hu h)
set_option maxHeartbeats 4000000 in
theorem k_wanted {l : Launch} {G : nG} {N : Nat} {ad : Nat → Nat} {x y c : Nat} {w : Nat → va_E} (hN : N = x + 246) (hy : y = x + 219) (hc : c ≤ 600) (hS : Sd G ad x y c w) (a1 : Int) (a2 : Int) (r_a1 : -2147483648 ≤ a1 ∧ a1 < 2147483648) (r_a2 : -2147483648 ≤ a2 ∧ a2 < 2147483648) : StpI l G N ad x y c w yX6_wanted yX7_wanted wsX6_wanted wsX7_wanted ({ frames := 4, cells := 0, slots := 0, locals := 96 }) ({ frames := 3, cells := 0, slots := 0, locals := 80 }) [.int (iI a1), .int (iI a2)] := by
  obtain ⟨M, kp, hC, hM, hk, hI⟩ := hS
  obtain ⟨i1, i2, i3, i4, i5, i6, i7, i8, i9, i10, i11⟩ := id hI
  obtain ⟨mCo, mVa, mRa, mSl, mGo, mPr, mTi, mSt, mTl, mTs, mEx, mHa⟩ := inv_mod hc hI
  obtain ⟨x0, hL, x2, x3, x4, x5, x6, x7⟩ := id hC
  obtain ⟨L0, L1, L2, L3, L4, L5⟩ := id hL
  have hT := tl_T L5
  by_cases hv : (0 ≤ a1 ∧ a1 < (M 9 0 : Int)) ∧ (0 ≤ a2 ∧ a2 < (M 1 1 : Int))
  · obtain ⟨hv, hv2⟩ := hv
    obtain ⟨t, ht, rfl⟩ : ∃ t : Nat, t < M 9 0 ∧ a1 = (t : Int) := ⟨a1.toNat, by omega, by omega⟩
    have ht4 : t < 4 := by omega
    obtain ⟨kk, hkk, rfl⟩ : ∃ kk : Nat, kk < M 1 1 ∧ a2 = (kk : Int) := ⟨a2.toNat, by omega, by omega⟩
    have hs : 1 < 2 := by omega
    obtain ⟨v1, v2, v3, v4, v5, v6, v7, v8⟩ := inv_coin hI hs
    obtain ⟨s1, s2, s3, s4, s5, s6, s7⟩ := inv_vs hI hs
    obtain ⟨row, hrow⟩ := x5
    obtain ⟨p0, p1, p2, p3, p4, p5, p6, p7, p8⟩ := L5 t ht4
    have h20 := (i8 t ht4).2.1
    have ex : ∀ k, k < 4 → ∀ q, q < M 13 t → dX M t k q = M 17 (80 * t + 4 * q + k) := fun k hk4 q hq => clip_at (by omega)
    have ech : ∀ q, q < M 13 t → chI (M 3 0) (M 3 1) (dVc M) (dX M t 0) (dX M t 1) (dX M t 2) (dX M t 3) q = chI (M 3 0) (M 3 1) (fun s1 q => M 2 (8 * s1 + q)) (fun q => M 17 (80 * t + 4 * q)) (fun q => M 17 (80 * t + 4 * q + 1)) (fun q => M 17 (80 * t + 4 * q + 2)) (fun q => M 17 (80 * t + 4 * q + 3)) q := fun q hq => by
      have h9 := i11 t ht4 q hq
      have h8 := i1 _ h9.2.2.1
      have e1 : dVc M (M 17 (80 * t + 4 * q + 1)) (M 17 (80 * t + 4 * q + 2)) = M 2 (8 * M 17 (80 * t + 4 * q + 1) + M 17 (80 * t + 4 * q + 2)) := by
        unfold dVc
        rw [if_pos h9.2.2.1]
        exact clip_at (by omega)
      unfold chI spI
      rw [show dX M t 0 q = M 17 (80 * t + 4 * q) from ex 0 (by omega) q hq, ex 1 (by omega) q hq, ex 2 (by omega) q hq, ex 3 (by omega) q hq, e1]
    have eml : ∀ q, q < M 13 t → mlA (dX M t 1) (dX M t 2) (dX M t 3) kk q = mlA (fun q => M 17 (80 * t + 4 * q + 1)) (fun q => M 17 (80 * t + 4 * q + 2)) (fun q => M 17 (80 * t + 4 * q + 3)) kk q := fun q hq => by
      unfold mlA
      rw [ex 1 (by omega) q hq, ex 2 (by omega) q hq, ex 3 (by omega) q hq]
    have hex : ∀ q, q < M 13 t → (1 ≤ dX M t 0 q ∧ dX M t 0 q ≤ 2000) ∧ (1 ≤ dX M t 3 q ∧ dX M t 3 q ≤ 50) ∧ dX M t 1 q < 2 ∧ dX M t 2 q < M 1 (dX M t 1 q) := fun q hq => by
      rw [show dX M t 0 q = M 17 (80 * t + 4 * q) from ex 0 (by omega) q hq, ex 1 (by omega) q hq, ex 2 (by omega) q hq, ex 3 (by omega) q hq]
      exact i11 t ht4 q hq
    refine stp_mk2 (if allB (fun q9 => okI (dL M 1) (chI (M 3 0) (M 3 1) (dVc M) (dX M t 0) (dX M t 1) (dX M t 2) (dX M t 3) q9)) (M 13 t) = true then (mlM (fun q9 => wfR (dVc M 1) (dF M 1) (dL M 1) (chI (M 3 0) (M 3 1) (dVc M) (dX M t 0) (dX M t 1) (dX M t 2) (dX M t 3) q9).toNat (fun _ => 0) (M 1 1) kk) (fun q9 => mlA (dX M t 1) (dX M t 2) (dX M t 3) kk q9) (M 13 t)) else -1) M kp hy hM hk (LInv_mono (Nat.le_succ c) hI) (fun sz => c_X6_wanted_yes x (x + 1) (M 9 0) (M 3 0) (M 3 1) (M 8 0) (M 10 t) (M 11 t) (M 12 t / M 3 1) t (M 1) (dVc M) (dF M 1) (dL M 1) (M 13 t) kk (dX M t 0) (dX M t 1) (dX M t 2) (dX M t 3) row (by omega) rfl i7 ht i1 i3.1 i3.2 (dVc_le hI) v2 v3 v5 v4 h20 hkk hex x0 L0 L3 (tl_cn L1) (tl_vs L1) p0 p4 p5 p6 p7 p8 (L1 1 hs).1 (L1 1 hs).2.1 (L1 1 hs).2.2.1 (L1 1 hs).2.2.2 hrow) (fun r u hq => ?_) (fun u hu sz => ?_)
    · obtain ⟨hne, hr, c0⟩ := hq
      refine ⟨hr, fun j hj => hne j (by omega), Cls_scr (fun j a b d => hne j (by omega)) ?_ c0 (ex_fr x6 (hne _ (by omega))) hC⟩
      obtain ⟨rz, tb, P0, C0, q⟩ := x4
      exact ⟨rz, tb, P0, C0, makAt_fr (fun j a b => hne j (by omega)) q⟩
    · obtain ⟨b9, h19⟩ := hu.2.2.2.2.2.2.2.2.2.2.2.2.2.2.2.2.2.2.2.1
      obtain ⟨Fw0, h20'⟩ := hu.2.2.2.2.2.2.2.2.2.2.2.2.2.2.2.2.2.2.2.2.1
      obtain ⟨tk0, h21⟩ := hu.2.2.2.2.2.2.2.2.2.2.2.2.2.2.2.2.2.2.2.2.2.1
      obtain ⟨bd, h22⟩ := hu.2.2.2.2.2.2.2.2.2.2.2.2.2.2.2.2.2.2.2.2.2.2.1
      obtain ⟨po, h24⟩ := hu.2.2.2.2.2.2.2.2.2.2.2.2.2.2.2.2.2.2.2.2.2.2.2.2.1
      obtain ⟨wa, h25⟩ := hu.2.2.2.2.2.2.2.2.2.2.2.2.2.2.2.2.2.2.2.2.2.2.2.2.2.1
      refine wr_i (c_X7_wanted_yes y (M 1) (M 2) (M 3) (M 9) (M 13) (M 17) t b9 bd tk0 Fw0 (dL M 1) (tkQ (dV M 1) (M 1 1)) po wa kk (by omega) mCo mVa mRa mTl mEx ht hkk (i11 t ht4) s1 s7 (fun sm k h9 => tkQ_rng h9) hu.1 hu.2.1 hu.2.2.1 hu.2.2.2.1 hu.2.2.2.2.2.2.2.2.2.1 hu.2.2.2.2.2.2.2.2.2.2.2.2.2.1 hu.2.2.2.2.2.2.2.2.2.2.2.2.2.2.2.2.2.1 h19 h20' h21 h22 h24 h25) (fun r v h => ?_)
      obtain ⟨hne, hr, c19, c20, c21, c22, c24, c25⟩ := h
      obtain ⟨m0, m1, m2, m3, m4, m5, m6, m7, m8, m9, m10, m11, m12, m13, m14, m15, m16, m17, m18, m19, m20, m21, m22, m23, m24, m25, m26⟩ := id hu
      refine ⟨hr.trans ?_, fun j hj => hne j (by omega) (by omega) (by omega) (by omega) (by omega) (by omega), (hne _ (by omega) (by omega) (by omega) (by omega) (by omega) (by omega)).trans m0, (hne _ (by omega) (by omega) (by omega) (by omega) (by omega) (by omega)).trans m1, (hne _ (by omega) (by omega) (by omega) (by omega) (by omega) (by omega)).trans m2, (hne _ (by omega) (by omega) (by omega) (by omega) (by omega) (by omega)).trans m3, (hne _ (by omega) (by omega) (by omega) (by omega) (by omega) (by omega)).trans m4, (hne _ (by omega) (by omega) (by omega) (by omega) (by omega) (by omega)).trans m5, (hne _ (by omega) (by omega) (by omega) (by omega) (by omega) (by omega)).trans m6, (hne _ (by omega) (by omega) (by omega) (by omega) (by omega) (by omega)).trans m7, (hne _ (by omega) (by omega) (by omega) (by omega) (by omega) (by omega)).trans m8, (hne _ (by omega) (by omega) (by omega) (by omega) (by omega) (by omega)).trans m9, (hne _ (by omega) (by omega) (by omega) (by omega) (by omega) (by omega)).trans m10, (hne _ (by omega) (by omega) (by omega) (by omega) (by omega) (by omega)).trans m11, (hne _ (by omega) (by omega) (by omega) (by omega) (by omega) (by omega)).trans m12, (hne _ (by omega) (by omega) (by omega) (by omega) (by omega) (by omega)).trans m13, (hne _ (by omega) (by omega) (by omega) (by omega) (by omega) (by omega)).trans m14, (hne _ (by omega) (by omega) (by omega) (by omega) (by omega) (by omega)).trans m15, (hne _ (by omega) (by omega) (by omega) (by omega) (by omega) (by omega)).trans m16, (hne _ (by omega) (by omega) (by omega) (by omega) (by omega) (by omega)).trans m17, ex_fr m18 (hne _ (by omega) (by omega) (by omega) (by omega) (by omega) (by omega)), c19, c20, c21, c22, ex_fr m23 (hne _ (by omega) (by omega) (by omega) (by omega) (by omega) (by omega)), c24, c25, (hne _ (by omega) (by omega) (by omega) (by omega) (by omega) (by omega)).trans m26⟩
      have ea : allB (fun q9 => okI (dL M 1) (chI (M 3 0) (M 3 1) (fun s1 q => M 2 (8 * s1 + q)) (fun q => M 17 (80 * t + 4 * q)) (fun q => M 17 (80 * t + 4 * q + 1)) (fun q => M 17 (80 * t + 4 * q + 2)) (fun q => M 17 (80 * t + 4 * q + 3)) q9)) (M 13 t) = allB (fun q9 => okI (dL M 1) (chI (M 3 0) (M 3 1) (dVc M) (dX M t 0) (dX M t 1) (dX M t 2) (dX M t 3) q9)) (M 13 t) := allB_c _ (fun q hq => by
        show okI (dL M 1) _ = okI (dL M 1) _
        rw [ech q hq])
      have em : mlM (fun q9 => tkQ (dV M 1) (M 1 1) (chI (M 3 0) (M 3 1) (fun s1 q => M 2 (8 * s1 + q)) (fun q => M 17 (80 * t + 4 * q)) (fun q => M 17 (80 * t + 4 * q + 1)) (fun q => M 17 (80 * t + 4 * q + 2)) (fun q => M 17 (80 * t + 4 * q + 3)) q9).toNat kk) (fun q9 => mlA (fun q => M 17 (80 * t + 4 * q + 1)) (fun q => M 17 (80 * t + 4 * q + 2)) (fun q => M 17 (80 * t + 4 * q + 3)) kk q9) (M 13 t) = mlM (fun q9 => wfR (dVc M 1) (dF M 1) (dL M 1) (chI (M 3 0) (M 3 1) (dVc M) (dX M t 0) (dX M t 1) (dX M t 2) (dX M t 3) q9).toNat (fun _ => 0) (M 1 1) kk) (fun q9 => mlA (dX M t 1) (dX M t 2) (dX M t 3) kk q9) (M 13 t) := (ml_c _ (fun q hq => ⟨by
        show tkQ (dV M 1) (M 1 1) _ kk = tkQ (dV M 1) (M 1 1) _ kk
        rw [ech q hq], (eml q hq).symm⟩)).2
      rw [ea, em]
  · exact stp_rd (-1) hy hC hM hk hI (fun sz => c_X6_wanted_no x (x + 1) (M 9 0) (M 3 0) (M 3 1) (M 8 0) (M 1) (clip 4 (M 10)) (M 11) (fun t => M 12 t / M 3 1) a1 a2 (by omega) rfl i1 i7 hT r_a1 r_a2 hv x0 L0 L3 (tl_cn L1)) (fun u hu sz => c_X7_wanted_no y (M 1) (M 9) a1 a2 (by omega) mCo mTl r_a1 r_a2 hv hu.1 hu.2.1 hu.2.2.2.2.2.2.2.2.2.1) (fun u r v hu h => mod_eq hu h)
