
theorem dTl_e {D E : Nat → Nat → Nat} {t : Nat} (h0 : D 10 t = E 10 t) (h1 : D 11 t = E 11 t) (h2 : D 12 t / D 3 1 = E 12 t / E 3 1) (h3 : D 13 t = E 13 t) (h4 : ∀ q, q < 16 → D 14 (16 * t + q) = E 14 (16 * t + q)) (h6 : ∀ q, q < 8 → D 15 (8 * t + q) = E 15 (8 * t + q)) (h7 : ∀ q, q < 80 → D 17 (80 * t + q) = E 17 (80 * t + q)) : dTl D t = dTl E t := by
  have hH : ∀ s1, s1 < 2 → dH D t s1 = dH E t s1 := fun s1 hs => clip_c fun q hq => by
    have := h4 (8 * s1 + q) (by omega)
    rw [← Nat.add_assoc] at this
    exact this
  have hX : ∀ c, c < 4 → dX D t c = dX E t c := fun c hc => clip_c fun q hq => by
    have := h7 (4 * q + c) (by omega)
    rw [← Nat.add_assoc] at this
    exact this
  funext i q
  match i with
  | 0 => exact h0
  | 1 => exact h1
  | 2 => exact h2
  | 3 => exact h3
  | 4 => exact congrFun (hH 0 (by omega)) q
  | 5 => exact congrFun (hH 1 (by omega)) q
  | 6 => exact congrFun (clip_c (n := 8) (f := fun q => D 15 (8 * t + q)) (g := fun q => E 15 (8 * t + q)) h6) q
  | 7 => exact congrFun (hX 0 (by omega)) q
  | 8 => exact congrFun (hX 1 (by omega)) q
  | 9 => exact congrFun (hX 2 (by omega)) q
  | k + 10 => exact congrFun (hX 3 (by omega)) q
def up4 (F : Nat → Nat) (X a b c d : Nat) : Nat → Nat := va_up (va_up (va_up (va_up F X a) (X + 1) b) (X + 2) c) (X + 3) d
theorem up4_0 (F : Nat → Nat) (X a b c d : Nat) : up4 F X a b c d X = a := by
  unfold up4
  rw [va_up_ne _ _ (by omega), va_up_ne _ _ (by omega), va_up_ne _ _ (by omega), va_up_self]
theorem up4_1 (F : Nat → Nat) (X a b c d : Nat) : up4 F X a b c d (X + 1) = b := by
  unfold up4
  rw [va_up_ne _ _ (by omega), va_up_ne _ _ (by omega), va_up_self]
theorem up4_2 (F : Nat → Nat) (X a b c d : Nat) : up4 F X a b c d (X + 2) = c := by
  unfold up4
  rw [va_up_ne _ _ (by omega), va_up_self]
theorem up4_3 (F : Nat → Nat) (X a b c d : Nat) : up4 F X a b c d (X + 3) = d := by
  unfold up4
  rw [va_up_self]
theorem up4_ne {F : Nat → Nat} {X a b c d k : Nat} (h : ¬ (X ≤ k ∧ k < X + 4)) : up4 F X a b c d k = F k := by
  unfold up4
  rw [va_up_ne _ _ (by omega), va_up_ne _ _ (by omega), va_up_ne _ _ (by omega), va_up_ne _ _ (by omega)]
theorem dX_up {M : Nat → Nat → Nat} {t n k v a b c d : Nat} (hn : n < 20) (hk : k < 4) (hv : up4 (M 17) (80 * t + 4 * n) a b c d (80 * t + 4 * n + k) = v) : clip 20 (fun q => up4 (M 17) (80 * t + 4 * n) a b c d (80 * t + 4 * q + k)) = va_up (dX M t k) n v := by
  unfold dX
  rw [clip_up hn]
  refine clip_c fun q hq => ?_
  by_cases e : q = n
  · rw [e, va_up_self]
    exact hv
  · rw [va_up_ne _ _ e]
    exact up4_ne (by omega)
theorem mv_ne {F : Nat → Nat} {n f t q k : Nat} (h : ¬ (n * t ≤ k ∧ k < n * t + q)) : mvF F n f t q k = F k := if_neg h
theorem mv_in {F : Nat → Nat} {n f t q k : Nat} (h : n * t ≤ k ∧ k < n * t + q) : mvF F n f t q k = F (k - n * t + n * f) := if_pos h
set_option maxHeartbeats 4000000 in
theorem k_draw {l : Launch} {G : nG} {N : Nat} {ad : Nat → Nat} {x y c : Nat} {w : Nat → va_E} (hN : N = x + 246) (hy : y = x + 219) (hc : c ≤ 600) (hS : Sd G ad x y c w) (a1 : Int) (r_a1 : -2147483648 ≤ a1 ∧ a1 < 2147483648) : StpL l G N ad x y c w yX6_draw yX7_draw wsX6_draw wsX7_draw ({ frames := 2, cells := 0, slots := 0, locals := 47 }) ({ frames := 2, cells := 0, slots := 0, locals := 47 }) [.int (iI a1)] := by
  obtain ⟨M, kp, hC, hM, hk, hI⟩ := hS
  obtain ⟨i1, i2, i3, i4, i5, i6, i7, i8, i9, i10, i11⟩ := id hI
  obtain ⟨mCo, mVa, mRa, mSl, mGo, mPr, mTi, mSt, mTl, mTs, mEx, mHa⟩ := inv_mod hc hI
  obtain ⟨x0, hL, x2, x3, x4, x5, x6, x7⟩ := id hC
  obtain ⟨L0, L1, L2, L3, L4, L5⟩ := id hL
  by_cases hv : 0 ≤ a1 ∧ a1 < (M 9 0 : Int)
  · obtain ⟨t, ht, rfl⟩ : ∃ t : Nat, t < M 9 0 ∧ a1 = (t : Int) := ⟨a1.toNat, by omega, by omega⟩
    have ht4 : t < 4 := by omega
    obtain ⟨v1, v2, v3, v4, v5, v6, v7, v8⟩ := inv_coin hI (sy := 0) (by omega)
    have e0 : sumP (dH M t 0) (dV M 0) (M 1 0) = sumP (fun q9 => M 14 (16 * t + q9)) (fun q9 => M 2 (8 * 0 + q9)) (M 1 0) := sumP_c _ (fun k hk9 => ⟨clip_at (by omega), v7 k (by omega)⟩)
    refine stpL_mk (((sumP (dH M t 0) (dV M 0) (M 1 0) : Nat) : Int) * ((M 3 0 : Nat) : Int)) (va_up (va_up M 14 (zrS (M 14) (16 * t) 8)) 16 (addF (M 16) (fun q9 => M 14 (16 * t + q9)) 8)) kp hy hM hk ?_ (fun sz => c_X6_draw_yes x (x + 1) (M 9 0) (M 3 0) (M 3 1) (M 8 0) (M 1 0) (M 10 t) (M 11 t) (M 12 t / M 3 1) t (dV M 0) (dH M t 0) (clip 8 (M 16)) (by omega) rfl i7 i3.1 i3.2 i6 v6 v1 (fun q => dHc_le hI ht4 0 q) ht x0 L0 L3 (L1 0 (by omega)).1 (L1 0 (by omega)).2.1 (L5 t ht4).1 (L5 t ht4).2.1 L4) (fun r u hq => ?_) (fun u hu sz => c_X7_draw_yes y (M 1) (M 2) (M 3) (M 9) (M 14) (M 16) t (by omega) mCo mVa mRa mTl mHa ht hu.1 hu.2.1 hu.2.2.1 hu.2.2.2.1 hu.2.2.2.2.2.2.2.2.2.1 hu.2.2.2.2.2.2.2.2.2.2.2.2.2.2.1 hu.2.2.2.2.2.2.2.2.2.2.2.2.2.2.2.2.1) (fun u r v' hu h => ?_)
    · have z0 : ∀ q, zrS (M 14) (16 * t) 8 q = 0 ∨ zrS (M 14) (16 * t) 8 q = M 14 q := fun q => by
        unfold zrS
        split
        · exact .inl rfl
        · exact .inr rfl
      refine ⟨i1, i2, i3, ⟨Nat.le_succ_of_le i4.1, i4.2⟩, i5, i6, i7, fun t ht => ⟨Nat.le_succ_of_le (i8 t ht).1, (i8 t ht).2⟩, fun q hq => ?_, fun t' ht' ht2 => ?_, i11⟩
      · show zrS (M 14) (16 * t) 8 q ≤ 1000
        have h9 := i9 q hq
        rcases z0 q with h | h <;> omega
      · have h9 := i10 t' ht' ht2
        refine ⟨h9.1, h9.2.1, h9.2.2.1, h9.2.2.2.1, fun q hq => ?_, h9.2.2.2.2.2⟩
        show zrS (M 14) (16 * t) 8 (16 * t' + q) = 0
        have h8 := h9.2.2.2.2.1 q hq
        rcases z0 (16 * t' + q) with h | h <;> omega
    · obtain ⟨hne, hr, c0, c1⟩ := hq
      refine ⟨hr, fun j hj => hne j (by omega) (by omega), Cls_land (fun j a b d => hne j (by omega) (by omega)) ⟨(hne _ (by omega) (by omega)).trans L0, fun k hk => coinAt_fr (fun j a b => hne j (by omega) (by omega)) (L1 k hk), goodAt_fr (fun j a b => hne j (by omega) (by omega)) L2, (hne _ (by omega) (by omega)).trans L3, ?_, fun t' ht' => ?_⟩ (Hi_up (Hi_up (Hi_r M) (fun q hq => ?_)) (fun q hq => ?_)) hC⟩
      · refine c1.trans (congrArg (aI G 8) (funext fun q => ?_))
        show ((addF (clip 8 (M 16)) (dH M t 0) 8 q : Nat) : Int) = (clip 8 (addF (M 16) (fun q9 => M 14 (16 * t + q9)) 8) q : Int)
        by_cases hq8 : q < 8
        · rw [clip_at hq8]
          unfold addF
          rw [if_pos hq8, if_pos hq8, clip_at hq8, show dH M t 0 q = M 14 (16 * t + q) from clip_at hq8]
        · unfold addF clip
          rw [if_neg hq8, if_neg hq8, if_neg hq8]
      · by_cases e : t' = t
        · subst e
          obtain ⟨p0, p1, p2, p3, p4, p5, p6, p7, p8⟩ := L5 t' ht'
          have e5 : dH (va_up (va_up M 14 (zrS (M 14) (16 * t') 8)) 16 (addF (M 16) (fun q9 => M 14 (16 * t' + q9)) 8)) t' 1 = dH M t' 1 := clip_c fun q hq => by
            show zrS (M 14) (16 * t') 8 (16 * t' + 8 * 1 + q) = M 14 (16 * t' + 8 * 1 + q)
            exact if_neg (by omega)
          refine ⟨(hne _ (by omega) (by omega)).trans p0, ?_, ?_, (hne _ (by omega) (by omega)).trans p3, (hne _ (by omega) (by omega)).trans p4, (hne _ (by omega) (by omega)).trans p5, (hne _ (by omega) (by omega)).trans p6, (hne _ (by omega) (by omega)).trans p7, (hne _ (by omega) (by omega)).trans p8⟩
          · refine c0.trans (congrArg (aI G 8) (funext fun q => ?_))
            show ((zrF (dH M t' 0) 8 q : Nat) : Int) = (clip 8 (fun q => zrS (M 14) (16 * t') 8 (16 * t' + 8 * 0 + q)) q : Int)
            by_cases hq8 : q < 8
            · rw [clip_at hq8]
              unfold zrF zrS
              rw [if_pos hq8, if_pos (by omega)]
            · unfold zrF dH clip
              rw [if_neg hq8, if_neg hq8, if_neg hq8]
          · show u _ = aI G 8 (fun q => (dH _ t' 1 q : Int))
            rw [e5]
            exact (hne _ (by omega) (by omega)).trans p2
        · rw [show dTl (va_up (va_up M 14 (zrS (M 14) (16 * t) 8)) 16 (addF (M 16) (fun q9 => M 14 (16 * t + q9)) 8)) t' = dTl M t' from dTl_e rfl rfl rfl rfl (fun q hq => if_neg (by omega)) (fun _ _ => rfl) (fun _ _ => rfl)]
          exact tillAt_fr (fun j a b => hne j (by omega) (by omega)) (L5 t' ht')
      · have : 64 ≤ q := hq
        exact if_neg (by omega)
      · have : 8 ≤ q := hq
        exact if_neg (by omega)
    · obtain ⟨hne, hr, c3, c4⟩ := h
      obtain ⟨m0, m1, m2, m3, m4, m5, m6, m7, m8, m9, m10, m11, m12, m13, m14, m15, m16, m17, m18, m19, m20, m21, m22, m23, m24, m25, m26⟩ := id hu
      exact ⟨by rw [e0]; exact hr, fun j hj => hne j (by omega) (by omega), (hne _ (by omega) (by omega)).trans m0, (hne _ (by omega) (by omega)).trans m1, (hne _ (by omega) (by omega)).trans m2, (hne _ (by omega) (by omega)).trans m3, (hne _ (by omega) (by omega)).trans m4, (hne _ (by omega) (by omega)).trans m5, (hne _ (by omega) (by omega)).trans m6, (hne _ (by omega) (by omega)).trans m7, (hne _ (by omega) (by omega)).trans m8, (hne _ (by omega) (by omega)).trans m9, (hne _ (by omega) (by omega)).trans m10, (hne _ (by omega) (by omega)).trans m11, (hne _ (by omega) (by omega)).trans m12, (hne _ (by omega) (by omega)).trans m13, c3, (hne _ (by omega) (by omega)).trans m15, c4, (hne _ (by omega) (by omega)).trans m17, ex_fr m18 (hne _ (by omega) (by omega)), ex_fr m19 (hne _ (by omega) (by omega)), ex_fr m20 (hne _ (by omega) (by omega)), ex_fr m21 (hne _ (by omega) (by omega)), ex_fr m22 (hne _ (by omega) (by omega)), ex_fr m23 (hne _ (by omega) (by omega)), ex_fr m24 (hne _ (by omega) (by omega)), ex_fr m25 (hne _ (by omega) (by omega)), (hne _ (by omega) (by omega)).trans m26⟩
  · exact stpL_rd (-1) hy hC hM hk hI (fun sz => c_X6_draw_no x (x + 1) (M 9 0) (M 3 0) (M 3 1) (M 8 0) a1 (by omega) rfl i7 r_a1 hv x0 L0) (fun u hu sz => c_X7_draw_no y (M 9) a1 (by omega) mTl r_a1 hv hu.1 hu.2.2.2.2.2.2.2.2.2.1) (fun u r v hu h => mod_eq hu h)
set_option maxHeartbeats 4000000 in
theorem k_forget {l : Launch} {G : nG} {N : Nat} {ad : Nat → Nat} {x y c : Nat} {w : Nat → va_E} (hN : N = x + 246) (hy : y = x + 219) (hc : c ≤ 600) (hS : Sd G ad x y c w) (a1 : Int) (r_a1 : -2147483648 ≤ a1 ∧ a1 < 2147483648) : StpI l G N ad x y c w yX6_forget yX7_forget wsX6_forget wsX7_forget ({ frames := 2, cells := 0, slots := 0, locals := 43 }) ({ frames := 2, cells := 0, slots := 0, locals := 43 }) [.int (iI a1)] := by
  obtain ⟨M, kp, hC, hM, hk, hI⟩ := hS
  obtain ⟨i1, i2, i3, i4, i5, i6, i7, i8, i9, i10, i11⟩ := id hI
  obtain ⟨mCo, mVa, mRa, mSl, mGo, mPr, mTi, mSt, mTl, mTs, mEx, mHa⟩ := inv_mod hc hI
  obtain ⟨x0, hL, x2, x3, x4, x5, x6, x7⟩ := id hC
  obtain ⟨L0, L1, L2, L3, L4, L5⟩ := id hL
  by_cases hv : 0 ≤ a1 ∧ a1 < (M 9 0 : Int)
  · obtain ⟨t, ht, rfl⟩ : ∃ t : Nat, t < M 9 0 ∧ a1 = (t : Int) := ⟨a1.toNat, by omega, by omega⟩
    have ht4 : t < 4 := by omega
    refine stp_mk 1 (va_up M 13 (va_up (M 13) t 0)) kp hy hM hk ?_ (fun sz => c_X6_forget_yes x (x + 1) (M 9 0) (M 3 0) (M 3 1) (M 8 0) (M 10 t) (M 11 t) (M 12 t / M 3 1) (M 13 t) t (by omega) rfl i7 ht x0 L0 L3 (L5 t ht4).1 (L5 t ht4).2.2.2.2.1) (fun r u hq => ?_) (fun u hu sz => c_X7_forget_yes y (M 9) (M 13) t (by omega) mTl mEx ht hu.1 hu.2.2.2.2.2.2.2.2.2.1 hu.2.2.2.2.2.2.2.2.2.2.2.2.2.1) (fun u r v' hu h => ?_)
    · refine ⟨i1, i2, i3, ⟨Nat.le_succ_of_le i4.1, i4.2⟩, i5, i6, i7, fun t' ht' => ?_, i9, fun t' ht' ht2 => ?_, fun t' ht' q hq => ?_⟩
      · have h9 := i8 t' ht'
        exact ⟨Nat.le_succ_of_le h9.1, up_le h9.2.1 (by omega), h9.2.2⟩
      · have h9 := i10 t' ht' ht2
        exact ⟨h9.1, h9.2.1, h9.2.2.1, Nat.le_zero.mp (up_le (B := 0) (by omega) (by omega)), h9.2.2.2.2⟩
      · have hq : q < va_up (M 13) t 0 t' := hq
        by_cases e : t' = t
        · rw [e, va_up_self] at hq
          omega
        · rw [va_up_ne _ _ e] at hq
          exact i11 t' ht' q hq
    · obtain ⟨hne, hr, c0⟩ := hq
      refine ⟨hr, fun j hj => hne j (by omega), Cls_land (fun j a b d => hne j (by omega)) ⟨(hne _ (by omega)).trans L0, fun k hk => coinAt_fr (fun j a b => hne j (by omega)) (L1 k hk), goodAt_fr (fun j a b => hne j (by omega)) L2, (hne _ (by omega)).trans L3, (hne _ (by omega)).trans L4, fun t' ht' => ?_⟩ (Hi_up (Hi_r M) (Hi_1 (by show _ < 4; omega))) hC⟩
      by_cases e : t' = t
      · subst e
        obtain ⟨p0, p1, p2, p3, p4, p5, p6, p7, p8⟩ := L5 t' ht'
        refine ⟨(hne _ (by omega)).trans p0, (hne _ (by omega)).trans p1, (hne _ (by omega)).trans p2, (hne _ (by omega)).trans p3, ?_, (hne _ (by omega)).trans p5, (hne _ (by omega)).trans p6, (hne _ (by omega)).trans p7, (hne _ (by omega)).trans p8⟩
        show u _ = .inr (2, [.int (iI ((va_up (M 13) t' 0 t' : Nat) : Int)), _, _, _, _])
        rw [va_up_self]
        exact c0
      · rw [show dTl (va_up M 13 (va_up (M 13) t 0)) t' = dTl M t' from dTl_e rfl rfl rfl (va_up_ne _ _ e) (fun _ _ => rfl) (fun _ _ => rfl) (fun _ _ => rfl)]
        exact tillAt_fr (fun j a b => hne j (by omega)) (L5 t' ht')
    · obtain ⟨hne, hr, c3⟩ := h
      obtain ⟨m0, m1, m2, m3, m4, m5, m6, m7, m8, m9, m10, m11, m12, m13, m14, m15, m16, m17, m18, m19, m20, m21, m22, m23, m24, m25, m26⟩ := id hu
      exact ⟨hr, fun j hj => hne j (by omega), (hne _ (by omega)).trans m0, (hne _ (by omega)).trans m1, (hne _ (by omega)).trans m2, (hne _ (by omega)).trans m3, (hne _ (by omega)).trans m4, (hne _ (by omega)).trans m5, (hne _ (by omega)).trans m6, (hne _ (by omega)).trans m7, (hne _ (by omega)).trans m8, (hne _ (by omega)).trans m9, (hne _ (by omega)).trans m10, (hne _ (by omega)).trans m11, (hne _ (by omega)).trans m12, c3, (hne _ (by omega)).trans m14, (hne _ (by omega)).trans m15, (hne _ (by omega)).trans m16, (hne _ (by omega)).trans m17, ex_fr m18 (hne _ (by omega)), ex_fr m19 (hne _ (by omega)), ex_fr m20 (hne _ (by omega)), ex_fr m21 (hne _ (by omega)), ex_fr m22 (hne _ (by omega)), ex_fr m23 (hne _ (by omega)), ex_fr m24 (hne _ (by omega)), ex_fr m25 (hne _ (by omega)), (hne _ (by omega)).trans m26⟩
  · exact stp_rd 0 hy hC hM hk hI (fun sz => c_X6_forget_no x (x + 1) (M 9 0) (M 3 0) (M 3 1) (M 8 0) a1 (by omega) rfl i7 r_a1 hv x0 L0) (fun u hu sz => c_X7_forget_no y (M 9) a1 (by omega) mTl r_a1 hv hu.1 hu.2.2.2.2.2.2.2.2.2.1) (fun u r v hu h => mod_eq hu h)
set_option maxHeartbeats 4000000 in
theorem k_expect {l : Launch} {G : nG} {N : Nat} {ad : Nat → Nat} {x y c : Nat} {w : Nat → va_E} (hN : N = x + 246) (hy : y = x + 219) (hc : c ≤ 600) (hS : Sd G ad x y c w) (a1 : Int) (a2 : Int) (a3 : Int) (a4 : Int) (a5 : Int) (r_a1 : -2147483648 ≤ a1 ∧ a1 < 2147483648) (r_a2 : -2147483648 ≤ a2 ∧ a2 < 2147483648) (r_a3 : -2147483648 ≤ a3 ∧ a3 < 2147483648) (r_a4 : -2147483648 ≤ a4 ∧ a4 < 2147483648) (r_a5 : -2147483648 ≤ a5 ∧ a5 < 2147483648) : StpI l G N ad x y c w yX6_expect yX7_expect wsX6_expect wsX7_expect ({ frames := 4, cells := 0, slots := 0, locals := 90 }) ({ frames := 3, cells := 0, slots := 0, locals := 69 }) [.int (iI a1), .int (iI a2), .int (iI a3), .int (iI a4), .int (iI a5)] := by
  obtain ⟨M, kp, hC, hM, hk, hI⟩ := hS
  obtain ⟨i1, i2, i3, i4, i5, i6, i7, i8, i9, i10, i11⟩ := id hI
  obtain ⟨mCo, mVa, mRa, mSl, mGo, mPr, mTi, mSt, mTl, mTs, mEx, mHa⟩ := inv_mod hc hI
  obtain ⟨x0, hL, x2, x3, x4, x5, x6, x7⟩ := id hC
  obtain ⟨L0, L1, L2, L3, L4, L5⟩ := id hL
  have hT := tl_T L5
  have hE := tl_E L5
  have hen : ∀ k, clip 4 (M 13) k ≤ 20 := clip_le fun q hq => (i8 q hq).2.1
  by_cases hv : ((0 ≤ a1 ∧ a1 < (M 9 0 : Int)) ∧ ((1 ≤ a2 ∧ a2 ≤ 2000) ∧ (1 ≤ a5 ∧ a5 ≤ 50) ∧ (a3 = 0 ∨ a3 = 1) ∧ (0 ≤ a4 ∧ a4 < (M 1 a3.toNat : Int)))) ∧ ¬ M 13 a1.toNat = 20
  · obtain ⟨hv, hfull⟩ := hv
    obtain ⟨t, ht, rfl⟩ : ∃ t : Nat, t < M 9 0 ∧ a1 = (t : Int) := ⟨a1.toNat, by omega, by omega⟩
    obtain ⟨a, ha, rfl⟩ : ∃ a : Nat, (1 ≤ a ∧ a ≤ 2000) ∧ a2 = (a : Int) := ⟨a2.toNat, by omega, by omega⟩
    obtain ⟨sy, hs, rfl⟩ : ∃ sy : Nat, sy < 2 ∧ a3 = (sy : Int) := ⟨a3.toNat, by omega, by omega⟩
    obtain ⟨kk, hkk, rfl⟩ : ∃ kk : Nat, kk < M 1 sy ∧ a4 = (kk : Int) := ⟨a4.toNat, by have h9 := hv.2.2.2.2; rw [Int.toNat_natCast] at h9; omega, by omega⟩
    obtain ⟨n5, hn5, rfl⟩ : ∃ n5 : Nat, (1 ≤ n5 ∧ n5 ≤ 50) ∧ a5 = (n5 : Int) := ⟨a5.toNat, by omega, by omega⟩
    have ht4 : t < 4 := by omega
    have hk8 := i1 sy hs
    rw [Int.toNat_natCast] at hfull
    have h20 : M 13 t < 20 := by have := (i8 t ht4).2.1; omega
    refine stp_mk ((M 13 t + 1 : Nat) : Int) (va_up (va_up M 13 (va_up (M 13) t (M 13 t + 1))) 17 (up4 (M 17) (80 * t + 4 * M 13 t) a sy kk n5)) kp hy hM hk ?_ (fun sz => c_X6_expect_yes x (x + 1) (M 9 0) (M 3 0) (M 3 1) (M 8 0) (M 1) (M 10 t) (M 11 t) (M 12 t / M 3 1) (M 13 t) t sy kk a n5 (dX M t 0) (dX M t 1) (dX M t 2) (dX M t 3) (by omega) rfl i1 i7 ht hs hkk ha hn5 h20 x0 L0 L3 (tl_cn L1) (L5 t ht4).1 (L5 t ht4).2.2.2.2.1 (L5 t ht4).2.2.2.2.2.1 (L5 t ht4).2.2.2.2.2.2.1 (L5 t ht4).2.2.2.2.2.2.2.1 (L5 t ht4).2.2.2.2.2.2.2.2) (fun r u hq => ?_) (fun u hu sz => c_X7_expect_yes y (M 1) (M 9) (M 13) (M 17) t sy kk a n5 (by omega) mCo mTl mEx ht hs hkk ha hn5 h20 hu.1 hu.2.1 hu.2.2.2.2.2.2.2.2.2.1 hu.2.2.2.2.2.2.2.2.2.2.2.2.2.1 hu.2.2.2.2.2.2.2.2.2.2.2.2.2.2.2.2.2.1) (fun u r v' hu h => ?_)
    · refine ⟨i1, i2, i3, ⟨Nat.le_succ_of_le i4.1, i4.2⟩, i5, i6, i7, fun t' ht' => ?_, i9, fun t' ht' ht2 => ?_, fun t' ht' q hq => ?_⟩
      · have h9 := i8 t' ht'
        exact ⟨Nat.le_succ_of_le h9.1, up_le h9.2.1 (by omega), h9.2.2⟩
      · have h9 := i10 t' ht' ht2
        have h8 : M 9 0 ≤ t' := ht2
        exact ⟨h9.1, h9.2.1, h9.2.2.1, (va_up_ne _ _ (by omega)).trans h9.2.2.2.1, h9.2.2.2.2⟩
      · have hq : q < va_up (M 13) t (M 13 t + 1) t' := hq
        have h20' := (i8 t' ht').2.1
        show (1 ≤ up4 _ _ _ _ _ _ (80 * t' + 4 * q) ∧ up4 _ _ _ _ _ _ (80 * t' + 4 * q) ≤ 2000) ∧ (1 ≤ up4 _ _ _ _ _ _ (80 * t' + 4 * q + 3) ∧ up4 _ _ _ _ _ _ (80 * t' + 4 * q + 3) ≤ 50) ∧ up4 _ _ _ _ _ _ (80 * t' + 4 * q + 1) < 2 ∧ up4 _ _ _ _ _ _ (80 * t' + 4 * q + 2) < M 1 (up4 _ _ _ _ _ _ (80 * t' + 4 * q + 1))
        by_cases e : t' = t ∧ q = M 13 t
        · obtain ⟨rfl, rfl⟩ := e
          rw [up4_0, up4_1, up4_2, up4_3]
          exact ⟨ha, hn5, hs, hkk⟩
        · have hq2 : q < M 13 t' := by
            by_cases e1 : t' = t
            · subst e1
              rw [va_up_self] at hq
              have : q ≠ M 13 t' := fun h9 => e ⟨rfl, h9⟩
              omega
            · rw [va_up_ne _ _ e1] at hq
              exact hq
          have hx : ∀ k, k < 4 → up4 (M 17) (80 * t + 4 * M 13 t) a sy kk n5 (80 * t' + 4 * q + k) = M 17 (80 * t' + 4 * q + k) := fun k hk4 => up4_ne (by omega)
          rw [show up4 (M 17) (80 * t + 4 * M 13 t) a sy kk n5 (80 * t' + 4 * q) = M 17 (80 * t' + 4 * q) from hx 0 (by omega), hx 1 (by omega), hx 2 (by omega), hx 3 (by omega)]
          exact i11 t' ht' q hq2
    · obtain ⟨hne, hr, c0, c1, c2, c3, c4⟩ := hq
      refine ⟨hr.trans (by omega), fun j hj => hne j (by omega) (by omega) (by omega) (by omega) (by omega), Cls_land (fun j a b d => hne j (by omega) (by omega) (by omega) (by omega) (by omega)) ⟨(hne _ (by omega) (by omega) (by omega) (by omega) (by omega)).trans L0, fun k hk => coinAt_fr (fun j a b => hne j (by omega) (by omega) (by omega) (by omega) (by omega)) (L1 k hk), goodAt_fr (fun j a b => hne j (by omega) (by omega) (by omega) (by omega) (by omega)) L2, (hne _ (by omega) (by omega) (by omega) (by omega) (by omega)).trans L3, (hne _ (by omega) (by omega) (by omega) (by omega) (by omega)).trans L4, fun t' ht' => ?_⟩ (Hi_up (Hi_up (Hi_r M) (Hi_1 (by show _ < 4; omega))) (fun q hq => ?_)) hC⟩
      · by_cases e : t' = t
        · subst e
          obtain ⟨p0, p1, p2, p3, p4, p5, p6, p7, p8⟩ := L5 t' ht'
          refine ⟨(hne _ (by omega) (by omega) (by omega) (by omega) (by omega)).trans p0, (hne _ (by omega) (by omega) (by omega) (by omega) (by omega)).trans p1, (hne _ (by omega) (by omega) (by omega) (by omega) (by omega)).trans p2, (hne _ (by omega) (by omega) (by omega) (by omega) (by omega)).trans p3, ?_, ?_, ?_, ?_, ?_⟩
          · show u _ = .inr (2, [.int (iI ((va_up (M 13) t' (M 13 t' + 1) t' : Nat) : Int)), _, _, _, _])
            rw [va_up_self]
            exact c0
          · show u _ = aI G 20 (fun q => (clip 20 (fun q => up4 (M 17) (80 * t' + 4 * M 13 t') a sy kk n5 (80 * t' + 4 * q + 0)) q : Int))
            rw [dX_up h20 (by omega) (up4_0 _ _ _ _ _ _)]
            exact c1
          · show u _ = aI G 20 (fun q => (clip 20 (fun q => up4 (M 17) (80 * t' + 4 * M 13 t') a sy kk n5 (80 * t' + 4 * q + 1)) q : Int))
            rw [dX_up h20 (by omega) (up4_1 _ _ _ _ _ _)]
            exact c2
          · show u _ = aI G 20 (fun q => (clip 20 (fun q => up4 (M 17) (80 * t' + 4 * M 13 t') a sy kk n5 (80 * t' + 4 * q + 2)) q : Int))
            rw [dX_up h20 (by omega) (up4_2 _ _ _ _ _ _)]
            exact c3
          · show u _ = aI G 20 (fun q => (clip 20 (fun q => up4 (M 17) (80 * t' + 4 * M 13 t') a sy kk n5 (80 * t' + 4 * q + 3)) q : Int))
            rw [dX_up h20 (by omega) (up4_3 _ _ _ _ _ _)]
            exact c4
        · rw [show dTl (va_up (va_up M 13 (va_up (M 13) t (M 13 t + 1))) 17 (up4 (M 17) (80 * t + 4 * M 13 t) a sy kk n5)) t' = dTl M t' from dTl_e rfl rfl rfl (va_up_ne _ _ e) (fun _ _ => rfl) (fun _ _ => rfl) (fun q hq => up4_ne (by omega))]
          exact tillAt_fr (fun j a b => hne j (by omega) (by omega) (by omega) (by omega) (by omega)) (L5 t' ht')
      · have : 320 ≤ q := hq
        exact up4_ne (by omega)
    · obtain ⟨hne, hr, c3, c4⟩ := h
      obtain ⟨m0, m1, m2, m3, m4, m5, m6, m7, m8, m9, m10, m11, m12, m13, m14, m15, m16, m17, m18, m19, m20, m21, m22, m23, m24, m25, m26⟩ := id hu
      exact ⟨hr, fun j hj => hne j (by omega) (by omega), (hne _ (by omega) (by omega)).trans m0, (hne _ (by omega) (by omega)).trans m1, (hne _ (by omega) (by omega)).trans m2, (hne _ (by omega) (by omega)).trans m3, (hne _ (by omega) (by omega)).trans m4, (hne _ (by omega) (by omega)).trans m5, (hne _ (by omega) (by omega)).trans m6, (hne _ (by omega) (by omega)).trans m7, (hne _ (by omega) (by omega)).trans m8, (hne _ (by omega) (by omega)).trans m9, (hne _ (by omega) (by omega)).trans m10, (hne _ (by omega) (by omega)).trans m11, (hne _ (by omega) (by omega)).trans m12, c3, (hne _ (by omega) (by omega)).trans m14, (hne _ (by omega) (by omega)).trans m15, (hne _ (by omega) (by omega)).trans m16, c4, ex_fr m18 (hne _ (by omega) (by omega)), ex_fr m19 (hne _ (by omega) (by omega)), ex_fr m20 (hne _ (by omega) (by omega)), ex_fr m21 (hne _ (by omega) (by omega)), ex_fr m22 (hne _ (by omega) (by omega)), ex_fr m23 (hne _ (by omega) (by omega)), ex_fr m24 (hne _ (by omega) (by omega)), ex_fr m25 (hne _ (by omega) (by omega)), (hne _ (by omega) (by omega)).trans m26⟩
  · exact stp_rd (-1) hy hC hM hk hI (fun sz => c_X6_expect_no x (x + 1) (M 9 0) (M 3 0) (M 3 1) (M 8 0) (M 1) (clip 4 (M 10)) (M 11) (fun t => M 12 t / M 3 1) (clip 4 (M 13)) a1 a2 a3 a4 a5 (by omega) rfl i1 i7 hT hE hen r_a1 r_a2 r_a3 r_a4 r_a5 (fun h9 => hv ⟨⟨h9.1, h9.2.1⟩, by have h8 := h9.2.2; rw [clip_at (by have := h9.1; omega)] at h8; exact h8⟩) x0 L0 L3 (tl_cn L1)) (fun u hu sz => c_X7_expect_no y (M 1) (M 9) (M 13) a1 a2 a3 a4 a5 (by omega) mCo mTl mEx r_a1 r_a2 r_a3 r_a4 r_a5 hv hu.1 hu.2.1 hu.2.2.2.2.2.2.2.2.2.1 hu.2.2.2.2.2.2.2.2.2.2.2.2.2.1) (fun u r v hu h => mod_eq hu h)
set_option maxHeartbeats 4000000 in
theorem k_image {l : Launch} {G : nG} {N : Nat} {ad : Nat → Nat} {x y c : Nat} {w : Nat → va_E} (hN : N = x + 246) (hy : y = x + 219) (hc : c ≤ 600) (hS : Sd G ad x y c w) (a1 : Int) (r_a1 : -2147483648 ≤ a1 ∧ a1 < 2147483648) : StpI l G N ad x y c w yX6_image yX7_image wsX6_image wsX7_image ({ frames := 4, cells := 0, slots := 0, locals := 82 }) ({ frames := 2, cells := 0, slots := 0, locals := 47 }) [.int (iI a1)] := by
  obtain ⟨M, kp, hC, hM, hk, hI⟩ := hS
  obtain ⟨i1, i2, i3, i4, i5, i6, i7, i8, i9, i10, i11⟩ := id hI
  obtain ⟨mCo, mVa, mRa, mSl, mGo, mPr, mTi, mSt, mTl, mTs, mEx, mHa⟩ := inv_mod hc hI
  obtain ⟨x0, hL, x2, x3, x4, x5, x6, x7⟩ := id hC
  obtain ⟨L0, L1, L2, L3, L4, L5⟩ := id hL
  by_cases hv : 0 ≤ a1 ∧ a1 ≤ 2
  · obtain ⟨k0, hk0, rfl⟩ : ∃ k0 : Nat, k0 < 3 ∧ a1 = (k0 : Int) := ⟨a1.toNat, by omega, by omega⟩
    obtain ⟨D1, hD1, -⟩ := x7 k0 hk0
    have hag : Agr M (fun tag => mvF (M tag) (sect tag) 0 (k0 + 1) (sect tag)) := fun tag q hq => (mv_ne (by
      have : sect tag * 1 ≤ sect tag * (k0 + 1) := Nat.mul_le_mul_left _ (by omega)
      omega)).symm
    refine stp_mk 1 (fun tag => mvF (M tag) (sect tag) 0 (k0 + 1) (sect tag)) (va_up kp k0 1) hy hM (fun k => up_le (hk k) (Nat.le_refl 1)) (LInv_c hag (LInv_mono (Nat.le_succ c) hI)) (fun sz => c_X6_image_yes x (x + 1) D1 M kp k0 (by omega) rfl hk0 x0 x2 x3 hL hD1) (fun r u hq => ?_) (fun u hu sz => c_X7_image_yes y (M 1) (M 2) (M 3) (M 4) (M 5) (M 6) (M 7) (M 8) (M 9) (M 10) (M 11) (M 12) (M 13) (M 14) (M 15) (M 16) (M 17) kp k0 (by omega) hk0 hu.1 hu.2.1 hu.2.2.1 hu.2.2.2.1 hu.2.2.2.2.1 hu.2.2.2.2.2.1 hu.2.2.2.2.2.2.1 hu.2.2.2.2.2.2.2.1 hu.2.2.2.2.2.2.2.2.1 hu.2.2.2.2.2.2.2.2.2.1 hu.2.2.2.2.2.2.2.2.2.2.1 hu.2.2.2.2.2.2.2.2.2.2.2.1 hu.2.2.2.2.2.2.2.2.2.2.2.2.1 hu.2.2.2.2.2.2.2.2.2.2.2.2.2.1 hu.2.2.2.2.2.2.2.2.2.2.2.2.2.2.1 hu.2.2.2.2.2.2.2.2.2.2.2.2.2.2.2.1 hu.2.2.2.2.2.2.2.2.2.2.2.2.2.2.2.2.1 hu.2.2.2.2.2.2.2.2.2.2.2.2.2.2.2.2.2.1 hu.2.2.2.2.2.2.2.2.2.2.2.2.2.2.2.2.2.2.2.2.2.2.2.2.2.2) (fun u r v' hu h => ?_)
    · obtain ⟨hne, hr, c0, c1⟩ := hq
      refine ⟨hr, fun j hj => hne j (by omega) (by omega), (hne _ (by omega) (by omega)).trans x0, LandAt_c hag (LandAt_fr (fun j a b => hne j (by omega) (by omega)) hL), (hne _ (by omega) (by omega)).trans x2, c1, ?_, ex_fr x5 (hne _ (by omega) (by omega)), ex_fr x6 (hne _ (by omega) (by omega)), fun k hk3 => ?_⟩
      · obtain ⟨rz, tb, P0, C0, q⟩ := x4
        exact ⟨rz, tb, P0, C0, makAt_fr (fun j a b => hne j (by omega) (by omega)) q⟩
      · by_cases e : k = k0
        · subst e
          refine ⟨M, c0, fun _ => ⟨fun tag q hq => ?_, LInv_mono (Nat.le_succ c) hI⟩⟩
          show M tag q = mvF (M tag) (sect tag) 0 (k + 1) (sect tag) (sect tag * (k + 1) + q)
          rw [mv_in ⟨by omega, by omega⟩]
          congr 1
          omega
        · refine Img_fr (fun j a b => hne j (by omega) (by omega)) (Nat.le_succ c) (va_up_ne _ _ e) (fun tag q hq => mv_ne ?_) (x7 k hk3)
          rcases (show k + 2 ≤ k0 + 1 ∨ k0 + 2 ≤ k + 1 by omega) with h9 | h9
          · have h8 := Nat.mul_le_mul_left (sect tag) h9
            rw [show sect tag * (k + 2) = sect tag * (k + 1) + sect tag from Nat.mul_succ _ _] at h8
            omega
          · have h8 := Nat.mul_le_mul_left (sect tag) h9
            rw [show sect tag * (k0 + 2) = sect tag * (k0 + 1) + sect tag from Nat.mul_succ _ _] at h8
            omega
    · obtain ⟨hne, hr, c1, c2, c3, c4, c5, c6, c7, c8, c9, c10, c11, c12, c13, c14, c15, c16, c17, c26⟩ := h
      obtain ⟨m0, m1, m2, m3, m4, m5, m6, m7, m8, m9, m10, m11, m12, m13, m14, m15, m16, m17, m18, m19, m20, m21, m22, m23, m24, m25, m26⟩ := id hu
      exact ⟨hr, fun j hj => hne j (by omega) (by omega) (by omega) (by omega) (by omega) (by omega) (by omega) (by omega) (by omega) (by omega) (by omega) (by omega) (by omega) (by omega) (by omega) (by omega) (by omega) (by omega), (hne _ (by omega) (by omega) (by omega) (by omega) (by omega) (by omega) (by omega) (by omega) (by omega) (by omega) (by omega) (by omega) (by omega) (by omega) (by omega) (by omega) (by omega) (by omega)).trans m0, c1, c2, c3, c4, c5, c6, c7, c8, c9, c10, c11, c12, c13, c14, c15, c16, c17, ex_fr m18 (hne _ (by omega) (by omega) (by omega) (by omega) (by omega) (by omega) (by omega) (by omega) (by omega) (by omega) (by omega) (by omega) (by omega) (by omega) (by omega) (by omega) (by omega) (by omega)), ex_fr m19 (hne _ (by omega) (by omega) (by omega) (by omega) (by omega) (by omega) (by omega) (by omega) (by omega) (by omega) (by omega) (by omega) (by omega) (by omega) (by omega) (by omega) (by omega) (by omega)), ex_fr m20 (hne _ (by omega) (by omega) (by omega) (by omega) (by omega) (by omega) (by omega) (by omega) (by omega) (by omega) (by omega) (by omega) (by omega) (by omega) (by omega) (by omega) (by omega) (by omega)), ex_fr m21 (hne _ (by omega) (by omega) (by omega) (by omega) (by omega) (by omega) (by omega) (by omega) (by omega) (by omega) (by omega) (by omega) (by omega) (by omega) (by omega) (by omega) (by omega) (by omega)), ex_fr m22 (hne _ (by omega) (by omega) (by omega) (by omega) (by omega) (by omega) (by omega) (by omega) (by omega) (by omega) (by omega) (by omega) (by omega) (by omega) (by omega) (by omega) (by omega) (by omega)), ex_fr m23 (hne _ (by omega) (by omega) (by omega) (by omega) (by omega) (by omega) (by omega) (by omega) (by omega) (by omega) (by omega) (by omega) (by omega) (by omega) (by omega) (by omega) (by omega) (by omega)), ex_fr m24 (hne _ (by omega) (by omega) (by omega) (by omega) (by omega) (by omega) (by omega) (by omega) (by omega) (by omega) (by omega) (by omega) (by omega) (by omega) (by omega) (by omega) (by omega) (by omega)), ex_fr m25 (hne _ (by omega) (by omega) (by omega) (by omega) (by omega) (by omega) (by omega) (by omega) (by omega) (by omega) (by omega) (by omega) (by omega) (by omega) (by omega) (by omega) (by omega) (by omega)), c26⟩
  · exact stp_rd 0 hy hC hM hk hI (fun sz => c_X6_image_no x (x + 1) a1 (by omega) rfl r_a1 hv x0) (fun u hu sz => c_X7_image_no y a1 (by omega) r_a1 hv hu.1) (fun u r v hu h => mod_eq hu h)
set_option maxHeartbeats 4000000 in
theorem k_again {l : Launch} {G : nG} {N : Nat} {ad : Nat → Nat} {x y c : Nat} {w : Nat → va_E} (hN : N = x + 246) (hy : y = x + 219) (hc : c ≤ 600) (hS : Sd G ad x y c w) (a1 : Int) (r_a1 : -2147483648 ≤ a1 ∧ a1 < 2147483648) : StpI l G N ad x y c w yX6_again yX7_again wsX6_again wsX7_again ({ frames := 4, cells := 0, slots := 0, locals := 82 }) ({ frames := 2, cells := 0, slots := 0, locals := 47 }) [.int (iI a1)] := by
  obtain ⟨M, kp, hC, hM, hk, hI⟩ := hS
  obtain ⟨i1, i2, i3, i4, i5, i6, i7, i8, i9, i10, i11⟩ := id hI
  obtain ⟨mCo, mVa, mRa, mSl, mGo, mPr, mTi, mSt, mTl, mTs, mEx, mHa⟩ := inv_mod hc hI
  obtain ⟨x0, hL, x2, x3, x4, x5, x6, x7⟩ := id hC
  obtain ⟨L0, L1, L2, L3, L4, L5⟩ := id hL
  by_cases hv : (0 ≤ a1 ∧ a1 ≤ 2) ∧ kp a1.toNat = 1
  · obtain ⟨hv, hk1⟩ := hv
    obtain ⟨k0, hk0, rfl⟩ : ∃ k0 : Nat, k0 < 3 ∧ a1 = (k0 : Int) := ⟨a1.toNat, by omega, by omega⟩
    rw [Int.toNat_natCast] at hk1
    obtain ⟨D1, hD1, hD2⟩ := x7 k0 hk0
    obtain ⟨hD3, hD4⟩ := hD2 hk1
    have hag : Agr D1 (fun tag => mvF (M tag) (sect tag) (k0 + 1) 0 (sect tag)) := fun tag q hq => by
      rw [hD3 tag q hq]
      show M tag (sect tag * (k0 + 1) + q) = mvF (M tag) (sect tag) (k0 + 1) 0 (sect tag) q
      rw [mv_in ⟨by omega, by omega⟩]
      congr 1
      omega
    refine stp_mk 1 (fun tag => mvF (M tag) (sect tag) (k0 + 1) 0 (sect tag)) kp hy hM hk (LInv_c hag (LInv_mono (Nat.le_succ c) hD4)) (fun sz => c_X6_again_yes x (x + 1) D1 M kp k0 (by omega) rfl hk0 hk hk1 x0 x2 x3 hL hD1) (fun r u hq => ?_) (fun u hu sz => c_X7_again_yes y (M 1) (M 2) (M 3) (M 4) (M 5) (M 6) (M 7) (M 8) (M 9) (M 10) (M 11) (M 12) (M 13) (M 14) (M 15) (M 16) (M 17) kp k0 (by omega) hk0 hk hk1 hu.1 hu.2.1 hu.2.2.1 hu.2.2.2.1 hu.2.2.2.2.1 hu.2.2.2.2.2.1 hu.2.2.2.2.2.2.1 hu.2.2.2.2.2.2.2.1 hu.2.2.2.2.2.2.2.2.1 hu.2.2.2.2.2.2.2.2.2.1 hu.2.2.2.2.2.2.2.2.2.2.1 hu.2.2.2.2.2.2.2.2.2.2.2.1 hu.2.2.2.2.2.2.2.2.2.2.2.2.1 hu.2.2.2.2.2.2.2.2.2.2.2.2.2.1 hu.2.2.2.2.2.2.2.2.2.2.2.2.2.2.1 hu.2.2.2.2.2.2.2.2.2.2.2.2.2.2.2.1 hu.2.2.2.2.2.2.2.2.2.2.2.2.2.2.2.2.1 hu.2.2.2.2.2.2.2.2.2.2.2.2.2.2.2.2.2.1 hu.2.2.2.2.2.2.2.2.2.2.2.2.2.2.2.2.2.2.2.2.2.2.2.2.2.2) (fun u r v' hu h => ?_)
    · obtain ⟨hne, hr, c0⟩ := hq
      refine ⟨hr, fun j hj => hne j (by omega), Cls_land (fun j a b d => hne j (by omega)) (LandAt_c hag c0) (fun tag q hq => mv_ne (by omega)) hC⟩
    · obtain ⟨hne, hr, c1, c2, c3, c4, c5, c6, c7, c8, c9, c10, c11, c12, c13, c14, c15, c16, c17⟩ := h
      obtain ⟨m0, m1, m2, m3, m4, m5, m6, m7, m8, m9, m10, m11, m12, m13, m14, m15, m16, m17, m18, m19, m20, m21, m22, m23, m24, m25, m26⟩ := id hu
      exact ⟨hr, fun j hj => hne j (by omega) (by omega) (by omega) (by omega) (by omega) (by omega) (by omega) (by omega) (by omega) (by omega) (by omega) (by omega) (by omega) (by omega) (by omega) (by omega) (by omega), (hne _ (by omega) (by omega) (by omega) (by omega) (by omega) (by omega) (by omega) (by omega) (by omega) (by omega) (by omega) (by omega) (by omega) (by omega) (by omega) (by omega) (by omega)).trans m0, c1, c2, c3, c4, c5, c6, c7, c8, c9, c10, c11, c12, c13, c14, c15, c16, c17, ex_fr m18 (hne _ (by omega) (by omega) (by omega) (by omega) (by omega) (by omega) (by omega) (by omega) (by omega) (by omega) (by omega) (by omega) (by omega) (by omega) (by omega) (by omega) (by omega)), ex_fr m19 (hne _ (by omega) (by omega) (by omega) (by omega) (by omega) (by omega) (by omega) (by omega) (by omega) (by omega) (by omega) (by omega) (by omega) (by omega) (by omega) (by omega) (by omega)), ex_fr m20 (hne _ (by omega) (by omega) (by omega) (by omega) (by omega) (by omega) (by omega) (by omega) (by omega) (by omega) (by omega) (by omega) (by omega) (by omega) (by omega) (by omega) (by omega)), ex_fr m21 (hne _ (by omega) (by omega) (by omega) (by omega) (by omega) (by omega) (by omega) (by omega) (by omega) (by omega) (by omega) (by omega) (by omega) (by omega) (by omega) (by omega) (by omega)), ex_fr m22 (hne _ (by omega) (by omega) (by omega) (by omega) (by omega) (by omega) (by omega) (by omega) (by omega) (by omega) (by omega) (by omega) (by omega) (by omega) (by omega) (by omega) (by omega)), ex_fr m23 (hne _ (by omega) (by omega) (by omega) (by omega) (by omega) (by omega) (by omega) (by omega) (by omega) (by omega) (by omega) (by omega) (by omega) (by omega) (by omega) (by omega) (by omega)), ex_fr m24 (hne _ (by omega) (by omega) (by omega) (by omega) (by omega) (by omega) (by omega) (by omega) (by omega) (by omega) (by omega) (by omega) (by omega) (by omega) (by omega) (by omega) (by omega)), ex_fr m25 (hne _ (by omega) (by omega) (by omega) (by omega) (by omega) (by omega) (by omega) (by omega) (by omega) (by omega) (by omega) (by omega) (by omega) (by omega) (by omega) (by omega) (by omega)), (hne _ (by omega) (by omega) (by omega) (by omega) (by omega) (by omega) (by omega) (by omega) (by omega) (by omega) (by omega) (by omega) (by omega) (by omega) (by omega) (by omega) (by omega)).trans m26⟩
  · exact stp_rd 0 hy hC hM hk hI (fun sz => c_X6_again_no x (x + 1) kp a1 (by omega) rfl r_a1 hk hv x0 x3) (fun u hu sz => c_X7_again_no y kp a1 (by omega) r_a1 hk hv hu.1 hu.2.2.2.2.2.2.2.2.2.2.2.2.2.2.2.2.2.2.2.2.2.2.2.2.2.2) (fun u r v hu h => mod_eq hu h)
