
noncomputable def tbC (val fal lim : Nat → Nat) (cnt sm : Nat) : Nat → Nat → Int := @dite _ (∃ tc, tbOK val fal lim cnt sm tc) (Classical.propDecidable _) (fun h => Classical.choose h) (fun _ _ _ => 0)
theorem tbC_eq {val fal lim : Nat → Nat} {cnt sm : Nat} {tb : Nat → Nat → Int} (h : tbOK val fal lim cnt sm tb) : ∀ k, k ≤ cnt → ∀ s, s ≤ sm → tb k s = tbC val fal lim cnt sm k s := by
  have h1 : ∃ tc, tbOK val fal lim cnt sm tc := ⟨tb, h⟩
  have h2 : tbOK val fal lim cnt sm (tbC val fal lim cnt sm) := by
    unfold tbC
    rw [dif_pos h1]
    exact Classical.choose_spec h1
  exact tb_uniq h h2 (fun j hj => ⟨rfl, rfl⟩)
theorem tbOK_c {val fal lim val' fal' lim' : Nat → Nat} {cnt sm : Nat} {tb : Nat → Nat → Int} (hc : ∀ j, j < cnt → val (fal j) = val' (fal' j) ∧ lim (fal j) = lim' (fal' j)) (h : tbOK val fal lim cnt sm tb) : tbOK val' fal' lim' cnt sm tb := ⟨h.1, fun k hk s1 hs => by
  have h2 := hc (cnt - 1 - k) (by omega)
  rw [← h2.1, ← h2.2]
  exact h.2 k hk s1 hs⟩
theorem wr_eq {val fal lim val' fal' lim' : Nat → Nat} {cnt sm : Nat} {tb tb' : Nat → Nat → Int} {rz rz' : Nat → Nat} {k : Nat} (ht : ∀ k, k ≤ cnt → ∀ s, s ≤ sm → tb k s = tb' k s) (hc : ∀ j, j < cnt → val (fal j) = val' (fal' j) ∧ lim (fal j) = lim' (fal' j)) (hf : ∀ j, j < cnt → fal j = fal' j) (hk : ∃ j, j < cnt ∧ fal j = k) : wrM tb val fal lim cnt sm rz cnt k = wrM tb' val' fal' lim' cnt sm rz' cnt k := wrM_c hf (wrL_c ht hc cnt (Nat.le_refl _)).2 cnt (Nat.le_refl _) hk
theorem wrM_no {tb : Nat → Nat → Int} {val fal lim : Nat → Nat} {cnt sm : Nat} {rz : Nat → Nat} {k : Nat} : ∀ n, (∀ j, j < n → fal j ≠ k) → wrM tb val fal lim cnt sm rz n k = rz k
  | 0, _ => rfl
  | n + 1, h => by
    show va_up (wrM tb val fal lim cnt sm rz n) (fal n) _ k = rz k
    rw [va_up_ne _ _ (fun e => h n (by omega) e.symm)]
    exact wrM_no n (fun j hj => h j (by omega))
set_option maxHeartbeats 4000000 in
theorem k_sale {l : Launch} {G : nG} {N : Nat} {ad : Nat → Nat} {x y c : Nat} {w : Nat → va_E} (hN : N = x + 246) (hy : y = x + 219) (hc : c ≤ 600) (hS : Sd G ad x y c w) (a1 : Int) (a2 : Int) (a3 : Int) (a4 : Int) (a5 : Int) (r_a1 : -2147483648 ≤ a1 ∧ a1 < 2147483648) (r_a2 : -2147483648 ≤ a2 ∧ a2 < 2147483648) (r_a3 : -2147483648 ≤ a3 ∧ a3 < 2147483648) (r_a4 : -2147483648 ≤ a4 ∧ a4 < 2147483648) (r_a5 : -2147483648 ≤ a5 ∧ a5 < 2147483648) : StpI l G N ad x y c w yX6_sale yX7_sale wsX6_sale wsX7_sale ({ frames := 4, cells := 0, slots := 0, locals := 104 }) ({ frames := 3, cells := 0, slots := 0, locals := 69 }) [.int (iI a1), .int (iI a2), .int (iI a3), .int (iI a4), .int (iI a5)] := by
  obtain ⟨M, kp, hC, hM, hk, hI⟩ := hS
  obtain ⟨i1, i2, i3, i4, i5, i6, i7, i8, i9, i10, i11⟩ := id hI
  obtain ⟨mCo, mVa, mRa, mSl, mGo, mPr, mTi, mSt, mTl, mTs, mEx, mHa⟩ := inv_mod hc hI
  obtain ⟨x0, hL, x2, x3, x4, x5, x6, x7⟩ := id hC
  obtain ⟨L0, L1, L2, L3, L4, L5⟩ := id hL
  have hT := tl_T L5
  by_cases hv : (0 ≤ a1 ∧ a1 < (M 9 0 : Int)) ∧ ((1 ≤ a2 ∧ a2 ≤ 2000) ∧ (1 ≤ a5 ∧ a5 ≤ 50) ∧ (a3 = 0 ∨ a3 = 1) ∧ (0 ≤ a4 ∧ a4 < (M 1 a3.toNat : Int)))
  · obtain ⟨t, ht, rfl⟩ : ∃ t : Nat, t < M 9 0 ∧ a1 = (t : Int) := ⟨a1.toNat, by omega, by omega⟩
    obtain ⟨a, ha, rfl⟩ : ∃ a : Nat, (1 ≤ a ∧ a ≤ 2000) ∧ a2 = (a : Int) := ⟨a2.toNat, by omega, by omega⟩
    obtain ⟨sy, hs, rfl⟩ : ∃ sy : Nat, sy < 2 ∧ a3 = (sy : Int) := ⟨a3.toNat, by omega, by omega⟩
    obtain ⟨kk, hkk, rfl⟩ : ∃ kk : Nat, kk < M 1 sy ∧ a4 = (kk : Int) := ⟨a4.toNat, by have h9 := hv.2.2.2.2; rw [Int.toNat_natCast] at h9; omega, by omega⟩
    obtain ⟨n5, hn5, rfl⟩ : ∃ n5 : Nat, (1 ≤ n5 ∧ n5 ≤ 50) ∧ a5 = (n5 : Int) := ⟨a5.toNat, by omega, by omega⟩
    have ht4 : t < 4 := by omega
    have hk8 := i1 sy hs
    have ev : dVc M sy kk = M 2 (8 * sy + kk) := by
      unfold dVc
      rw [if_pos hs]
      exact clip_at (by omega)
    have eh : dHc M t sy kk = M 14 (16 * t + 8 * sy + kk) := dHc_at hs (by omega)
    by_cases hno : ((n5 : Nat) : Int) * (M 2 (8 * sy + kk) : Int) * ((if sy = 0 then M 3 0 else M 3 1 : Nat) : Int) - ((a : Nat) : Int) * ((M 3 1 : Nat) : Int) < 0 ∨ 1000 < M 14 (16 * t + 8 * sy + kk) + n5
    · exact stp_rd (-1) hy hC hM hk hI (fun sz => c_X6_sale_ref x (x + 1) (M 9 0) (M 3 0) (M 3 1) (M 8 0) (M 1) (M 10 t) (M 11 t) (M 12 t / M 3 1) t sy kk a n5 (dHc M t) (dVc M) (by omega) rfl i1 i7 i3.1 i3.2 (dHc_le hI ht4) (dVc_le hI) ht hs hkk ha hn5 (by rw [ev, eh]; exact hno) x0 L0 L3 (tl_cn L1) (tl_vs L1) (L5 t ht4).1 (tl_h L5 ht4)) (fun u hu sz => c_X7_sale_ref y (M 1) (M 2) (M 3) (M 9) (M 14) t sy kk a n5 (by omega) mCo mVa mRa mTl mHa ht hs hkk ha hn5 (hno.elim Or.inl (fun h9 => .inr (.inr h9))) hu.1 hu.2.1 hu.2.2.1 hu.2.2.2.1 hu.2.2.2.2.2.2.2.2.2.1 hu.2.2.2.2.2.2.2.2.2.2.2.2.2.2.1) (fun u r v hu h => mod_eq hu h)
    · obtain ⟨hn1, hok⟩ := not_or.mp hno
      have hok : M 14 (16 * t + 8 * sy + kk) + n5 ≤ 1000 := by omega
      obtain ⟨sp, hspe⟩ : ∃ sp : Nat, ((n5 : Nat) : Int) * (M 2 (8 * sy + kk) : Int) * ((if sy = 0 then M 3 0 else M 3 1 : Nat) : Int) - ((a : Nat) : Int) * ((M 3 1 : Nat) : Int) = (sp : Int) := ⟨_, (Int.toNat_of_nonneg (Int.not_lt.mp hn1)).symm⟩
      have hs1 : 1 < 2 := by omega
      obtain ⟨v1, v2, v3, v4, v5, v6, v7, v8⟩ := inv_coin hI hs1
      obtain ⟨s1, s2, s3, s4, s5, s6, s7⟩ := inv_vs hI hs1
      obtain ⟨rz, tb, P0, C0, k0, k1, k2, k3, k4, k5⟩ := x4
      obtain ⟨p0, p1, p2, p3, p4, p5, p6, p7, p8⟩ := id (L5 t ht4)
      by_cases hch : sp / M 3 1 ≤ 2000
      · have ehs : ∀ s9, s9 < 2 → va_up (dHc M t) sy (va_up (dHc M t sy) kk (dHc M t sy kk + n5)) s9 = dH (va_up M 14 (va_up (M 14) (16 * t + 8 * sy + kk) (M 14 (16 * t + 8 * sy + kk) + n5))) t s9 := fun s9 h9 => by
          rw [dH_up ht4 ht4 h9 hs (by omega), eh]
          by_cases e : s9 = sy
          · rw [if_pos ⟨rfl, e⟩, e, va_up_self, show dHc M t sy = dH M t sy from if_pos hs]
          · rw [if_neg (fun h8 => e h8.2), va_up_ne _ _ e]
            exact if_pos h9
        have elm : ∀ k, k < 8 → dH (va_up M 14 (va_up (M 14) (16 * t + 8 * sy + kk) (M 14 (16 * t + 8 * sy + kk) + n5))) t 1 k = va_up (M 14) (16 * t + 8 * sy + kk) (M 14 (16 * t + 8 * sy + kk) + n5) (16 * t + 8 + k) := fun k hk8 => clip_at hk8
        have hA0 := fun sz => c_X6_sale_main (l := l) (G := G) (N := N) (ad := ad) (w := w) (sz := sz) x (x + 1) (M 9 0) (M 3 0) (M 3 1) (M 8 0) (M 1) (M 10 t) (M 11 t) (M 12 t / M 3 1) t sy kk a n5 (dHc M t) (dVc M) sp (dF M 1) (clip 8 (fun q => M 15 (8 * t + q))) rz tb P0 C0 (by omega) rfl i1 i7 i3.1 i3.2 (dHc_le hI ht4) (dVc_le hI) ht hs hkk ha hn5 (by rw [ev]; exact hspe) (by rw [eh]; exact hok) v2 v3 (mTs t ht4) hch x0 L0 L3 (tl_cn L1) (tl_vs L1) p0 (tl_h L5 ht4) p3 (L1 1 hs1).1 (L1 1 hs1).2.1 (L1 1 hs1).2.2.1 k0 k2 k1 k3 k4 k5
        rw [ehs 1 hs1] at hA0
        have hB0 := fun (u : Nat → va_E) (hu : Mod G ad u y M kp) (b9 bd tk0 : Nat → Nat) (Fw0 : Nat → Int) (h19 : u (y + 19) = aI G 8 (fun q => (b9 q : Int))) (h20 : u (y + 20) = aI G 18009 Fw0) (h21 : u (y + 21) = aI G 8 (fun q => (tk0 q : Int))) (h22 : u (y + 22) = aI G 8 (fun q => (bd q : Int))) (sz : Nat) => c_X7_sale_main (l := l) (G := G) (N := N) (ad := ad) (w := u) (sz := sz) y (M 1) (M 2) (M 3) (M 4) (M 9) (M 10) (M 11) (M 12) (M 14) (M 15) t sy kk a n5 sp b9 bd tk0 Fw0 (by omega) mCo mVa mRa mSl mTl mTs mHa ht hs hkk ha hn5 hspe hch hok s1 hu.1 hu.2.1 hu.2.2.1 hu.2.2.2.1 hu.2.2.2.2.1 hu.2.2.2.2.2.2.2.2.2.1 hu.2.2.2.2.2.2.2.2.2.2.1 hu.2.2.2.2.2.2.2.2.2.2.2.1 hu.2.2.2.2.2.2.2.2.2.2.2.2.1 hu.2.2.2.2.2.2.2.2.2.2.2.2.2.2.1 hu.2.2.2.2.2.2.2.2.2.2.2.2.2.2.2.1 h19 h20 h21 h22
        have hmt : ∀ {B bd1 : Nat → Nat} {Fw : Nat → Int}, (∃ b8, B = srt (fun q9 => M 2 (8 * 1 + q9)) b8 (M 1 1)) → (∀ k, k < 8 → bd1 k = va_up (M 14) (16 * t + 8 * sy + kk) (M 14 (16 * t + 8 * sy + kk) + n5) (16 * t + 8 + k)) → fOK Fw (fun q9 => M 2 (8 * 1 + q9)) B bd1 (M 1 1) (sp / M 3 1) 0 → (∀ j, j < M 1 1 → (fun q9 => M 2 (8 * 1 + q9)) (B j) = dV M 1 (dF M 1 j) ∧ bd1 (B j) = dH (va_up M 14 (va_up (M 14) (16 * t + 8 * sy + kk) (M 14 (16 * t + 8 * sy + kk) + n5))) t 1 (dF M 1 j)) ∧ (∀ j, j < M 1 1 → B j = dF M 1 j) ∧ ∀ k, k ≤ M 1 1 → ∀ s, s ≤ sp / M 3 1 → tbF Fw (M 1 1) k s = tbC (dV M 1) (dF M 1) (dH (va_up M 14 (va_up (M 14) (16 * t + 8 * sy + kk) (M 14 (16 * t + 8 * sy + kk) + n5))) t 1) (M 1 1) (sp / M 3 1) k s := fun {B bd1 Fw} hB hbd hf => by
          obtain ⟨b8, hB⟩ := hB
          have f1 : ∀ j, j < M 1 1 → B j = dF M 1 j := fun j hj => by
            rw [hB]
            exact s3 b8 j hj
          have f2 : ∀ j, j < M 1 1 → (fun q9 => M 2 (8 * 1 + q9)) (B j) = dV M 1 (dF M 1 j) ∧ bd1 (B j) = dH (va_up M 14 (va_up (M 14) (16 * t + 8 * sy + kk) (M 14 (16 * t + 8 * sy + kk) + n5))) t 1 (dF M 1 j) := fun j hj => by
            have h9 := v3 j hj
            rw [f1 j hj, hbd _ (by omega), elm _ (by omega)]
            exact ⟨s2 _ h9, rfl⟩
          refine ⟨f2, f1, tbC_eq (tbOK_c f2 (tbF_ok hch (fun k hk9 => ?_) hf))⟩
          rw [f1 k hk9]
          exact s1 _ (v3 k hk9)
        by_cases hsol : tbC (dV M 1) (dF M 1) (dH (va_up M 14 (va_up (M 14) (16 * t + 8 * sy + kk) (M 14 (16 * t + 8 * sy + kk) + n5))) t 1) (M 1 1) (sp / M 3 1) (M 1 1) (sp / M 3 1) = -1
        · refine stp_mk2 (-1) M kp hy hM hk (LInv_mono (Nat.le_succ c) hI) hA0 (fun r u hq => ?_) (fun u hu sz => ?_)
          · obtain ⟨hne, tc, rz1, q0, q1, q2, ⟨P1, q3⟩, ⟨C1, q4⟩, hn, -⟩ := hq
            obtain ⟨hr, g0, g1, g2⟩ := hn ((tbC_eq q0 _ (Nat.le_refl _) _ (Nat.le_refl _)).trans hsol)
            have hsame : ∀ j, ¬ ((x + 54 ≤ j ∧ j ≤ x + 66) ∧ j ≠ x + 55) → u j = w j := fun j hj => by
              by_cases e0 : j = x + 1 + 14 + 9 * t
              · rw [e0]
                exact g0.trans p0.symm
              · by_cases e1 : j = x + 1 + 14 + 9 * t + 1
                · rw [e1]
                  exact (g1 0 (by omega)).trans (tl_h L5 ht4 0 (by omega)).symm
                · by_cases e2 : j = x + 1 + 14 + 9 * t + 2
                  · rw [e2]
                    exact (g1 1 (by omega)).trans (tl_h L5 ht4 1 (by omega)).symm
                  · by_cases e3 : j = x + 1 + 14 + 9 * t + 3
                    · rw [e3]
                      exact g2.trans p3.symm
                    · exact hne j hj e0 e1 e2 e3
            exact ⟨hr, fun j hj => hsame j (by omega), Cls_scr (fun j a b d => hsame j (by omega)) ⟨rz1, tc, P1, C1, (hsame _ (by omega)).trans k0, q1, (hsame _ (by omega)).trans k2, q2, q3, q4⟩ (ex_fr x5 (hsame _ (by omega))) (ex_fr x6 (hsame _ (by omega))) hC⟩
          · obtain ⟨b9, h19⟩ := hu.2.2.2.2.2.2.2.2.2.2.2.2.2.2.2.2.2.2.2.1
            obtain ⟨Fw0, h20⟩ := hu.2.2.2.2.2.2.2.2.2.2.2.2.2.2.2.2.2.2.2.2.1
            obtain ⟨tk0, h21⟩ := hu.2.2.2.2.2.2.2.2.2.2.2.2.2.2.2.2.2.2.2.2.2.1
            obtain ⟨bd, h22⟩ := hu.2.2.2.2.2.2.2.2.2.2.2.2.2.2.2.2.2.2.2.2.2.2.1
            refine wr_i (hB0 u hu b9 bd tk0 Fw0 h19 h20 h21 h22 sz) (fun r v h => ?_)
            obtain ⟨hne, B, bd1, Fw, tk1, hB, hbd, hf, c19, c20, c21, c22, hn, -⟩ := h
            obtain ⟨hr, c4, c10, c11, c12, c14, c15⟩ := hn (((hmt hB hbd hf).2.2 _ (Nat.le_refl _) _ (Nat.le_refl _)).trans hsol)
            obtain ⟨m0, m1, m2, m3, m4, m5, m6, m7, m8, m9, m10, m11, m12, m13, m14, m15, m16, m17, m18, m19, m20, m21, m22, m23, m24, m25, m26⟩ := id hu
            exact ⟨hr, fun j hj => hne j (by omega) (by omega) (by omega) (by omega) (by omega) (by omega) (by omega) (by omega) (by omega) (by omega), (hne _ (by omega) (by omega) (by omega) (by omega) (by omega) (by omega) (by omega) (by omega) (by omega) (by omega)).trans m0, (hne _ (by omega) (by omega) (by omega) (by omega) (by omega) (by omega) (by omega) (by omega) (by omega) (by omega)).trans m1, (hne _ (by omega) (by omega) (by omega) (by omega) (by omega) (by omega) (by omega) (by omega) (by omega) (by omega)).trans m2, (hne _ (by omega) (by omega) (by omega) (by omega) (by omega) (by omega) (by omega) (by omega) (by omega) (by omega)).trans m3, c4, (hne _ (by omega) (by omega) (by omega) (by omega) (by omega) (by omega) (by omega) (by omega) (by omega) (by omega)).trans m5, (hne _ (by omega) (by omega) (by omega) (by omega) (by omega) (by omega) (by omega) (by omega) (by omega) (by omega)).trans m6, (hne _ (by omega) (by omega) (by omega) (by omega) (by omega) (by omega) (by omega) (by omega) (by omega) (by omega)).trans m7, (hne _ (by omega) (by omega) (by omega) (by omega) (by omega) (by omega) (by omega) (by omega) (by omega) (by omega)).trans m8, (hne _ (by omega) (by omega) (by omega) (by omega) (by omega) (by omega) (by omega) (by omega) (by omega) (by omega)).trans m9, c10, c11, c12, (hne _ (by omega) (by omega) (by omega) (by omega) (by omega) (by omega) (by omega) (by omega) (by omega) (by omega)).trans m13, c14, c15, (hne _ (by omega) (by omega) (by omega) (by omega) (by omega) (by omega) (by omega) (by omega) (by omega) (by omega)).trans m16, (hne _ (by omega) (by omega) (by omega) (by omega) (by omega) (by omega) (by omega) (by omega) (by omega) (by omega)).trans m17, ex_fr m18 (hne _ (by omega) (by omega) (by omega) (by omega) (by omega) (by omega) (by omega) (by omega) (by omega) (by omega)), ⟨_, c19⟩, ⟨_, c20⟩, ⟨_, c21⟩, ⟨_, c22⟩, ex_fr m23 (hne _ (by omega) (by omega) (by omega) (by omega) (by omega) (by omega) (by omega) (by omega) (by omega) (by omega)), ex_fr m24 (hne _ (by omega) (by omega) (by omega) (by omega) (by omega) (by omega) (by omega) (by omega) (by omega) (by omega)), ex_fr m25 (hne _ (by omega) (by omega) (by omega) (by omega) (by omega) (by omega) (by omega) (by omega) (by omega) (by omega)), (hne _ (by omega) (by omega) (by omega) (by omega) (by omega) (by omega) (by omega) (by omega) (by omega) (by omega)).trans m26⟩
        · have hr1 := i3.2.1
          have e14 : ∀ q, sbS (va_up (M 14) (16 * t + 8 * sy + kk) (M 14 (16 * t + 8 * sy + kk) + n5)) (gvF (M 1 1) (wrM (tbC (dV M 1) (dF M 1) (dH (va_up M 14 (va_up (M 14) (16 * t + 8 * sy + kk) (M 14 (16 * t + 8 * sy + kk) + n5))) t 1) (M 1 1) (sp / M 3 1)) (dV M 1) (dF M 1) (dH (va_up M 14 (va_up (M 14) (16 * t + 8 * sy + kk) (M 14 (16 * t + 8 * sy + kk) + n5))) t 1) (M 1 1) (sp / M 3 1) (fun _ => 0) (M 1 1))) (16 * t + 8) 8 q ≤ va_up (M 14) (16 * t + 8 * sy + kk) (M 14 (16 * t + 8 * sy + kk) + n5) q := fun q => by
            unfold sbS
            split
            · exact Nat.sub_le _ _
            · exact Nat.le_refl _
          have o14 : ∀ q, ¬ (16 * t ≤ q ∧ q < 16 * t + 16) → sbS (va_up (M 14) (16 * t + 8 * sy + kk) (M 14 (16 * t + 8 * sy + kk) + n5)) (gvF (M 1 1) (wrM (tbC (dV M 1) (dF M 1) (dH (va_up M 14 (va_up (M 14) (16 * t + 8 * sy + kk) (M 14 (16 * t + 8 * sy + kk) + n5))) t 1) (M 1 1) (sp / M 3 1)) (dV M 1) (dF M 1) (dH (va_up M 14 (va_up (M 14) (16 * t + 8 * sy + kk) (M 14 (16 * t + 8 * sy + kk) + n5))) t 1) (M 1 1) (sp / M 3 1) (fun _ => 0) (M 1 1))) (16 * t + 8) 8 q = M 14 q := fun q hq => by
            unfold sbS
            rw [if_neg (by omega), va_up_ne _ _ (by omega)]
          have o15 : ∀ q, ¬ (8 * t ≤ q ∧ q < 8 * t + 8) → cpS (M 15) (gvF (M 1 1) (wrM (tbC (dV M 1) (dF M 1) (dH (va_up M 14 (va_up (M 14) (16 * t + 8 * sy + kk) (M 14 (16 * t + 8 * sy + kk) + n5))) t 1) (M 1 1) (sp / M 3 1)) (dV M 1) (dF M 1) (dH (va_up M 14 (va_up (M 14) (16 * t + 8 * sy + kk) (M 14 (16 * t + 8 * sy + kk) + n5))) t 1) (M 1 1) (sp / M 3 1) (fun _ => 0) (M 1 1))) (8 * t) 8 q = M 15 q := fun q hq => if_neg hq
          refine stp_mk2 ((sp / M 3 1 : Nat) : Int) (va_up (va_up (va_up (va_up (va_up (va_up M 4 (va_up (M 4) 0 (M 4 0 + 1))) 10 (va_up (M 10) t (M 10 t + 1))) 11 (va_up (M 11) t (M 11 t + sp % M 3 1))) 12 (va_up (M 12) t (M 12 t + a * M 3 1))) 14 (sbS (va_up (M 14) (16 * t + 8 * sy + kk) (M 14 (16 * t + 8 * sy + kk) + n5)) (gvF (M 1 1) (wrM (tbC (dV M 1) (dF M 1) (dH (va_up M 14 (va_up (M 14) (16 * t + 8 * sy + kk) (M 14 (16 * t + 8 * sy + kk) + n5))) t 1) (M 1 1) (sp / M 3 1)) (dV M 1) (dF M 1) (dH (va_up M 14 (va_up (M 14) (16 * t + 8 * sy + kk) (M 14 (16 * t + 8 * sy + kk) + n5))) t 1) (M 1 1) (sp / M 3 1) (fun _ => 0) (M 1 1))) (16 * t + 8) 8)) 15 (cpS (M 15) (gvF (M 1 1) (wrM (tbC (dV M 1) (dF M 1) (dH (va_up M 14 (va_up (M 14) (16 * t + 8 * sy + kk) (M 14 (16 * t + 8 * sy + kk) + n5))) t 1) (M 1 1) (sp / M 3 1)) (dV M 1) (dF M 1) (dH (va_up M 14 (va_up (M 14) (16 * t + 8 * sy + kk) (M 14 (16 * t + 8 * sy + kk) + n5))) t 1) (M 1 1) (sp / M 3 1) (fun _ => 0) (M 1 1))) (8 * t) 8)) kp hy hM hk ?_ hA0 (fun r u hq => ?_) (fun u hu sz => ?_)
          · refine ⟨i1, i2, i3, ⟨?_, ?_, ?_⟩, i5, i6, i7, fun t' ht' => ?_, fun q hq => ?_, fun t' ht' ht2 => ?_, i11⟩
            · show va_up (M 4) 0 (M 4 0 + 1) 0 ≤ c + 1
              rw [va_up_self]
              have := i4.1
              omega
            · intro h9
              have h9 : va_up (M 4) 0 (M 4 0 + 1) 0 = 0 := h9
              rw [va_up_self] at h9
              omega
            · intro h9
              have h9 : va_up (M 10) t (M 10 t + 1) t = 0 := h9 t ht4
              rw [va_up_self] at h9
              omega
            · have h9 := i8 t' ht'
              show va_up (M 10) t (M 10 t + 1) t' ≤ c + 1 ∧ M 13 t' ≤ 20 ∧ va_up (M 12) t (M 12 t + a * M 3 1) t' % M 3 1 = 0 ∧ (va_up (M 10) t (M 10 t + 1) t' = 0 → va_up (M 12) t (M 12 t + a * M 3 1) t' = 0)
              by_cases e : t' = t
              · subst e
                rw [va_up_self, va_up_self, Nat.add_mul_mod_self_right]
                exact ⟨Nat.succ_le_succ h9.1, h9.2.1, h9.2.2.1, fun h8 => by omega⟩
              · rw [va_up_ne _ _ e, va_up_ne _ _ e]
                exact ⟨Nat.le_succ_of_le h9.1, h9.2⟩
            · exact Nat.le_trans (e14 q) (up_le (i9 q hq) hok)
            · have h9 := i10 t' ht' ht2
              have h8 : M 9 0 ≤ t' := ht2
              exact ⟨(va_up_ne _ _ (by omega)).trans h9.1, (va_up_ne _ _ (by omega)).trans h9.2.1, (va_up_ne _ _ (by omega)).trans h9.2.2.1, h9.2.2.2.1, fun q hq => (o14 _ (by omega)).trans (h9.2.2.2.2.1 q hq), fun q hq => (o15 _ (by omega)).trans (h9.2.2.2.2.2 q hq)⟩
          · obtain ⟨hne, tc, rz1, q0, q1, q2, ⟨P1, q3⟩, ⟨C1, q4⟩, -, hn⟩ := hq
            have htc := tbC_eq q0
            obtain ⟨hr, g0, g1, g2⟩ := hn (fun h9 => hsol ((htc _ (Nat.le_refl _) _ (Nat.le_refl _)).symm.trans h9))
            have erow : ∀ k, k < 8 → wrM tc (dVc M 1) (dF M 1) (dH (va_up M 14 (va_up (M 14) (16 * t + 8 * sy + kk) (M 14 (16 * t + 8 * sy + kk) + n5))) t 1) (M 1 1) (sp / M 3 1) (zrF rz 8) (M 1 1) k = (gvF (M 1 1) (wrM (tbC (dV M 1) (dF M 1) (dH (va_up M 14 (va_up (M 14) (16 * t + 8 * sy + kk) (M 14 (16 * t + 8 * sy + kk) + n5))) t 1) (M 1 1) (sp / M 3 1)) (dV M 1) (dF M 1) (dH (va_up M 14 (va_up (M 14) (16 * t + 8 * sy + kk) (M 14 (16 * t + 8 * sy + kk) + n5))) t 1) (M 1 1) (sp / M 3 1) (fun _ => 0) (M 1 1))) k := fun k hk8 => by
              by_cases hkn : k < M 1 1
              · refine (wr_eq htc (fun j hj => ⟨rfl, rfl⟩) (fun j hj => rfl) (v5 k hkn)).trans (if_pos hkn).symm
              · rw [wrM_no _ (fun j hj e9 => hkn (by rw [← e9]; exact v3 j hj))]
                exact (if_pos hk8).trans (if_neg hkn).symm
            have hH : Hi M (va_up (va_up (va_up (va_up (va_up (va_up M 4 (va_up (M 4) 0 (M 4 0 + 1))) 10 (va_up (M 10) t (M 10 t + 1))) 11 (va_up (M 11) t (M 11 t + sp % M 3 1))) 12 (va_up (M 12) t (M 12 t + a * M 3 1))) 14 (sbS (va_up (M 14) (16 * t + 8 * sy + kk) (M 14 (16 * t + 8 * sy + kk) + n5)) (gvF (M 1 1) (wrM (tbC (dV M 1) (dF M 1) (dH (va_up M 14 (va_up (M 14) (16 * t + 8 * sy + kk) (M 14 (16 * t + 8 * sy + kk) + n5))) t 1) (M 1 1) (sp / M 3 1)) (dV M 1) (dF M 1) (dH (va_up M 14 (va_up (M 14) (16 * t + 8 * sy + kk) (M 14 (16 * t + 8 * sy + kk) + n5))) t 1) (M 1 1) (sp / M 3 1) (fun _ => 0) (M 1 1))) (16 * t + 8) 8)) 15 (cpS (M 15) (gvF (M 1 1) (wrM (tbC (dV M 1) (dF M 1) (dH (va_up M 14 (va_up (M 14) (16 * t + 8 * sy + kk) (M 14 (16 * t + 8 * sy + kk) + n5))) t 1) (M 1 1) (sp / M 3 1)) (dV M 1) (dF M 1) (dH (va_up M 14 (va_up (M 14) (16 * t + 8 * sy + kk) (M 14 (16 * t + 8 * sy + kk) + n5))) t 1) (M 1 1) (sp / M 3 1) (fun _ => 0) (M 1 1))) (8 * t) 8)) := Hi_up (Hi_up (Hi_up (Hi_up (Hi_up (Hi_up (Hi_r M) (Hi_1 (by show _ < 1; omega))) (Hi_1 (by show _ < 4; omega))) (Hi_1 (by show _ < 4; omega))) (Hi_1 (by show _ < 4; omega))) (fun q hq => o14 q (by have : 64 ≤ q := hq; omega))) (fun q hq => o15 q (by have : 32 ≤ q := hq; omega))
            refine ⟨hr, fun j hj => hne j (by omega) (by omega) (by omega) (by omega) (by omega), (hne _ (by omega) (by omega) (by omega) (by omega) (by omega)).trans x0, ⟨(hne _ (by omega) (by omega) (by omega) (by omega) (by omega)).trans L0, fun k hk => coinAt_fr (fun j a b => hne j (by omega) (by omega) (by omega) (by omega) (by omega)) (L1 k hk), goodAt_fr (fun j a b => hne j (by omega) (by omega) (by omega) (by omega) (by omega)) L2, (hne _ (by omega) (by omega) (by omega) (by omega) (by omega)).trans L3, (hne _ (by omega) (by omega) (by omega) (by omega) (by omega)).trans L4, fun t' ht' => ?_⟩, (hne _ (by omega) (by omega) (by omega) (by omega) (by omega)).trans x2, (hne _ (by omega) (by omega) (by omega) (by omega) (by omega)).trans x3, ⟨rz1, tc, P1, C1, (hne _ (by omega) (by omega) (by omega) (by omega) (by omega)).trans k0, q1, (hne _ (by omega) (by omega) (by omega) (by omega) (by omega)).trans k2, q2, q3, q4⟩, ex_fr x5 (hne _ (by omega) (by omega) (by omega) (by omega) (by omega)), ex_fr x6 (hne _ (by omega) (by omega) (by omega) (by omega) (by omega)), fun k hk3 => Img_fr (fun j a b => hne j (by omega) (by omega) (by omega) (by omega) (by omega)) (Nat.le_succ c) rfl (Hi_sec hH k) (x7 k hk3)⟩
            by_cases e : t' = t
            · rw [e]
              refine ⟨?_, ?_, ?_, ?_, (hne _ (by omega) (by omega) (by omega) (by omega) (by omega)).trans p4, (hne _ (by omega) (by omega) (by omega) (by omega) (by omega)).trans p5, (hne _ (by omega) (by omega) (by omega) (by omega) (by omega)).trans p6, (hne _ (by omega) (by omega) (by omega) (by omega) (by omega)).trans p7, (hne _ (by omega) (by omega) (by omega) (by omega) (by omega)).trans p8⟩
              · show u _ = .inr (5, [_, _, _, _, .int (iI ((va_up (M 10) t (M 10 t + 1) t : Nat) : Int)), .long (jI ((va_up (M 11) t (M 11 t + sp % M 3 1) t : Nat) : Int)), .long (jI ((va_up (M 12) t (M 12 t + a * M 3 1) t / M 3 1 : Nat) : Int))])
                rw [va_up_self, va_up_self, va_up_self, Nat.add_mul_div_right _ _ hr1]
                exact g0
              · have h9 := g1 0 (by omega)
                rw [va_up_ne _ _ (by omega), ehs 0 (by omega)] at h9
                refine h9.trans (congrArg (aI G 8) (funext fun q => ?_))
                have e9 : dH (va_up M 14 (va_up (M 14) (16 * t + 8 * sy + kk) (M 14 (16 * t + 8 * sy + kk) + n5))) t 0 = dH (va_up (va_up (va_up (va_up (va_up (va_up M 4 (va_up (M 4) 0 (M 4 0 + 1))) 10 (va_up (M 10) t (M 10 t + 1))) 11 (va_up (M 11) t (M 11 t + sp % M 3 1))) 12 (va_up (M 12) t (M 12 t + a * M 3 1))) 14 (sbS (va_up (M 14) (16 * t + 8 * sy + kk) (M 14 (16 * t + 8 * sy + kk) + n5)) (gvF (M 1 1) (wrM (tbC (dV M 1) (dF M 1) (dH (va_up M 14 (va_up (M 14) (16 * t + 8 * sy + kk) (M 14 (16 * t + 8 * sy + kk) + n5))) t 1) (M 1 1) (sp / M 3 1)) (dV M 1) (dF M 1) (dH (va_up M 14 (va_up (M 14) (16 * t + 8 * sy + kk) (M 14 (16 * t + 8 * sy + kk) + n5))) t 1) (M 1 1) (sp / M 3 1) (fun _ => 0) (M 1 1))) (16 * t + 8) 8)) 15 (cpS (M 15) (gvF (M 1 1) (wrM (tbC (dV M 1) (dF M 1) (dH (va_up M 14 (va_up (M 14) (16 * t + 8 * sy + kk) (M 14 (16 * t + 8 * sy + kk) + n5))) t 1) (M 1 1) (sp / M 3 1)) (dV M 1) (dF M 1) (dH (va_up M 14 (va_up (M 14) (16 * t + 8 * sy + kk) (M 14 (16 * t + 8 * sy + kk) + n5))) t 1) (M 1 1) (sp / M 3 1) (fun _ => 0) (M 1 1))) (8 * t) 8)) t 0 := clip_c fun q hq => by
                  show va_up (M 14) (16 * t + 8 * sy + kk) (M 14 (16 * t + 8 * sy + kk) + n5) (16 * t + 8 * 0 + q) = sbS (va_up (M 14) (16 * t + 8 * sy + kk) (M 14 (16 * t + 8 * sy + kk) + n5)) _ (16 * t + 8) 8 (16 * t + 8 * 0 + q)
                  exact (if_neg (by omega)).symm
                show ((dH (va_up M 14 (va_up (M 14) (16 * t + 8 * sy + kk) (M 14 (16 * t + 8 * sy + kk) + n5))) t 0 q : Nat) : Int) = ((dH (va_up (va_up (va_up (va_up (va_up (va_up M 4 (va_up (M 4) 0 (M 4 0 + 1))) 10 (va_up (M 10) t (M 10 t + 1))) 11 (va_up (M 11) t (M 11 t + sp % M 3 1))) 12 (va_up (M 12) t (M 12 t + a * M 3 1))) 14 (sbS (va_up (M 14) (16 * t + 8 * sy + kk) (M 14 (16 * t + 8 * sy + kk) + n5)) (gvF (M 1 1) (wrM (tbC (dV M 1) (dF M 1) (dH (va_up M 14 (va_up (M 14) (16 * t + 8 * sy + kk) (M 14 (16 * t + 8 * sy + kk) + n5))) t 1) (M 1 1) (sp / M 3 1)) (dV M 1) (dF M 1) (dH (va_up M 14 (va_up (M 14) (16 * t + 8 * sy + kk) (M 14 (16 * t + 8 * sy + kk) + n5))) t 1) (M 1 1) (sp / M 3 1) (fun _ => 0) (M 1 1))) (16 * t + 8) 8)) 15 (cpS (M 15) (gvF (M 1 1) (wrM (tbC (dV M 1) (dF M 1) (dH (va_up M 14 (va_up (M 14) (16 * t + 8 * sy + kk) (M 14 (16 * t + 8 * sy + kk) + n5))) t 1) (M 1 1) (sp / M 3 1)) (dV M 1) (dF M 1) (dH (va_up M 14 (va_up (M 14) (16 * t + 8 * sy + kk) (M 14 (16 * t + 8 * sy + kk) + n5))) t 1) (M 1 1) (sp / M 3 1) (fun _ => 0) (M 1 1))) (8 * t) 8)) t 0 q : Nat) : Int)
                rw [e9]
              · have h9 := g1 1 (by omega)
                rw [va_up_self] at h9
                refine h9.trans (congrArg (aI G 8) (funext fun q => ?_))
                show ((subF (dH (va_up M 14 (va_up (M 14) (16 * t + 8 * sy + kk) (M 14 (16 * t + 8 * sy + kk) + n5))) t 1) (wrM tc (dVc M 1) (dF M 1) (dH (va_up M 14 (va_up (M 14) (16 * t + 8 * sy + kk) (M 14 (16 * t + 8 * sy + kk) + n5))) t 1) (M 1 1) (sp / M 3 1) (zrF rz 8) (M 1 1)) 8 q : Nat) : Int) = ((clip 8 (fun q => sbS (va_up (M 14) (16 * t + 8 * sy + kk) (M 14 (16 * t + 8 * sy + kk) + n5)) (gvF (M 1 1) (wrM (tbC (dV M 1) (dF M 1) (dH (va_up M 14 (va_up (M 14) (16 * t + 8 * sy + kk) (M 14 (16 * t + 8 * sy + kk) + n5))) t 1) (M 1 1) (sp / M 3 1)) (dV M 1) (dF M 1) (dH (va_up M 14 (va_up (M 14) (16 * t + 8 * sy + kk) (M 14 (16 * t + 8 * sy + kk) + n5))) t 1) (M 1 1) (sp / M 3 1) (fun _ => 0) (M 1 1))) (16 * t + 8) 8 (16 * t + 8 * 1 + q)) q : Nat) : Int)
                by_cases hq8 : q < 8
                · rw [clip_at hq8]
                  unfold subF sbS
                  rw [if_pos hq8, if_pos (by omega), erow q hq8, elm q hq8, show 16 * t + 8 * 1 + q - (16 * t + 8) = q by omega]
                · unfold subF dH clip
                  rw [if_neg hq8, if_neg hq8, if_neg hq8]
              · refine g2.trans (congrArg (aI G 8) (funext fun q => ?_))
                show ((cpF _ _ 8 q : Nat) : Int) = ((clip 8 (fun q => cpS (M 15) (gvF (M 1 1) (wrM (tbC (dV M 1) (dF M 1) (dH (va_up M 14 (va_up (M 14) (16 * t + 8 * sy + kk) (M 14 (16 * t + 8 * sy + kk) + n5))) t 1) (M 1 1) (sp / M 3 1)) (dV M 1) (dF M 1) (dH (va_up M 14 (va_up (M 14) (16 * t + 8 * sy + kk) (M 14 (16 * t + 8 * sy + kk) + n5))) t 1) (M 1 1) (sp / M 3 1) (fun _ => 0) (M 1 1))) (8 * t) 8 (8 * t + q)) q : Nat) : Int)
                by_cases hq8 : q < 8
                · rw [clip_at hq8]
                  unfold cpF cpS
                  rw [if_pos hq8, if_pos (by omega), show 8 * t + q - 8 * t = q by omega]
                  exact congrArg _ (erow q hq8)
                · unfold cpF clip
                  rw [if_neg hq8, if_neg hq8, if_neg hq8]
            · rw [show dTl (va_up (va_up (va_up (va_up (va_up (va_up M 4 (va_up (M 4) 0 (M 4 0 + 1))) 10 (va_up (M 10) t (M 10 t + 1))) 11 (va_up (M 11) t (M 11 t + sp % M 3 1))) 12 (va_up (M 12) t (M 12 t + a * M 3 1))) 14 (sbS (va_up (M 14) (16 * t + 8 * sy + kk) (M 14 (16 * t + 8 * sy + kk) + n5)) (gvF (M 1 1) (wrM (tbC (dV M 1) (dF M 1) (dH (va_up M 14 (va_up (M 14) (16 * t + 8 * sy + kk) (M 14 (16 * t + 8 * sy + kk) + n5))) t 1) (M 1 1) (sp / M 3 1)) (dV M 1) (dF M 1) (dH (va_up M 14 (va_up (M 14) (16 * t + 8 * sy + kk) (M 14 (16 * t + 8 * sy + kk) + n5))) t 1) (M 1 1) (sp / M 3 1) (fun _ => 0) (M 1 1))) (16 * t + 8) 8)) 15 (cpS (M 15) (gvF (M 1 1) (wrM (tbC (dV M 1) (dF M 1) (dH (va_up M 14 (va_up (M 14) (16 * t + 8 * sy + kk) (M 14 (16 * t + 8 * sy + kk) + n5))) t 1) (M 1 1) (sp / M 3 1)) (dV M 1) (dF M 1) (dH (va_up M 14 (va_up (M 14) (16 * t + 8 * sy + kk) (M 14 (16 * t + 8 * sy + kk) + n5))) t 1) (M 1 1) (sp / M 3 1) (fun _ => 0) (M 1 1))) (8 * t) 8)) t' = dTl M t' from dTl_e (va_up_ne _ _ e) (va_up_ne _ _ e) (congrArg (fun z => z / M 3 1) (va_up_ne _ _ e)) rfl (fun q hq => o14 _ (by omega)) (fun q hq => o15 _ (by omega)) (fun _ _ => rfl)]
              exact tillAt_fr (fun j a b => hne j (by omega) (by omega) (by omega) (by omega) (by omega)) (L5 t' ht')
          · obtain ⟨b9, h19⟩ := hu.2.2.2.2.2.2.2.2.2.2.2.2.2.2.2.2.2.2.2.1
            obtain ⟨Fw0, h20⟩ := hu.2.2.2.2.2.2.2.2.2.2.2.2.2.2.2.2.2.2.2.2.1
            obtain ⟨tk0, h21⟩ := hu.2.2.2.2.2.2.2.2.2.2.2.2.2.2.2.2.2.2.2.2.2.1
            obtain ⟨bd, h22⟩ := hu.2.2.2.2.2.2.2.2.2.2.2.2.2.2.2.2.2.2.2.2.2.2.1
            refine wr_i (hB0 u hu b9 bd tk0 Fw0 h19 h20 h21 h22 sz) (fun r v h => ?_)
            obtain ⟨hne, B, bd1, Fw, tk1, hB, hbd, hf, c19, c20, c21, c22, -, hn⟩ := h
            obtain ⟨f1, f2, f3⟩ := hmt hB hbd hf
            obtain ⟨hr, ⟨tk2, htk⟩, c4, c10, c11, c12, c14, c15⟩ := hn (fun h9 => hsol ((f3 _ (Nat.le_refl _) _ (Nat.le_refl _)).symm.trans h9))
            have eg : gvF (M 1 1) tk1 = (gvF (M 1 1) (wrM (tbC (dV M 1) (dF M 1) (dH (va_up M 14 (va_up (M 14) (16 * t + 8 * sy + kk) (M 14 (16 * t + 8 * sy + kk) + n5))) t 1) (M 1 1) (sp / M 3 1)) (dV M 1) (dF M 1) (dH (va_up M 14 (va_up (M 14) (16 * t + 8 * sy + kk) (M 14 (16 * t + 8 * sy + kk) + n5))) t 1) (M 1 1) (sp / M 3 1) (fun _ => 0) (M 1 1))) := funext fun k => by
              unfold gvF
              by_cases hkn : k < M 1 1
              · rw [if_pos hkn, if_pos hkn, htk]
                obtain ⟨j, hj, hjk⟩ := v5 k hkn
                exact wr_eq f3 f1 f2 ⟨j, hj, by rw [f2 j hj]; exact hjk⟩
              · rw [if_neg hkn, if_neg hkn]
            rw [eg] at c14 c15
            obtain ⟨m0, m1, m2, m3, m4, m5, m6, m7, m8, m9, m10, m11, m12, m13, m14, m15, m16, m17, m18, m19, m20, m21, m22, m23, m24, m25, m26⟩ := id hu
            exact ⟨hr, fun j hj => hne j (by omega) (by omega) (by omega) (by omega) (by omega) (by omega) (by omega) (by omega) (by omega) (by omega), (hne _ (by omega) (by omega) (by omega) (by omega) (by omega) (by omega) (by omega) (by omega) (by omega) (by omega)).trans m0, (hne _ (by omega) (by omega) (by omega) (by omega) (by omega) (by omega) (by omega) (by omega) (by omega) (by omega)).trans m1, (hne _ (by omega) (by omega) (by omega) (by omega) (by omega) (by omega) (by omega) (by omega) (by omega) (by omega)).trans m2, (hne _ (by omega) (by omega) (by omega) (by omega) (by omega) (by omega) (by omega) (by omega) (by omega) (by omega)).trans m3, c4, (hne _ (by omega) (by omega) (by omega) (by omega) (by omega) (by omega) (by omega) (by omega) (by omega) (by omega)).trans m5, (hne _ (by omega) (by omega) (by omega) (by omega) (by omega) (by omega) (by omega) (by omega) (by omega) (by omega)).trans m6, (hne _ (by omega) (by omega) (by omega) (by omega) (by omega) (by omega) (by omega) (by omega) (by omega) (by omega)).trans m7, (hne _ (by omega) (by omega) (by omega) (by omega) (by omega) (by omega) (by omega) (by omega) (by omega) (by omega)).trans m8, (hne _ (by omega) (by omega) (by omega) (by omega) (by omega) (by omega) (by omega) (by omega) (by omega) (by omega)).trans m9, c10, c11, c12, (hne _ (by omega) (by omega) (by omega) (by omega) (by omega) (by omega) (by omega) (by omega) (by omega) (by omega)).trans m13, c14, c15, (hne _ (by omega) (by omega) (by omega) (by omega) (by omega) (by omega) (by omega) (by omega) (by omega) (by omega)).trans m16, (hne _ (by omega) (by omega) (by omega) (by omega) (by omega) (by omega) (by omega) (by omega) (by omega) (by omega)).trans m17, ex_fr m18 (hne _ (by omega) (by omega) (by omega) (by omega) (by omega) (by omega) (by omega) (by omega) (by omega) (by omega)), ⟨_, c19⟩, ⟨_, c20⟩, ⟨_, c21⟩, ⟨_, c22⟩, ex_fr m23 (hne _ (by omega) (by omega) (by omega) (by omega) (by omega) (by omega) (by omega) (by omega) (by omega) (by omega)), ex_fr m24 (hne _ (by omega) (by omega) (by omega) (by omega) (by omega) (by omega) (by omega) (by omega) (by omega) (by omega)), ex_fr m25 (hne _ (by omega) (by omega) (by omega) (by omega) (by omega) (by omega) (by omega) (by omega) (by omega) (by omega)), (hne _ (by omega) (by omega) (by omega) (by omega) (by omega) (by omega) (by omega) (by omega) (by omega) (by omega)).trans m26⟩
      · refine stp_mk2 (-1) M kp hy hM hk (LInv_mono (Nat.le_succ c) hI) (fun sz => c_X6_sale_big x (x + 1) (M 9 0) (M 3 0) (M 3 1) (M 8 0) (M 1) (M 10 t) (M 11 t) (M 12 t / M 3 1) t sy kk a n5 (dHc M t) (dVc M) sp (dF M 1) (clip 8 (fun q => M 15 (8 * t + q))) rz tb P0 C0 (by omega) rfl i1 i7 i3.1 i3.2 (dHc_le hI ht4) (dVc_le hI) ht hs hkk ha hn5 (by rw [ev]; exact hspe) (by rw [eh]; exact hok) v2 v3 (mTs t ht4) (by omega) x0 L0 L3 (tl_cn L1) (tl_vs L1) p0 (tl_h L5 ht4) p3 (L1 1 hs1).1 (L1 1 hs1).2.1 (L1 1 hs1).2.2.1 k0 k2 k1 k3 k4 k5) (fun r u hq => ?_) (fun u hu sz => wr_i (c_X7_sale_ref y (M 1) (M 2) (M 3) (M 9) (M 14) t sy kk a n5 (by omega) mCo mVa mRa mTl mHa ht hs hkk ha hn5 ?_ hu.1 hu.2.1 hu.2.2.1 hu.2.2.2.1 hu.2.2.2.2.2.2.2.2.2.1 hu.2.2.2.2.2.2.2.2.2.2.2.2.2.2.1) (fun r v h => mod_eq hu h))
        · obtain ⟨hne, hr, g1⟩ := hq
          have hsame : ∀ j, u j = w j := fun j => by
            by_cases e1 : j = x + 1 + 14 + 9 * t + 1
            · rw [e1]
              exact (g1 0 (by omega)).trans (tl_h L5 ht4 0 (by omega)).symm
            · by_cases e2 : j = x + 1 + 14 + 9 * t + 2
              · rw [e2]
                exact (g1 1 (by omega)).trans (tl_h L5 ht4 1 (by omega)).symm
              · exact hne j e1 e2
          exact ⟨hr, fun j _ => hsame j, Cls_fr (fun j _ _ => hsame j) (Nat.le_succ c) hC⟩
        · rw [hspe, ← Int.natCast_ediv]
          exact .inr (.inl (by omega))
  · exact stp_rd (-1) hy hC hM hk hI (fun sz => c_X6_sale_no x (x + 1) (M 9 0) (M 3 0) (M 3 1) (M 8 0) (M 1) (clip 4 (M 10)) (M 11) (fun t => M 12 t / M 3 1) a1 a2 a3 a4 a5 (by omega) rfl i1 i7 hT r_a1 r_a2 r_a3 r_a4 r_a5 hv x0 L0 L3 (tl_cn L1)) (fun u hu sz => c_X7_sale_no y (M 1) (M 9) a1 a2 a3 a4 a5 (by omega) mCo mTl r_a1 r_a2 r_a3 r_a4 r_a5 hv hu.1 hu.2.1 hu.2.2.2.2.2.2.2.2.2.1) (fun u r v hu h => mod_eq hu h)
