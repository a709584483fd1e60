
def srt (val b0 : Nat → Nat) : Nat → (Nat → Nat)
  | 0 => b0
  | k + 1 => insF (srt val b0 k) k (insP val (srt val b0 k) (val k) k)
theorem insP_le (val fal : Nat → Nat) (v : Nat) : ∀ q, insP val fal v q ≤ q
  | 0 => Nat.le_refl _
  | q + 1 => by
    by_cases h : val (fal q) < v
    · rw [insP_lt h]
      have := insP_le val fal v q
      omega
    · rw [insP_ge h]
      exact Nat.le_refl _
theorem srt_lt (val b0 : Nat → Nat) : ∀ k j, j < k → srt val b0 k j < k
  | 0, j, h => absurd h (Nat.not_lt_zero _)
  | k + 1, j, h => by
    have ih := srt_lt val b0 k
    show insF (srt val b0 k) k (insP val (srt val b0 k) (val k) k) j < k + 1
    have hp := insP_le val (srt val b0 k) (val k) k
    unfold insF
    split
    · omega
    · split
      · have := ih (j - 1) (by omega)
        omega
      · have := ih j (by omega)
        omega
def mE (z : Int) : Int := if z = -1 then 1000000 else z
def dE (z : Int) : Int := if z = 1000000 then -1 else z
def isMm (A : Nat → Int) (v lim s : Nat) (r : Int) : Prop := r ≤ 1000000 ∧ (∀ j, j ≤ lim → j * v ≤ s → r ≤ A (s - j * v) + (j : Int)) ∧ (r = 1000000 ∨ ∃ j, j ≤ lim ∧ j * v ≤ s ∧ r = A (s - j * v) + (j : Int))
def bsF (A : Nat → Int) (v s : Nat) (b0 : Int) : Nat → Int
  | 0 => b0
  | j + 1 => if A (s - j * v) + (j : Int) < bsF A v s b0 j then A (s - j * v) + (j : Int) else bsF A v s b0 j
theorem bsF_y {A : Nat → Int} {v s : Nat} {b0 : Int} {j : Nat} (h : A (s - j * v) + (j : Int) < bsF A v s b0 j) : bsF A v s b0 (j + 1) = A (s - j * v) + (j : Int) := if_pos h
theorem bsF_n {A : Nat → Int} {v s : Nat} {b0 : Int} {j : Nat} (h : ¬ A (s - j * v) + (j : Int) < bsF A v s b0 j) : bsF A v s b0 (j + 1) = bsF A v s b0 j := if_neg h
theorem bsF_le (A : Nat → Int) (v s : Nat) (b0 : Int) : ∀ c, bsF A v s b0 c ≤ b0 ∧ ∀ j, j < c → bsF A v s b0 c ≤ A (s - j * v) + (j : Int)
  | 0 => ⟨Int.le_refl _, fun j h => absurd h (Nat.not_lt_zero _)⟩
  | c + 1 => by
    have ih := bsF_le A v s b0 c
    by_cases h : A (s - c * v) + (c : Int) < bsF A v s b0 c
    · rw [bsF_y h]
      refine ⟨by omega, fun j hj => ?_⟩
      by_cases e : j = c
      · rw [e]
        exact Int.le_refl _
      · have := ih.2 j (by omega)
        omega
    · rw [bsF_n h]
      refine ⟨ih.1, fun j hj => ?_⟩
      by_cases e : j = c
      · rw [e]
        omega
      · exact ih.2 j (by omega)
theorem bsF_or (A : Nat → Int) (v s : Nat) (b0 : Int) : ∀ c, bsF A v s b0 c = b0 ∨ ∃ j, j < c ∧ bsF A v s b0 c = A (s - j * v) + (j : Int)
  | 0 => Or.inl rfl
  | c + 1 => by
    by_cases h : A (s - c * v) + (c : Int) < bsF A v s b0 c
    · exact Or.inr ⟨c, by omega, bsF_y h⟩
    · rw [bsF_n h]
      rcases bsF_or A v s b0 c with h1 | ⟨j, h1, h2⟩
      · exact Or.inl h1
      · exact Or.inr ⟨j, by omega, h2⟩
theorem bsF_rng {A : Nat → Int} {v s : Nat} {b0 : Int} (hb : 0 ≤ b0 ∧ b0 ≤ 1000001) {c : Nat} (hA : ∀ x, x ≤ s → 0 ≤ A x) : 0 ≤ bsF A v s b0 c ∧ bsF A v s b0 c ≤ 1000001 := by
  have h1 := (bsF_le A v s b0 c).1
  refine ⟨?_, by omega⟩
  rcases bsF_or A v s b0 c with h2 | ⟨j, -, h2⟩
  · omega
  · have := hA (s - j * v) (Nat.sub_le _ _)
    omega
theorem mm_b {A : Nat → Int} {v lm s c : Nat} (hc : c ≤ lm + 1) (hj : ∀ j, j < c → j * v ≤ s) (hx : lm < c ∨ s < c * v) : isMm A v lm s (bsF A v s 1000000 c) := by
  have h1 := bsF_le A v s 1000000 c
  refine ⟨h1.1, fun j h2 h3 => h1.2 j ?_, ?_⟩
  · rcases hx with h | h
    · omega
    · exact Nat.lt_of_mul_lt_mul_right (Nat.lt_of_le_of_lt h3 h)
  · rcases bsF_or A v s 1000000 c with h2 | ⟨j, h2, h3⟩
    · exact Or.inl h2
    · exact Or.inr ⟨j, by omega, hj j h2, h3⟩
theorem mm_u {A : Nat → Int} {v s : Nat} {b0 R : Int} (hv : 1 ≤ v) (hs : s ≤ 2000) (hA : A s ≤ 1000000) (h : (s < v ∧ b0 = 1000000) ∨ (v ≤ s ∧ b0 = R + 1 ∧ isMm A v 2000 (s - v) R)) : isMm A v 2000 s (bsF A v s b0 1) := by
  have h1 := bsF_le A v s b0 1
  have h0 := h1.2 0 (by omega)
  rw [Nat.zero_mul, Nat.sub_zero] at h0
  refine ⟨by omega, fun j h2 h3 => ?_, ?_⟩
  · rcases Nat.eq_zero_or_pos j with e | e
    · rw [e, Nat.zero_mul, Nat.sub_zero]
      exact h0
    · rcases h with ⟨h4, -⟩ | ⟨h4, h5, h6⟩
      · have h7 : 1 * v ≤ j * v := Nat.mul_le_mul_right v e
        omega
      · obtain ⟨i, rfl⟩ : ∃ i, j = i + 1 := ⟨j - 1, by omega⟩
        rw [Nat.succ_mul] at h3
        have h7 := h6.2.1 i (by omega) (by omega)
        rw [show s - (i + 1) * v = s - v - i * v by rw [Nat.succ_mul]; omega]
        have h8 := h1.1
        omega
  · rcases bsF_or A v s b0 1 with h2 | ⟨j, h2, h3⟩
    · rw [h2]
      rcases h with ⟨h4, h5⟩ | ⟨h4, h5, h6⟩
      · exact Or.inl h5
      · rcases h6.2.2 with h7 | ⟨i, h7, h8, h9⟩
        · rw [h2] at h0
          omega
        · have hi : i + 1 ≤ (i + 1) * v := Nat.le_mul_of_pos_right _ hv
          have hm : (i + 1) * v = i * v + v := Nat.succ_mul _ _
          refine Or.inr ⟨i + 1, by omega, by omega, ?_⟩
          rw [show s - (i + 1) * v = s - v - i * v by omega]
          omega
    · obtain rfl : j = 0 := by omega
      exact Or.inr ⟨0, by omega, by omega, h3⟩
theorem mm_rng {A : Nat → Int} {v lim s : Nat} {r : Int} (hv : 1 ≤ v) (hA : ∀ x, x ≤ s → A x = 1000000 ∨ (0 ≤ A x ∧ A x ≤ x)) (h : isMm A v lim s r) : r = 1000000 ∨ (0 ≤ r ∧ r ≤ s) := by
  rcases h.2.2 with h1 | ⟨j, h1, h2, h3⟩
  · exact Or.inl h1
  · have h4 := hA (s - j * v) (Nat.sub_le _ _)
    have h5 : j ≤ j * v := Nat.le_mul_of_pos_right _ hv
    have h6 := h.1
    omega
theorem mm_mn {A : Nat → Int} {v lim s : Nat} {r : Int} (hv : 1 ≤ v) (hs : s ≤ 2000) (hA : ∀ x, x ≤ s → A x = 1000000 ∨ (0 ≤ A x ∧ A x ≤ x)) (h : isMm A v lim s r) : isMn (fun x => dE (A x)) v lim s (dE r) := by
  by_cases hr : r = 1000000
  · left
    refine ⟨if_pos hr, fun j h1 h2 => ?_⟩
    have h3 := h.2.1 j h1 h2
    have h4 := hA (s - j * v) (Nat.sub_le _ _)
    have h5 : j ≤ j * v := Nat.le_mul_of_pos_right _ hv
    exact if_pos (by omega)
  · right
    rcases h.2.2 with h1 | ⟨j, h1, h2, h3⟩
    · exact absurd h1 hr
    · have h4 := hA (s - j * v) (Nat.sub_le _ _)
      have h6 := h.1
      have e1 : dE (A (s - j * v)) = A (s - j * v) := if_neg (by omega)
      have e2 : dE r = r := if_neg hr
      refine ⟨j, h1, h2, ?_, ?_, fun j' h7 h8 h9 => ?_⟩
      · show dE (A (s - j * v)) ≠ -1
        rw [e1]
        omega
      · show dE r = dE (A (s - j * v)) + (j : Int)
        rw [e1, e2]
        exact h3
      · show dE r ≤ dE (A (s - j' * v)) + (j' : Int)
        have h10 := h.2.1 j' h7 h8
        have e3 : dE (A (s - j' * v)) = A (s - j' * v) := if_neg (fun q => h9 (if_pos q))
        rw [e2, e3]
        exact h10
def fOK (Fw : Nat → Int) (val B bd : Nat → Nat) (n sm i : Nat) : Prop := (∀ s1, s1 ≤ sm → Fw (2001 * n + s1) = if s1 = 0 then 0 else 1000000) ∧ (∀ k, i ≤ k → k < n → ∀ s1, s1 ≤ sm → isMm (fun x => Fw (2001 * (k + 1) + x)) (val (B k)) (bd (B k)) s1 (Fw (2001 * k + s1))) ∧ (∀ k, i ≤ k → k ≤ n → ∀ s1, s1 ≤ sm → Fw (2001 * k + s1) = 1000000 ∨ (0 ≤ Fw (2001 * k + s1) ∧ Fw (2001 * k + s1) ≤ s1))
theorem fOK_up {Fw : Nat → Int} {val B bd : Nat → Nat} {n sm k s : Nat} {b : Int} (hs : s ≤ 2000) (hk : k < n) (h : fOK Fw val B bd n sm (k + 1)) : fOK (va_up Fw (2001 * k + s) b) val B bd n sm (k + 1) := by
  refine ⟨fun s1 h1 => ?_, fun k1 h1 h2 s1 h3 => ?_, fun k1 h1 h2 s1 h3 => ?_⟩
  · rw [va_up_ne _ _ (by omega)]
    exact h.1 s1 h1
  · rw [va_up_ne _ _ (by omega)]
    have e : (fun x => va_up Fw (2001 * k + s) b (2001 * (k1 + 1) + x)) = fun x => Fw (2001 * (k1 + 1) + x) := funext fun x => va_up_ne _ _ (by omega)
    rw [e]
    exact h.2.1 k1 h1 h2 s1 h3
  · rw [va_up_ne _ _ (by omega)]
    exact h.2.2 k1 h1 h2 s1 h3
theorem fOK_dn {Fw : Nat → Int} {val B bd : Nat → Nat} {n sm k : Nat} (hk : k < n) (h : fOK Fw val B bd n sm (k + 1)) (hr : ∀ j, j < sm + 1 → isMm (fun x => Fw (2001 * (k + 1) + x)) (val (B k)) (bd (B k)) j (Fw (2001 * k + j)) ∧ (Fw (2001 * k + j) = 1000000 ∨ (0 ≤ Fw (2001 * k + j) ∧ Fw (2001 * k + j) ≤ j))) : fOK Fw val B bd n sm k := by
  refine ⟨h.1, fun k1 h1 h2 s1 h3 => ?_, fun k1 h1 h2 s1 h3 => ?_⟩
  · by_cases e : k1 = k
    · rw [e]
      exact (hr s1 (by omega)).1
    · exact h.2.1 k1 (by omega) h2 s1 h3
  · by_cases e : k1 = k
    · rw [e]
      exact (hr s1 (by omega)).2
    · exact h.2.2 k1 (by omega) h2 s1 h3
theorem fOK_row {Fw : Nat → Int} {k s : Nat} {b : Int} {v lim : Nat} (hs : s ≤ 2000) (hr : ∀ j, j < s → isMm (fun x => Fw (2001 * (k + 1) + x)) v lim j (Fw (2001 * k + j)) ∧ (Fw (2001 * k + j) = 1000000 ∨ (0 ≤ Fw (2001 * k + j) ∧ Fw (2001 * k + j) ≤ j))) (hb : isMm (fun x => Fw (2001 * (k + 1) + x)) v lim s b ∧ (b = 1000000 ∨ (0 ≤ b ∧ b ≤ s))) : ∀ j, j < s + 1 → isMm (fun x => va_up Fw (2001 * k + s) b (2001 * (k + 1) + x)) v lim j (va_up Fw (2001 * k + s) b (2001 * k + j)) ∧ (va_up Fw (2001 * k + s) b (2001 * k + j) = 1000000 ∨ (0 ≤ va_up Fw (2001 * k + s) b (2001 * k + j) ∧ va_up Fw (2001 * k + s) b (2001 * k + j) ≤ j)) := by
  intro j hj
  have e : (fun x => va_up Fw (2001 * k + s) b (2001 * (k + 1) + x)) = fun x => Fw (2001 * (k + 1) + x) := funext fun x => va_up_ne _ _ (by omega)
  rw [e]
  by_cases h : j = s
  · rw [h, va_up_self]
    exact hb
  · rw [va_up_ne _ _ (by omega)]
    exact hr j (by omega)
def tbF (Fw : Nat → Int) (n : Nat) : Nat → Nat → Int := fun k s => dE (Fw (2001 * (n - k) + s))
theorem tbF_ok {Fw : Nat → Int} {val B bd : Nat → Nat} {n sm : Nat} (hsm : sm ≤ 2000) (hv : ∀ k, k < n → 1 ≤ val (B k)) (h : fOK Fw val B bd n sm 0) : tbOK val B bd n sm (tbF Fw n) := by
  refine ⟨fun s1 h1 => ?_, fun k hk s1 h1 => ?_⟩
  · show dE (Fw (2001 * (n - 0) + s1)) = _
    rw [Nat.sub_zero, h.1 s1 h1]
    split <;> rfl
  · have h2 := h.2.1 (n - 1 - k) (Nat.zero_le _) (by omega) s1 h1
    have e1 : tbF Fw n k = fun x => dE (Fw (2001 * (n - 1 - k + 1) + x)) := by
      funext x
      show dE (Fw (2001 * (n - k) + x)) = _
      rw [show n - 1 - k + 1 = n - k by omega]
    have e2 : tbF Fw n (k + 1) s1 = dE (Fw (2001 * (n - 1 - k) + s1)) := by
      show dE (Fw (2001 * (n - (k + 1)) + s1)) = _
      rw [show n - (k + 1) = n - 1 - k by omega]
    rw [e1, e2]
    exact mm_mn (A := fun x => Fw (2001 * (n - 1 - k + 1) + x)) (hv _ (by omega)) (by omega) (fun x hx => h.2.2 (n - 1 - k + 1) (Nat.zero_le _) (by omega) x (by omega)) h2
theorem fOK_wr {Fw : Nat → Int} {val B bd : Nat → Nat} {n sm q lf ii v : Nat} (hq : q < n) (h : fOK Fw val B bd n sm 0) (hlf : lf ≤ sm) (hsm : sm ≤ 2000) (hne : ¬ tbF Fw n (n - q) lf = -1) : wrP (tbF Fw n) (n - q) v lf ii = decide ((ii : Int) + Fw (2001 * (q + 1) + (lf - ii * v)) = Fw (2001 * q + lf)) := by
  unfold wrP
  have h1 := h.2.2 (q + 1) (Nat.zero_le _) (by omega) (lf - ii * v) (Nat.le_trans (Nat.sub_le _ _) hlf)
  have h2 := h.2.2 q (Nat.zero_le _) (by omega) lf hlf
  have e1 : tbF Fw n (n - q - 1) (lf - ii * v) = dE (Fw (2001 * (q + 1) + (lf - ii * v))) := by
    show dE (Fw (2001 * (n - (n - q - 1)) + _)) = _
    rw [show n - (n - q - 1) = q + 1 by omega]
  have e2 : tbF Fw n (n - q) lf = dE (Fw (2001 * q + lf)) := by
    show dE (Fw (2001 * (n - (n - q)) + _)) = _
    rw [show n - (n - q) = q by omega]
  rw [e2] at hne
  rw [e1, e2]
  have hs : lf - ii * v ≤ 2000 := by omega
  generalize Fw (2001 * (q + 1) + (lf - ii * v)) = a at h1 ⊢
  generalize Fw (2001 * q + lf) = b at h2 hne ⊢
  have hb : b ≠ 1000000 := fun e => hne (if_pos e)
  have eb : dE b = b := if_neg hb
  rw [eb]
  by_cases ha : a = 1000000
  · rw [ha]
    refine decide_eq_decide.mpr ⟨fun h3 => absurd (if_pos rfl) h3.1, fun h3 => ?_⟩
    omega
  · have ea : dE a = a := if_neg ha
    rw [ea]
    refine decide_eq_decide.mpr ⟨fun h3 => by omega, fun h3 => ⟨by omega, by omega⟩⟩
theorem mn_ex {A : Nat → Int} {v lim s : Nat} {r : Int} (hv : 1 ≤ v) (h : isMn A v lim s r) (hr : ¬ r = -1) : ∃ j, j ≤ min lim (s / v) ∧ ¬ A (s - j * v) = -1 ∧ A (s - j * v) + (j : Int) = r := by
  rcases h with ⟨h1, -⟩ | ⟨j, h1, h2, h3, h4, -⟩
  · exact absurd h1 hr
  · have h5 : j ≤ s / v := (Nat.le_div_iff_mul_le hv).mpr h2
    exact ⟨j, by omega, h3, h4.symm⟩
theorem dn_at {P : Nat → Bool} : ∀ n, P n = true → dn P n = n
  | 0, _ => rfl
  | n + 1, h => dn_y h
theorem wrL_ok {tb : Nat → Nat → Int} {val fal lim : Nat → Nat} {cnt sm j n : Nat} (hn : wrN tb val fal lim cnt (wrL tb val fal lim cnt sm j) j = n) (hp : wrP tb (cnt - j) (val (fal j)) (wrL tb val fal lim cnt sm j) n = true) : ¬ tb (cnt - (j + 1)) (wrL tb val fal lim cnt sm (j + 1)) = -1 := by
  have h1 := (of_decide_eq_true hp).1
  show ¬ tb (cnt - (j + 1)) (wrL tb val fal lim cnt sm j - wrN tb val fal lim cnt (wrL tb val fal lim cnt sm j) j * val (fal j)) = -1
  rw [hn, show cnt - (j + 1) = cnt - j - 1 by omega]
  exact h1
set_option maxHeartbeats 4000000 in
set_option maxRecDepth 100000 in
theorem c_X7_sortCoins {l : Launch} {G : nG} {N : Nat} {ad : Nat → Nat} {w : Nat → va_E} {sz : Nat} (y : Nat) (Co Va : Nat → Nat) (sy : Nat) (b9 : Nat → Nat) (hN : y + 26 < N) (hCo : ∀ k, k < 2 → Co k ≤ 8) (hVa : ∀ k, k < 16 → Va k ≤ 1000) (hs : sy < 2) (f_y : w y = .inr (7, [.int (iI 0), .ref (ad (y + 1)), .ref (ad (y + 2)), .ref (ad (y + 3)), .ref (ad (y + 4)), .ref (ad (y + 5)), .ref (ad (y + 6)), .ref (ad (y + 7)), .ref (ad (y + 8)), .ref (ad (y + 9)), .ref (ad (y + 10)), .ref (ad (y + 11)), .ref (ad (y + 12)), .ref (ad (y + 13)), .ref (ad (y + 14)), .ref (ad (y + 15)), .ref (ad (y + 16)), .ref (ad (y + 17)), .ref (ad (y + 18)), .ref (ad (y + 19)), .ref (ad (y + 20)), .ref (ad (y + 21)), .ref (ad (y + 22)), .ref (ad (y + 23)), .ref (ad (y + 24)), .ref (ad (y + 25)), .ref (ad (y + 26))])) (f_Co : w (y + 1) = aI G 8 (fun q => (Co q : Int))) (f_Va : w (y + 2) = aI G 64 (fun q => (Va q : Int))) (f_by : w (y + 19) = aI G 8 (fun q => (b9 q : Int))) : Met l yX7_sortCoins wsX7_sortCoins ({ frames := 0, cells := 0, slots := 0, locals := 0 }) (va_Pc [.ref (ad y), .int (iI ((sy : Nat) : Int))] (nB G N ad w sz)) (nPv G N ad sz (fun u => (∀ j, j ≠ (y + 19) → u j = w j) ∧ (u (y + 19) = aI G 8 (fun k => (srt (fun q9 => Va (8 * sy + q9)) b9 (Co sy) k : Int))))) 0 0 (nA N ad sz) := by
  refine n_ent (cc := cX7_sortCoins) (maxL := 4) (ret := (none : Option Jvm.ClassFile.FieldType)) (by decide) rfl (Nat.le_of_ble_eq_true rfl) ?_
  intro p e s m below meth cd hx hb hr hml hlocks hts hown hnm hsz hP hK hI Q hQ ls hl
  have hown : s.vm.findClass RX7 = some m.cls := hown
  subst hsz
  have hJ := hI.J s.heap.size
  have hS : va_S (nA N ad s.heap.size) s.heap s.heap [] := va_S.rf
  have hfr : ∀ j, j ≠ (y + 19) → w j = w j := fun _ _ => rfl
  have hl : lv_has ls 4 [(0, .ref (ad y)), (1, .int (iI ((sy : Nat) : Int)))] := hl
  have hcs := hCo sy hs
  refine n_iconst hx hb dX7_sortCoins_0 ?_
  refine lv_istore_n (lv' := [(2, .int (iI 0)), (0, .ref (ad y)), (1, .int (iI ((sy : Nat) : Int)))]) hx hb dX7_sortCoins_1 rfl hl (by decide) rfl (fun ls hl => ?_)
  have lp1 : ∀ (fu : Nat), ∀ (q : Nat), ∀ (w2 : Nat → va_E) (H : Heap) (locs : List Loc), ∀ (ls : Array Slot), Co sy - q < fu → q ≤ Co sy → (∀ j, j ≠ (y + 19) → w2 j = w j) → w2 y = .inr (7, [.int (iI 0), .ref (ad (y + 1)), .ref (ad (y + 2)), .ref (ad (y + 3)), .ref (ad (y + 4)), .ref (ad (y + 5)), .ref (ad (y + 6)), .ref (ad (y + 7)), .ref (ad (y + 8)), .ref (ad (y + 9)), .ref (ad (y + 10)), .ref (ad (y + 11)), .ref (ad (y + 12)), .ref (ad (y + 13)), .ref (ad (y + 14)), .ref (ad (y + 15)), .ref (ad (y + 16)), .ref (ad (y + 17)), .ref (ad (y + 18)), .ref (ad (y + 19)), .ref (ad (y + 20)), .ref (ad (y + 21)), .ref (ad (y + 22)), .ref (ad (y + 23)), .ref (ad (y + 24)), .ref (ad (y + 25)), .ref (ad (y + 26))]) → w2 (y + 1) = aI G 8 (fun q => (Co q : Int)) → w2 (y + 2) = aI G 64 (fun q => (Va q : Int)) → w2 (y + 19) = aI G 8 (fun k => ((srt (fun q9 => Va (8 * sy + q9)) b9 q) k : Int)) → va_P G.1 vwCl (nL N ad w2) H → va_S (nA N ad s.heap.size) s.heap H locs → lv_has ls 4 [(0, .ref (ad y)), (1, .int (iI ((sy : Nat) : Int))), (2, .int (iI ((q : Nat) : Int)))] → W p l e ({ frames := 0, cells := 0, slots := 0, locals := 0 } : Room) s m ([.ref (ad y), .int (iI ((sy : Nat) : Int))] : List Value).toArray below meth cd H locs 0 0 Q (F0 m 2 ls []) := by
    intro fu
    induction fu with
    | zero =>
      intro q w2 H locs ls hfu hq hfr f_y f_Co f_Va f_by hP hS hl
      exact absurd hfu (Nat.not_lt_zero _)
    | succ fu ih3 =>
      intro q w2 H locs ls hfu hq hfr f_y f_Co f_Va f_by hP hS hl
      refine lv_iload_n hx hb dX7_sortCoins_2 rfl (lv_at hl 2 rfl) ?_
      refine lv_aload_n hx hb dX7_sortCoins_3 rfl (lv_at hl 0 rfl) ?_
      refine n_get hx hb hts u_X7 hown hK hP (by omega) f_y rfl 1 (by decide) (nT_m wf_X7_7) rfl dX7_sortCoins_4 ?_
      refine lv_iload_n hx hb dX7_sortCoins_7 rfl (lv_at hl 1 rfl) ?_
      refine n_iald hx hb hK hP sy (by omega) f_Co (by omega) (by omega) (by decide) dX7_sortCoins_8 ?_
      have ho4 := hCo sy (by omega)
      refine n_icmp_ge (tgt := 83) hx hb dX7_sortCoins_9 (by decide) (by omega) (by omega) (fun hc9 => ?_) (fun hc9 => ?_)
      · skip
        refine n_vretP hQ hx hb hr hlocks hP hS dX7_sortCoins_83 ?_
        exact ⟨hfr, f_by.trans (congrArg (fun x => aI G 8 (fun k => (srt (fun q9 => Va (8 * sy + q9)) b9 x k : Int))) (by omega))⟩
      · skip
        refine lv_iload_n hx hb dX7_sortCoins_12 rfl (lv_at hl 2 rfl) ?_
        refine lv_istore_n (lv' := [(3, .int (iI ((q : Nat) : Int))), (0, .ref (ad y)), (1, .int (iI ((sy : Nat) : Int))), (2, .int (iI ((q : Nat) : Int)))]) hx hb dX7_sortCoins_13 rfl hl (by decide) rfl (fun ls hl => ?_)
        have lp5 : ∀ (fu : Nat), ∀ (pp : Nat), ∀ (w6 : Nat → va_E) (H : Heap) (locs : List Loc), ∀ (ls : Array Slot), pp < fu → pp ≤ q → insP (fun q9 => Va (8 * sy + q9)) (srt (fun q9 => Va (8 * sy + q9)) b9 q) ((fun q9 => Va (8 * sy + q9)) q) pp = insP (fun q9 => Va (8 * sy + q9)) (srt (fun q9 => Va (8 * sy + q9)) b9 q) ((fun q9 => Va (8 * sy + q9)) q) q → (∀ j, j ≠ (y + 19) → w6 j = w j) → w6 y = .inr (7, [.int (iI 0), .ref (ad (y + 1)), .ref (ad (y + 2)), .ref (ad (y + 3)), .ref (ad (y + 4)), .ref (ad (y + 5)), .ref (ad (y + 6)), .ref (ad (y + 7)), .ref (ad (y + 8)), .ref (ad (y + 9)), .ref (ad (y + 10)), .ref (ad (y + 11)), .ref (ad (y + 12)), .ref (ad (y + 13)), .ref (ad (y + 14)), .ref (ad (y + 15)), .ref (ad (y + 16)), .ref (ad (y + 17)), .ref (ad (y + 18)), .ref (ad (y + 19)), .ref (ad (y + 20)), .ref (ad (y + 21)), .ref (ad (y + 22)), .ref (ad (y + 23)), .ref (ad (y + 24)), .ref (ad (y + 25)), .ref (ad (y + 26))]) → w6 (y + 1) = aI G 8 (fun q => (Co q : Int)) → w6 (y + 2) = aI G 64 (fun q => (Va q : Int)) → w6 (y + 19) = aI G 8 (fun k => ((insQ (srt (fun q9 => Va (8 * sy + q9)) b9 q) q pp) k : Int)) → va_P G.1 vwCl (nL N ad w6) H → va_S (nA N ad s.heap.size) s.heap H locs → lv_has ls 4 [(0, .ref (ad y)), (1, .int (iI ((sy : Nat) : Int))), (2, .int (iI ((q : Nat) : Int))), (3, .int (iI ((pp : Nat) : Int)))] → W p l e ({ frames := 0, cells := 0, slots := 0, locals := 0 } : Room) s m ([.ref (ad y), .int (iI ((sy : Nat) : Int))] : List Value).toArray below meth cd H locs 0 0 Q (F0 m 14 ls []) := by
          intro fu
          induction fu with
          | zero =>
            intro pp w6 H locs ls hfu hpq hp hfr f_y f_Co f_Va f_by hP hS hl
            exact absurd hfu (Nat.not_lt_zero _)
          | succ fu ih7 =>
            intro pp w6 H locs ls hfu hpq hp hfr f_y f_Co f_Va f_by hP hS hl
            refine lv_iload_n hx hb dX7_sortCoins_14 rfl (lv_at hl 3 rfl) ?_
            refine n_if_le (tgt := 70) hx hb dX7_sortCoins_15 (by decide) (by omega) (fun hc15 => ?_) (fun hc15 => ?_)
            · skip
              refine lv_aload_n hx hb dX7_sortCoins_70 rfl (lv_at hl 0 rfl) ?_
              refine n_get hx hb hts u_X7 hown hK hP (by omega) f_y rfl 19 (by decide) (nT_m wf_X7_65) rfl dX7_sortCoins_71 ?_
              refine lv_iload_n hx hb dX7_sortCoins_74 rfl (lv_at hl 3 rfl) ?_
              refine lv_iload_n hx hb dX7_sortCoins_75 rfl (lv_at hl 2 rfl) ?_
              refine n_iast hx hb hK hJ hP hS pp (by omega) f_by (by omega) (by omega) (by decide) dX7_sortCoins_76 (fun w8 H locs f_by hne9 hP hS => ?_)
              have f_y := (hne9 y (by omega)).trans f_y
              have f_Co := (hne9 (y + 1) (by omega)).trans f_Co
              have f_Va := (hne9 (y + 2) (by omega)).trans f_Va
              have hfr : ∀ j, j ≠ (y + 19) → w8 j = w j := fun j a0 => (hne9 j (by omega)).trans (hfr j a0)
              refine lv_iinc (v := iI (((q : Nat) : Int) + 1)) (lv' := [(2, .int (iI (((q : Nat) : Int) + 1))), (0, .ref (ad y)), (1, .int (iI ((sy : Nat) : Int))), (3, .int (iI ((pp : Nat) : Int)))]) hx hb dX7_sortCoins_77 hl (k := 2) rfl (by first | exact iI_add _ _ | exact (iI_add _ _).trans (congrArg iI (by omega))) (by decide) rfl (fun ls hl => ?_)
              refine lv_goto (tgt := 2) hx hb dX7_sortCoins_80 (by decide) ?_
              have e9 : insP (fun q9 => Va (8 * sy + q9)) (srt (fun q9 => Va (8 * sy + q9)) b9 q) ((fun q9 => Va (8 * sy + q9)) q) q = pp := by
                rw [← hp]
                cases pp with
                | zero => rfl
                | succ p1 =>
                  refine insP_ge ?_
                  show ¬ Va (8 * sy + (srt (fun q9 => Va (8 * sy + q9)) b9 q) p1) < Va (8 * sy + q)
                  omega
                  
              exact ih3 (q + 1) _ _ _ _ (by omega) (by omega) hfr f_y f_Co f_Va (f_by.trans (congrArg (aI G 8) (by show _ = fun k => ((insF (srt (fun q9 => Va (8 * sy + q9)) b9 q) q (insP (fun q9 => Va (8 * sy + q9)) (srt (fun q9 => Va (8 * sy + q9)) b9 q) ((fun q9 => Va (8 * sy + q9)) q) q) k : Nat) : Int); rw [e9]; exact insQ_F _ q pp))) hP hS (by first | exact lv_sub hl [1, 2, 0] rfl | exact lv_cast (lv_sub (l' := [(0, .ref (ad y)), (1, .int (iI ((sy : Nat) : Int))), (2, .int (iI (((q : Nat) : Int) + 1)))]) hl [1, 2, 0] rfl) (lc_s (lc_s (lc_i (show ((((q : Nat) : Int) + 1) : Int) = (((q + 1) : Nat) : Int) by omega) rfl))))
            · skip
              have hf8 : (insQ (srt (fun q9 => Va (8 * sy + q9)) b9 q) q pp) (pp - 1) < 8 := by rw [insQ_lo _ (by omega)]; exact Nat.lt_of_lt_of_le (srt_lt (fun q9 => Va (8 * sy + q9)) b9 q (pp - 1) (by omega)) (by omega)
              refine lv_aload_n hx hb dX7_sortCoins_18 rfl (lv_at hl 0 rfl) ?_
              refine n_get hx hb hts u_X7 hown hK hP (by omega) f_y rfl 2 (by decide) (nT_m wf_X7_13) rfl dX7_sortCoins_19 ?_
              refine n_bipush hx hb dX7_sortCoins_22 (by decide) ?_
              refine lv_iload_n hx hb dX7_sortCoins_24 rfl (lv_at hl 1 rfl) ?_
              refine n_imul hx hb dX7_sortCoins_25 ?_
              refine lv_aload_n hx hb dX7_sortCoins_26 rfl (lv_at hl 0 rfl) ?_
              refine n_get hx hb hts u_X7 hown hK hP (by omega) f_y rfl 19 (by decide) (nT_m wf_X7_65) rfl dX7_sortCoins_27 ?_
              refine lv_iload_n hx hb dX7_sortCoins_30 rfl (lv_at hl 3 rfl) ?_
              refine n_iconst hx hb dX7_sortCoins_31 ?_
              refine n_isub hx hb dX7_sortCoins_32 ?_
              refine n_iald hx hb hK hP (pp - 1) (by omega) f_by (by omega) (by omega) (by decide) dX7_sortCoins_33 ?_
              refine n_iadd hx hb dX7_sortCoins_34 ?_
              refine n_iald hx hb hK hP ((8 * sy) + ((insQ (srt (fun q9 => Va (8 * sy + q9)) b9 q) q pp) (pp - 1))) (by omega) f_Va (by omega) (by omega) (by decide) dX7_sortCoins_35 ?_
              have ho10 := hVa ((8 * sy) + ((insQ (srt (fun q9 => Va (8 * sy + q9)) b9 q) q pp) (pp - 1))) (by omega)
              refine lv_aload_n hx hb dX7_sortCoins_36 rfl (lv_at hl 0 rfl) ?_
              refine n_get hx hb hts u_X7 hown hK hP (by omega) f_y rfl 2 (by decide) (nT_m wf_X7_13) rfl dX7_sortCoins_37 ?_
              refine n_bipush hx hb dX7_sortCoins_40 (by decide) ?_
              refine lv_iload_n hx hb dX7_sortCoins_42 rfl (lv_at hl 1 rfl) ?_
              refine n_imul hx hb dX7_sortCoins_43 ?_
              refine lv_iload_n hx hb dX7_sortCoins_44 rfl (lv_at hl 2 rfl) ?_
              refine n_iadd hx hb dX7_sortCoins_45 ?_
              refine n_iald hx hb hK hP ((8 * sy) + q) (by omega) f_Va (by omega) (by omega) (by decide) dX7_sortCoins_46 ?_
              have ho11 := hVa ((8 * sy) + q) (by omega)
              refine n_icmp_ge (tgt := 70) hx hb dX7_sortCoins_47 (by decide) (by omega) (by omega) (fun hc47 => ?_) (fun hc47 => ?_)
              · skip
                refine lv_aload_n hx hb dX7_sortCoins_70 rfl (lv_at hl 0 rfl) ?_
                refine n_get hx hb hts u_X7 hown hK hP (by omega) f_y rfl 19 (by decide) (nT_m wf_X7_65) rfl dX7_sortCoins_71 ?_
                refine lv_iload_n hx hb dX7_sortCoins_74 rfl (lv_at hl 3 rfl) ?_
                refine lv_iload_n hx hb dX7_sortCoins_75 rfl (lv_at hl 2 rfl) ?_
                refine n_iast hx hb hK hJ hP hS pp (by omega) f_by (by omega) (by omega) (by decide) dX7_sortCoins_76 (fun w12 H locs f_by hne13 hP hS => ?_)
                have f_y := (hne13 y (by omega)).trans f_y
                have f_Co := (hne13 (y + 1) (by omega)).trans f_Co
                have f_Va := (hne13 (y + 2) (by omega)).trans f_Va
                have hfr : ∀ j, j ≠ (y + 19) → w12 j = w j := fun j a0 => (hne13 j (by omega)).trans (hfr j a0)
                refine lv_iinc (v := iI (((q : Nat) : Int) + 1)) (lv' := [(2, .int (iI (((q : Nat) : Int) + 1))), (0, .ref (ad y)), (1, .int (iI ((sy : Nat) : Int))), (3, .int (iI ((pp : Nat) : Int)))]) hx hb dX7_sortCoins_77 hl (k := 2) rfl (by first | exact iI_add _ _ | exact (iI_add _ _).trans (congrArg iI (by omega))) (by decide) rfl (fun ls hl => ?_)
                refine lv_goto (tgt := 2) hx hb dX7_sortCoins_80 (by decide) ?_
                have e9 : insP (fun q9 => Va (8 * sy + q9)) (srt (fun q9 => Va (8 * sy + q9)) b9 q) ((fun q9 => Va (8 * sy + q9)) q) q = pp := by
                  rw [← hp]
                  cases pp with
                  | zero => rfl
                  | succ p1 =>
                    refine insP_ge ?_
                    show ¬ Va (8 * sy + (srt (fun q9 => Va (8 * sy + q9)) b9 q) p1) < Va (8 * sy + q)
                    rw [show p1 + 1 - 1 = p1 by omega, insQ_lo _ (by omega)] at hc47
                    omega
                exact ih3 (q + 1) _ _ _ _ (by omega) (by omega) hfr f_y f_Co f_Va (f_by.trans (congrArg (aI G 8) (by show _ = fun k => ((insF (srt (fun q9 => Va (8 * sy + q9)) b9 q) q (insP (fun q9 => Va (8 * sy + q9)) (srt (fun q9 => Va (8 * sy + q9)) b9 q) ((fun q9 => Va (8 * sy + q9)) q) q) k : Nat) : Int); rw [e9]; exact insQ_F _ q pp))) hP hS (by first | exact lv_sub hl [1, 2, 0] rfl | exact lv_cast (lv_sub (l' := [(0, .ref (ad y)), (1, .int (iI ((sy : Nat) : Int))), (2, .int (iI (((q : Nat) : Int) + 1)))]) hl [1, 2, 0] rfl) (lc_s (lc_s (lc_i (show ((((q : Nat) : Int) + 1) : Int) = (((q + 1) : Nat) : Int) by omega) rfl))))
              · skip
                refine lv_aload_n hx hb dX7_sortCoins_50 rfl (lv_at hl 0 rfl) ?_
                refine n_get hx hb hts u_X7 hown hK hP (by omega) f_y rfl 19 (by decide) (nT_m wf_X7_65) rfl dX7_sortCoins_51 ?_
                refine lv_iload_n hx hb dX7_sortCoins_54 rfl (lv_at hl 3 rfl) ?_
                refine lv_aload_n hx hb dX7_sortCoins_55 rfl (lv_at hl 0 rfl) ?_
                refine n_get hx hb hts u_X7 hown hK hP (by omega) f_y rfl 19 (by decide) (nT_m wf_X7_65) rfl dX7_sortCoins_56 ?_
                refine lv_iload_n hx hb dX7_sortCoins_59 rfl (lv_at hl 3 rfl) ?_
                refine n_iconst hx hb dX7_sortCoins_60 ?_
                refine n_isub hx hb dX7_sortCoins_61 ?_
                refine n_iald hx hb hK hP (pp - 1) (by omega) f_by (by omega) (by omega) (by decide) dX7_sortCoins_62 ?_
                refine n_iast hx hb hK hJ hP hS pp (by omega) f_by (by omega) (by omega) (by decide) dX7_sortCoins_63 (fun w14 H locs f_by hne15 hP hS => ?_)
                have f_y := (hne15 y (by omega)).trans f_y
                have f_Co := (hne15 (y + 1) (by omega)).trans f_Co
                have f_Va := (hne15 (y + 2) (by omega)).trans f_Va
                have hfr : ∀ j, j ≠ (y + 19) → w14 j = w j := fun j a0 => (hne15 j (by omega)).trans (hfr j a0)
                refine lv_iinc (v := iI (((pp : Nat) : Int) - 1)) (lv' := [(3, .int (iI (((pp : Nat) : Int) - 1))), (0, .ref (ad y)), (1, .int (iI ((sy : Nat) : Int))), (2, .int (iI ((q : Nat) : Int)))]) hx hb dX7_sortCoins_64 hl (k := 3) rfl (by first | exact iI_add _ _ | exact (iI_add _ _).trans (congrArg iI (by omega))) (by decide) rfl (fun ls hl => ?_)
                refine lv_goto (tgt := 14) hx hb dX7_sortCoins_67 (by decide) ?_
                obtain ⟨p1, rfl⟩ : ∃ p1, pp = p1 + 1 := ⟨pp - 1, by omega⟩
                rw [insQ_lo _ (by omega)] at hc47
                have hlt : (fun q9 => Va (8 * sy + q9)) ((srt (fun q9 => Va (8 * sy + q9)) b9 q) p1) < (fun q9 => Va (8 * sy + q9)) q := by show Va (8 * sy + (srt (fun q9 => Va (8 * sy + q9)) b9 q) p1) < Va (8 * sy + q); rw [show p1 + 1 - 1 = p1 by omega] at hc47; omega
                exact ih7 p1 _ _ _ _ (by omega) (by omega) ((insP_lt (val := (fun q9 => Va (8 * sy + q9))) (fal := (srt (fun q9 => Va (8 * sy + q9)) b9 q)) (q := p1) hlt).symm.trans hp) hfr f_y f_Co f_Va (f_by.trans (congrArg (aI G 8) (by rw [show p1 + 1 - 1 = p1 by omega]; exact insQ_s (srt (fun q9 => Va (8 * sy + q9)) b9 q) (by omega)))) hP hS (by first | exact lv_sub hl [1, 2, 3, 0] rfl | exact lv_cast (lv_sub (l' := [(0, .ref (ad y)), (1, .int (iI ((sy : Nat) : Int))), (2, .int (iI ((q : Nat) : Int))), (3, .int (iI ((((p1 + 1) : Nat) : Int) - 1)))]) hl [1, 2, 3, 0] rfl) (lc_s (lc_s (lc_s (lc_i (show (((((p1 + 1) : Nat) : Int) - 1) : Int) = ((p1 : Nat) : Int) by omega) rfl)))))
        exact lp5 (q + 1) q _ _ _ _ (Nat.lt_succ_self _) (by omega) rfl hfr f_y f_Co f_Va (f_by.trans (by rw [insQ_0])) hP hS (lv_sub hl [1, 2, 3, 0] rfl)
  exact lp1 (Co sy - 0 + 1) 0 _ _ _ _ (Nat.lt_succ_self _) (by omega) hfr f_y f_Co f_Va f_by hP hS (by first | exact lv_sub hl [1, 2, 0] rfl | exact lv_cast (lv_sub (l' := [(0, .ref (ad y)), (1, .int (iI ((sy : Nat) : Int))), (2, .int (iI 0))]) hl [1, 2, 0] rfl) (lc_s (lc_s (lc_i (show (0 : Int) = ((0 : Nat) : Int) by omega) rfl))))
set_option maxHeartbeats 4000000 in
set_option maxRecDepth 100000 in
theorem c_X7_greedyOf {l : Launch} {G : nG} {N : Nat} {ad : Nat → Nat} {w : Nat → va_E} {sz : Nat} (y : Nat) (Co Va : Nat → Nat) (sy sum : Nat) (B : Nat → Nat) (hN : y + 26 < N) (hCo : ∀ k, k < 2 → Co k ≤ 8) (hVa : ∀ k, k < 16 → Va k ≤ 1000) (hs : sy < 2) (hsm : sum ≤ 2000) (hB : ∀ j, j < Co sy → B j < Co sy) (hV1 : ∀ k, k < Co sy → 1 ≤ Va (8 * sy + k)) (f_y : w y = .inr (7, [.int (iI 0), .ref (ad (y + 1)), .ref (ad (y + 2)), .ref (ad (y + 3)), .ref (ad (y + 4)), .ref (ad (y + 5)), .ref (ad (y + 6)), .ref (ad (y + 7)), .ref (ad (y + 8)), .ref (ad (y + 9)), .ref (ad (y + 10)), .ref (ad (y + 11)), .ref (ad (y + 12)), .ref (ad (y + 13)), .ref (ad (y + 14)), .ref (ad (y + 15)), .ref (ad (y + 16)), .ref (ad (y + 17)), .ref (ad (y + 18)), .ref (ad (y + 19)), .ref (ad (y + 20)), .ref (ad (y + 21)), .ref (ad (y + 22)), .ref (ad (y + 23)), .ref (ad (y + 24)), .ref (ad (y + 25)), .ref (ad (y + 26))])) (f_Co : w (y + 1) = aI G 8 (fun q => (Co q : Int))) (f_Va : w (y + 2) = aI G 64 (fun q => (Va q : Int))) (f_by : w (y + 19) = aI G 8 (fun q => (B q : Int))) : Met l yX7_greedyOf wsX7_greedyOf ({ frames := 0, cells := 0, slots := 0, locals := 0 }) (va_Pc [.ref (ad y), .int (iI ((sy : Nat) : Int)), .int (iI ((sum : Nat) : Int))] (nB G N ad w sz)) (nRd (.int (iI (grV (fun q9 => Va (8 * sy + q9)) B (Co sy) sum)))) 0 0 (fun _ => False) := by
  refine n_ent (cc := cX7_greedyOf) (maxL := 7) (ret := (some .int)) (by decide) rfl (Nat.le_of_ble_eq_true rfl) ?_
  intro p e s m below meth cd hx hb hr hml hlocks hts hown hnm hsz hP hK hI Q hQ ls hl
  have hown : s.vm.findClass RX7 = some m.cls := hown
  have hl : lv_has ls 7 [(0, .ref (ad y)), (1, .int (iI ((sy : Nat) : Int))), (2, .int (iI ((sum : Nat) : Int)))] := hl
  have hcs := hCo sy hs
  refine lv_iload_n hx hb dX7_greedyOf_0 rfl (lv_at hl 2 rfl) ?_
  refine lv_istore_n (lv' := [(3, .int (iI ((sum : Nat) : Int))), (0, .ref (ad y)), (1, .int (iI ((sy : Nat) : Int))), (2, .int (iI ((sum : Nat) : Int)))]) hx hb dX7_greedyOf_1 rfl hl (by decide) rfl (fun ls hl => ?_)
  refine n_iconst hx hb dX7_greedyOf_2 ?_
  refine lv_istore (lv' := [(4, .int (iI 0)), (3, .int (iI ((sum : Nat) : Int))), (0, .ref (ad y)), (1, .int (iI ((sy : Nat) : Int))), (2, .int (iI ((sum : Nat) : Int)))]) hx hb dX7_greedyOf_3 hl (by decide) rfl (fun ls hl => ?_)
  refine n_iconst hx hb dX7_greedyOf_5 ?_
  refine lv_istore (lv' := [(5, .int (iI 0)), (4, .int (iI 0)), (3, .int (iI ((sum : Nat) : Int))), (0, .ref (ad y)), (1, .int (iI ((sy : Nat) : Int))), (2, .int (iI ((sum : Nat) : Int)))]) hx hb dX7_greedyOf_6 hl (by decide) rfl (fun ls hl => ?_)
  have lp1 : ∀ (fu : Nat), ∀ (q : Nat), ∀ (ls : Array Slot), Co sy - q < fu → q ≤ Co sy → lv_has ls 7 [(0, .ref (ad y)), (1, .int (iI ((sy : Nat) : Int))), (2, .int (iI ((sum : Nat) : Int))), (3, .int (iI ((grL (fun q9 => Va (8 * sy + q9)) B sum q : Nat) : Int))), (4, .int (iI ((grA (fun q9 => Va (8 * sy + q9)) B sum q : Nat) : Int))), (5, .int (iI ((q : Nat) : Int)))] → W p l e ({ frames := 0, cells := 0, slots := 0, locals := 0 } : Room) s m ([.ref (ad y), .int (iI ((sy : Nat) : Int)), .int (iI ((sum : Nat) : Int))] : List Value).toArray below meth cd s.heap [] 0 0 Q (F0 m 8 ls []) := by
    intro fu
    induction fu with
    | zero =>
      intro q ls hfu hq hl
      exact absurd hfu (Nat.not_lt_zero _)
    | succ fu ih2 =>
      intro q ls hfu hq hl
      have hle := gr_le (fun q9 => Va (8 * sy + q9)) B sum q
      have hAl := grA_le (fun q9 => Va (8 * sy + q9)) B sum q
      have hAm : q * sum ≤ 8 * sum := Nat.mul_le_mul_right sum (by omega)
      refine lv_iload hx hb dX7_greedyOf_8 (lv_at hl 5 rfl) ?_
      refine lv_aload_n hx hb dX7_greedyOf_10 rfl (lv_at hl 0 rfl) ?_
      refine n_get hx hb hts u_X7 hown hK hP (by omega) f_y rfl 1 (by decide) (nT_m wf_X7_7) rfl dX7_greedyOf_11 ?_
      refine lv_iload_n hx hb dX7_greedyOf_14 rfl (lv_at hl 1 rfl) ?_
      refine n_iald hx hb hK hP sy (by omega) f_Co (by omega) (by omega) (by decide) dX7_greedyOf_15 ?_
      have ho3 := hCo sy (by omega)
      refine n_icmp_ge (tgt := 58) hx hb dX7_greedyOf_16 (by decide) (by omega) (by omega) (fun hc16 => ?_) (fun hc16 => ?_)
      · skip
        refine lv_iload_n hx hb dX7_greedyOf_58 rfl (lv_at hl 3 rfl) ?_
        refine n_if_ne (tgt := 67) hx hb dX7_greedyOf_59 (by decide) (by omega) (fun hc59 => ?_) (fun hc59 => ?_)
        · skip
          refine n_iconst hx hb dX7_greedyOf_67 ?_
          exact n_iretR hQ hx hb hr hlocks (gr_retN (q := q) (by omega) (by omega)).symm dX7_greedyOf_68
        · skip
          refine lv_iload hx hb dX7_greedyOf_62 (lv_at hl 4 rfl) ?_
          refine lv_goto (tgt := 68) hx hb dX7_greedyOf_64 (by decide) ?_
          exact n_iretR hQ hx hb hr hlocks (gr_ret0 (q := q) hq (by omega)).symm dX7_greedyOf_68
      · skip
        have hf8 := hB q (by omega)
        have hv1 := hV1 (B q) hf8
        refine lv_aload_n hx hb dX7_greedyOf_19 rfl (lv_at hl 0 rfl) ?_
        refine n_get hx hb hts u_X7 hown hK hP (by omega) f_y rfl 2 (by decide) (nT_m wf_X7_13) rfl dX7_greedyOf_20 ?_
        refine n_bipush hx hb dX7_greedyOf_23 (by decide) ?_
        refine lv_iload_n hx hb dX7_greedyOf_25 rfl (lv_at hl 1 rfl) ?_
        refine n_imul hx hb dX7_greedyOf_26 ?_
        refine lv_aload_n hx hb dX7_greedyOf_27 rfl (lv_at hl 0 rfl) ?_
        refine n_get hx hb hts u_X7 hown hK hP (by omega) f_y rfl 19 (by decide) (nT_m wf_X7_65) rfl dX7_greedyOf_28 ?_
        refine lv_iload hx hb dX7_greedyOf_31 (lv_at hl 5 rfl) ?_
        refine n_iald hx hb hK hP q (by omega) f_by (by omega) (by omega) (by decide) dX7_greedyOf_33 ?_
        refine n_iadd hx hb dX7_greedyOf_34 ?_
        refine n_iald hx hb hK hP ((8 * sy) + (B q)) (by omega) f_Va (by omega) (by omega) (by decide) dX7_greedyOf_35 ?_
        have ho4 := hVa ((8 * sy) + (B q)) (by omega)
        refine lv_istore (lv' := [(6, .int (iI (Va ((8 * sy) + (B q)) : Int))), (0, .ref (ad y)), (1, .int (iI ((sy : Nat) : Int))), (2, .int (iI ((sum : Nat) : Int))), (3, .int (iI ((grL (fun q9 => Va (8 * sy + q9)) B sum q : Nat) : Int))), (4, .int (iI ((grA (fun q9 => Va (8 * sy + q9)) B sum q : Nat) : Int))), (5, .int (iI ((q : Nat) : Int)))]) hx hb dX7_greedyOf_36 hl (by decide) rfl (fun ls hl => ?_)
        refine lv_iload hx hb dX7_greedyOf_38 (lv_at hl 5 rfl) ?_
        refine lv_iload_n hx hb dX7_greedyOf_40 rfl (lv_at hl 4 rfl) ?_
        refine lv_iload hx hb dX7_greedyOf_41 (lv_at hl 0 rfl) ?_
        refine n_idivN hx hb dX7_greedyOf_43 (by omega) (by omega) ?_
        refine n_iadd hx hb dX7_greedyOf_44 ?_
        refine lv_istore (lv' := [(4, .int (iI (((grA (fun q9 => Va (8 * sy + q9)) B sum q : Nat) : Int) + (((grL (fun q9 => Va (8 * sy + q9)) B sum q : Nat) : Int) / (Va ((8 * sy) + (B q)) : Int))))), (6, .int (iI (Va ((8 * sy) + (B q)) : Int))), (0, .ref (ad y)), (1, .int (iI ((sy : Nat) : Int))), (2, .int (iI ((sum : Nat) : Int))), (3, .int (iI ((grL (fun q9 => Va (8 * sy + q9)) B sum q : Nat) : Int))), (5, .int (iI ((q : Nat) : Int)))]) hx hb dX7_greedyOf_45 hl (by decide) rfl (fun ls hl => ?_)
        refine lv_iload_n hx hb dX7_greedyOf_47 rfl (lv_at hl 5 rfl) ?_
        refine lv_iload hx hb dX7_greedyOf_48 (lv_at hl 1 rfl) ?_
        refine n_iremN hx hb dX7_greedyOf_50 (by omega) (by omega) ?_
        refine lv_istore_n (lv' := [(3, .int (iI (((grL (fun q9 => Va (8 * sy + q9)) B sum q : Nat) : Int) % (Va ((8 * sy) + (B q)) : Int)))), (4, .int (iI (((grA (fun q9 => Va (8 * sy + q9)) B sum q : Nat) : Int) + (((grL (fun q9 => Va (8 * sy + q9)) B sum q : Nat) : Int) / (Va ((8 * sy) + (B q)) : Int))))), (6, .int (iI (Va ((8 * sy) + (B q)) : Int))), (0, .ref (ad y)), (1, .int (iI ((sy : Nat) : Int))), (2, .int (iI ((sum : Nat) : Int))), (5, .int (iI ((q : Nat) : Int)))]) hx hb dX7_greedyOf_51 rfl hl (by decide) rfl (fun ls hl => ?_)
        refine lv_iinc (v := iI (((q : Nat) : Int) + 1)) (lv' := [(5, .int (iI (((q : Nat) : Int) + 1))), (3, .int (iI (((grL (fun q9 => Va (8 * sy + q9)) B sum q : Nat) : Int) % (Va ((8 * sy) + (B q)) : Int)))), (4, .int (iI (((grA (fun q9 => Va (8 * sy + q9)) B sum q : Nat) : Int) + (((grL (fun q9 => Va (8 * sy + q9)) B sum q : Nat) : Int) / (Va ((8 * sy) + (B q)) : Int))))), (6, .int (iI (Va ((8 * sy) + (B q)) : Int))), (0, .ref (ad y)), (1, .int (iI ((sy : Nat) : Int))), (2, .int (iI ((sum : Nat) : Int)))]) hx hb dX7_greedyOf_52 hl (k := 6) rfl (by first | exact iI_add _ _ | exact (iI_add _ _).trans (congrArg iI (by omega))) (by decide) rfl (fun ls hl => ?_)
        refine lv_goto (tgt := 8) hx hb dX7_greedyOf_55 (by decide) ?_
        exact ih2 (q + 1) _ (by omega) (by omega) (by first | exact lv_sub hl [4, 5, 6, 1, 2, 0] rfl | exact lv_cast (lv_sub (l' := [(0, .ref (ad y)), (1, .int (iI ((sy : Nat) : Int))), (2, .int (iI ((sum : Nat) : Int))), (3, .int (iI (((grL (fun q9 => Va (8 * sy + q9)) B sum q : Nat) : Int) % (Va ((8 * sy) + (B q)) : Int)))), (4, .int (iI (((grA (fun q9 => Va (8 * sy + q9)) B sum q : Nat) : Int) + (((grL (fun q9 => Va (8 * sy + q9)) B sum q : Nat) : Int) / (Va ((8 * sy) + (B q)) : Int))))), (5, .int (iI (((q : Nat) : Int) + 1)))]) hl [4, 5, 6, 1, 2, 0] rfl) (lc_s (lc_s (lc_s (lc_i (show ((((grL (fun q9 => Va (8 * sy + q9)) B sum q : Nat) : Int) % (Va ((8 * sy) + (B q)) : Int)) : Int) = ((grL (fun q9 => Va (8 * sy + q9)) B sum (q + 1) : Nat) : Int) by rfl) (lc_i (show ((((grA (fun q9 => Va (8 * sy + q9)) B sum q : Nat) : Int) + (((grL (fun q9 => Va (8 * sy + q9)) B sum q : Nat) : Int) / (Va ((8 * sy) + (B q)) : Int))) : Int) = ((grA (fun q9 => Va (8 * sy + q9)) B sum (q + 1) : Nat) : Int) by rfl) (lc_i (show ((((q : Nat) : Int) + 1) : Int) = (((q + 1) : Nat) : Int) by omega) rfl)))))))
  exact lp1 (Co sy - 0 + 1) 0 _ (Nat.lt_succ_self _) (by omega) (by first | exact lv_sub hl [3, 4, 5, 2, 1, 0] rfl | exact lv_cast (lv_sub (l' := [(0, .ref (ad y)), (1, .int (iI ((sy : Nat) : Int))), (2, .int (iI ((sum : Nat) : Int))), (3, .int (iI ((sum : Nat) : Int))), (4, .int (iI 0)), (5, .int (iI 0))]) hl [3, 4, 5, 2, 1, 0] rfl) (lc_s (lc_s (lc_s (lc_i (show (((sum : Nat) : Int) : Int) = ((grL (fun q9 => Va (8 * sy + q9)) B sum 0 : Nat) : Int) by omega) (lc_i (show (0 : Int) = ((grA (fun q9 => Va (8 * sy + q9)) B sum 0 : Nat) : Int) by omega) (lc_i (show (0 : Int) = ((0 : Nat) : Int) by omega) rfl)))))))
set_option maxHeartbeats 4000000 in
set_option maxRecDepth 100000 in
theorem c_X7_greedy_no {l : Launch} {G : nG} {N : Nat} {ad : Nat → Nat} {w : Nat → va_E} {sz : Nat} (y : Nat) (yz z : Int) (hN : y + 26 < N) (hy : -2147483648 ≤ yz ∧ yz < 2147483648) (hz : -2147483648 ≤ z ∧ z < 2147483648) (hno : ¬ ((yz = 0 ∨ yz = 1) ∧ 0 ≤ z ∧ z ≤ 2000)) (f_y : w y = .inr (7, [.int (iI 0), .ref (ad (y + 1)), .ref (ad (y + 2)), .ref (ad (y + 3)), .ref (ad (y + 4)), .ref (ad (y + 5)), .ref (ad (y + 6)), .ref (ad (y + 7)), .ref (ad (y + 8)), .ref (ad (y + 9)), .ref (ad (y + 10)), .ref (ad (y + 11)), .ref (ad (y + 12)), .ref (ad (y + 13)), .ref (ad (y + 14)), .ref (ad (y + 15)), .ref (ad (y + 16)), .ref (ad (y + 17)), .ref (ad (y + 18)), .ref (ad (y + 19)), .ref (ad (y + 20)), .ref (ad (y + 21)), .ref (ad (y + 22)), .ref (ad (y + 23)), .ref (ad (y + 24)), .ref (ad (y + 25)), .ref (ad (y + 26))])) : Met l yX7_greedy wsX7_greedy ({ frames := 1, cells := 0, slots := 0, locals := 26 }) (va_Pc [.ref (ad y), .int (iI yz), .int (iI z)] (nB G N ad w sz)) (nPi G N ad sz (fun r u => (∀ j, u j = w j) ∧ (r = -1))) 0 0 (nA N ad sz) := by
  refine n_ent (cc := cX7_greedy) (maxL := 3) (ret := (some .int)) (by decide) rfl (Nat.le_of_ble_eq_true rfl) ?_
  intro p e s m below meth cd hx hb hr hml hlocks hts hown hnm hsz hP hK hI Q hQ ls hl
  have hown : s.vm.findClass RX7 = some m.cls := hown
  subst hsz
  have hJ := hI.J s.heap.size
  have hS : va_S (nA N ad s.heap.size) s.heap s.heap [] := va_S.rf
  have hfr : ∀ j, w j = w j := fun _  => rfl
  have hl : lv_has ls 3 [(0, .ref (ad y)), (1, .int (iI yz)), (2, .int (iI z))] := hl
  refine lv_aload_n hx hb dX7_greedy_0 rfl (lv_at hl 0 rfl) ?_
  refine n_iconst hx hb dX7_greedy_1 ?_
  refine n_put hx hb hts u_X7 tyX7 tyX7_ok nmX7 hown hK hJ hP hS (by omega) f_y rfl 0 (by decide) (nT_m wf_X7_90) rfl rfl rfl (Nat.le_of_ble_eq_true rfl) dX7_greedy_2 (fun w1 H locs f9 hne9 hP hS => ?_)
  have ew9 : w = w1 := funext fun j9 => (Decidable.em (j9 = y)).elim (fun h9 => by rw [h9, f9]; exact f_y) (fun h9 => (hne9 j9 h9).symm)
  subst ew9
  refine lv_iload_n hx hb dX7_greedy_5 rfl (lv_at hl 1 rfl) ?_
  refine n_iconst hx hb dX7_greedy_6 ?_
  refine n_iconst hx hb dX7_greedy_7 ?_
  refine n_rdF (va_runS (As := [.int (iI yz), .int (iI 0), .int (iI 1)]) (rest := []) ⟨hx, hb, hml, hown, hts⟩ (c_X7_in yz 0 1 (by omega) (by omega) (by omega)) (va_cwS 3 hts (nT_S wl_X7_98 wt_X7_in wn_X7 wc_X7_in) rfl rfl rfl (by decide +kernel) ⟨Nat.le_of_ble_eq_true rfl, Nat.le_of_ble_eq_true rfl⟩) preEq rfl rfl hl.1 rfl (lv_room (Nat.le_of_ble_eq_true rfl)) dX7_greedy_8 ⟨Nat.zero_le _, Nat.zero_le _⟩) ?_
  refine n_if_eqB (tgt := 25) hx hb dX7_greedy_11 (by decide) (fun hc11 => ?_) (fun hc11 => ?_)
  · skip
    refine n_iconst hx hb dX7_greedy_25 ?_
    refine n_iretP hQ hx hb hr hlocks hP hS dX7_greedy_26 ?_
    exact ⟨hfr, rfl⟩
  · skip
    refine lv_iload_n hx hb dX7_greedy_14 rfl (lv_at hl 2 rfl) ?_
    refine n_iconst hx hb dX7_greedy_15 ?_
    refine n_sipush hx hb dX7_greedy_16 (by decide) ?_
    refine n_rdF (va_runS (As := [.int (iI z), .int (iI 0), .int (iI 2000)]) (rest := []) ⟨hx, hb, hml, hown, hts⟩ (c_X7_in z 0 2000 (by omega) (by omega) (by omega)) (va_cwS 3 hts (nT_S wl_X7_98 wt_X7_in wn_X7 wc_X7_in) rfl rfl rfl (by decide +kernel) ⟨Nat.le_of_ble_eq_true rfl, Nat.le_of_ble_eq_true rfl⟩) preEq rfl rfl hl.1 rfl (lv_room (Nat.le_of_ble_eq_true rfl)) dX7_greedy_19 ⟨Nat.zero_le _, Nat.zero_le _⟩) ?_
    refine n_if_neB (tgt := 27) hx hb dX7_greedy_22 (by decide) (fun hc22 => ?_) (fun hc22 => ?_)
    · skip
      omega
    · skip
      refine n_iconst hx hb dX7_greedy_25 ?_
      refine n_iretP hQ hx hb hr hlocks hP hS dX7_greedy_26 ?_
      exact ⟨hfr, rfl⟩
set_option maxHeartbeats 4000000 in
set_option maxRecDepth 100000 in
theorem c_X7_greedy_yes {l : Launch} {G : nG} {N : Nat} {ad : Nat → Nat} {w : Nat → va_E} {sz : Nat} (y : Nat) (Co Va : Nat → Nat) (sy sum : Nat) (b9 : Nat → Nat) (hN : y + 26 < N) (hCo : ∀ k, k < 2 → Co k ≤ 8) (hVa : ∀ k, k < 16 → Va k ≤ 1000) (hs : sy < 2) (hsm : sum ≤ 2000) (hV1 : ∀ k, k < Co sy → 1 ≤ Va (8 * sy + k)) (f_y : w y = .inr (7, [.int (iI 0), .ref (ad (y + 1)), .ref (ad (y + 2)), .ref (ad (y + 3)), .ref (ad (y + 4)), .ref (ad (y + 5)), .ref (ad (y + 6)), .ref (ad (y + 7)), .ref (ad (y + 8)), .ref (ad (y + 9)), .ref (ad (y + 10)), .ref (ad (y + 11)), .ref (ad (y + 12)), .ref (ad (y + 13)), .ref (ad (y + 14)), .ref (ad (y + 15)), .ref (ad (y + 16)), .ref (ad (y + 17)), .ref (ad (y + 18)), .ref (ad (y + 19)), .ref (ad (y + 20)), .ref (ad (y + 21)), .ref (ad (y + 22)), .ref (ad (y + 23)), .ref (ad (y + 24)), .ref (ad (y + 25)), .ref (ad (y + 26))])) (f_Co : w (y + 1) = aI G 8 (fun q => (Co q : Int))) (f_Va : w (y + 2) = aI G 64 (fun q => (Va q : Int))) (f_by : w (y + 19) = aI G 8 (fun q => (b9 q : Int))) : Met l yX7_greedy wsX7_greedy ({ frames := 1, cells := 0, slots := 0, locals := 26 }) (va_Pc [.ref (ad y), .int (iI ((sy : Nat) : Int)), .int (iI ((sum : Nat) : Int))] (nB G N ad w sz)) (nPi G N ad sz (fun r u => (∀ j, j ≠ (y + 19) → u j = w j) ∧ (∃ B : Nat → Nat, B = srt (fun q9 => Va (8 * sy + q9)) b9 (Co sy) ∧ r = grV (fun q9 => Va (8 * sy + q9)) B (Co sy) sum ∧ u (y + 19) = aI G 8 (fun q => (B q : Int))))) 0 0 (nA N ad sz) := by
  refine n_ent (cc := cX7_greedy) (maxL := 3) (ret := (some .int)) (by decide) rfl (Nat.le_of_ble_eq_true rfl) ?_
  intro p e s m below meth cd hx hb hr hml hlocks hts hown hnm hsz hP hK hI Q hQ ls hl
  have hown : s.vm.findClass RX7 = some m.cls := hown
  subst hsz
  have hJ := hI.J s.heap.size
  have hS : va_S (nA N ad s.heap.size) s.heap s.heap [] := va_S.rf
  have hfr : ∀ j, j ≠ (y + 19) → w j = w j := fun _ _ => rfl
  have hl : lv_has ls 3 [(0, .ref (ad y)), (1, .int (iI ((sy : Nat) : Int))), (2, .int (iI ((sum : Nat) : Int)))] := hl
  have hcs := hCo sy hs
  refine lv_aload_n hx hb dX7_greedy_0 rfl (lv_at hl 0 rfl) ?_
  refine n_iconst hx hb dX7_greedy_1 ?_
  refine n_put hx hb hts u_X7 tyX7 tyX7_ok nmX7 hown hK hJ hP hS (by omega) f_y rfl 0 (by decide) (nT_m wf_X7_90) rfl rfl rfl (Nat.le_of_ble_eq_true rfl) dX7_greedy_2 (fun w1 H locs f9 hne9 hP hS => ?_)
  have ew9 : w = w1 := funext fun j9 => (Decidable.em (j9 = y)).elim (fun h9 => by rw [h9, f9]; exact f_y) (fun h9 => (hne9 j9 h9).symm)
  subst ew9
  refine lv_iload_n hx hb dX7_greedy_5 rfl (lv_at hl 1 rfl) ?_
  refine n_iconst hx hb dX7_greedy_6 ?_
  refine n_iconst hx hb dX7_greedy_7 ?_
  refine n_rdF (va_runS (As := [.int (iI ((sy : Nat) : Int)), .int (iI 0), .int (iI 1)]) (rest := []) ⟨hx, hb, hml, hown, hts⟩ (c_X7_in ((sy : Nat) : Int) 0 1 (by omega) (by omega) (by omega)) (va_cwS 3 hts (nT_S wl_X7_98 wt_X7_in wn_X7 wc_X7_in) rfl rfl rfl (by decide +kernel) ⟨Nat.le_of_ble_eq_true rfl, Nat.le_of_ble_eq_true rfl⟩) preEq rfl rfl hl.1 rfl (lv_room (Nat.le_of_ble_eq_true rfl)) dX7_greedy_8 ⟨Nat.zero_le _, Nat.zero_le _⟩) ?_
  refine n_if_eqB (tgt := 25) hx hb dX7_greedy_11 (by decide) (fun hc11 => ?_) (fun hc11 => ?_)
  · skip
    exact absurd hc11 (by omega)
  · skip
    refine lv_iload_n hx hb dX7_greedy_14 rfl (lv_at hl 2 rfl) ?_
    refine n_iconst hx hb dX7_greedy_15 ?_
    refine n_sipush hx hb dX7_greedy_16 (by decide) ?_
    refine n_rdF (va_runS (As := [.int (iI ((sum : Nat) : Int)), .int (iI 0), .int (iI 2000)]) (rest := []) ⟨hx, hb, hml, hown, hts⟩ (c_X7_in ((sum : Nat) : Int) 0 2000 (by omega) (by omega) (by omega)) (va_cwS 3 hts (nT_S wl_X7_98 wt_X7_in wn_X7 wc_X7_in) rfl rfl rfl (by decide +kernel) ⟨Nat.le_of_ble_eq_true rfl, Nat.le_of_ble_eq_true rfl⟩) preEq rfl rfl hl.1 rfl (lv_room (Nat.le_of_ble_eq_true rfl)) dX7_greedy_19 ⟨Nat.zero_le _, Nat.zero_le _⟩) ?_
    refine n_if_neB (tgt := 27) hx hb dX7_greedy_22 (by decide) (fun hc22 => ?_) (fun hc22 => ?_)
    · skip
      refine lv_aload_n hx hb dX7_greedy_27 rfl (lv_at hl 0 rfl) ?_
      refine lv_iload_n hx hb dX7_greedy_28 rfl (lv_at hl 1 rfl) ?_
      obtain ⟨B, hBe⟩ : ∃ B : Nat → Nat, B = srt (fun q9 => Va (8 * sy + q9)) b9 (Co sy) := ⟨_, rfl⟩
      have hB : ∀ j, j < Co sy → B j < Co sy := by rw [hBe]; exact srt_lt _ _ _
      refine n_cV (va_runV (As := [.int (iI ((sy : Nat) : Int))]) (rest := []) ⟨hx, hb, hml, hown, hts⟩ (c_X7_sortCoins y Co Va sy b9 (by omega) hCo hVa (by omega) f_y f_Co f_Va f_by) (cwV 1 hts (nT_V wl_X7_116 wi_X7_sortCoins ws_X7_sortCoins wn_X7 wc_X7_sortCoins) rfl rfl rfl (by decide +kernel) ⟨Nat.le_of_ble_eq_true rfl, Nat.le_of_ble_eq_true rfl⟩) (nB.preV hK hI hP (by omega) f_y rfl rfl) rfl rfl hl.1 rfl (lv_room (Nat.le_of_ble_eq_true rfl)) dX7_greedy_29 ⟨Nat.zero_le _, Nat.zero_le _⟩) hS (fun w3 H locs hq5 hP hS => ?_)
      obtain ⟨hne6, hp_by⟩ := hq5
      have f_y := (hne6 y (by omega)).trans f_y
      have f_Co := (hne6 (y + 1) (by omega)).trans f_Co
      have f_Va := (hne6 (y + 2) (by omega)).trans f_Va
      have f_by : w3 (y + 19) = aI G 8 (fun q => (B q : Int)) := (by rw [hBe]; exact hp_by)
      have hfr : ∀ j, j ≠ (y + 19) → w3 j = w j := fun j a0 => (hne6 j (by omega)).trans (hfr j a0)
      refine lv_aload_n hx hb dX7_greedy_32 rfl (lv_at hl 0 rfl) ?_
      refine lv_iload_n hx hb dX7_greedy_33 rfl (lv_at hl 1 rfl) ?_
      refine lv_iload_n hx hb dX7_greedy_34 rfl (lv_at hl 2 rfl) ?_
      refine n_rdF (va_runV (As := [.int (iI ((sy : Nat) : Int)), .int (iI ((sum : Nat) : Int))]) (rest := []) ⟨hx, hb, hml, hown, hts⟩ (c_X7_greedyOf _ Co Va sy sum B (by omega) hCo hVa (by omega) (by omega) hB hV1 f_y f_Co f_Va f_by) (cwV 2 hts (nT_V wl_X7_131 wi_X7_greedyOf ws_X7_greedyOf wn_X7 wc_X7_greedyOf) rfl rfl rfl (by decide +kernel) ⟨Nat.le_of_ble_eq_true rfl, Nat.le_of_ble_eq_true rfl⟩) (nB.preV hK hI hP (by omega) f_y rfl rfl) rfl rfl hl.1 rfl (lv_room (Nat.le_of_ble_eq_true rfl)) dX7_greedy_35 ⟨Nat.zero_le _, Nat.zero_le _⟩) ?_
      have hgv := grV_rng (fun q9 => Va (8 * sy + q9)) B (Co sy) sum (by omega) (by omega)
      refine n_iretP hQ hx hb hr hlocks hP hS dX7_greedy_38 ?_
      exact ⟨hfr, B, hBe, rfl, f_by⟩
    · skip
      exact absurd hc22 (by omega)

def mnF (val : Nat → Nat) (le : Nat → Int) (s : Nat) : Nat → Int
  | 0 => 1000000
  | k + 1 => if val k ≤ s ∧ le (s - val k) + 1 < mnF val le s k then le (s - val k) + 1 else mnF val le s k
theorem mnF_y {val : Nat → Nat} {le : Nat → Int} {s k : Nat} (h : val k ≤ s ∧ le (s - val k) + 1 < mnF val le s k) : mnF val le s (k + 1) = le (s - val k) + 1 := if_pos h
theorem mnF_n {val : Nat → Nat} {le : Nat → Int} {s k : Nat} (h : ¬ (val k ≤ s ∧ le (s - val k) + 1 < mnF val le s k)) : mnF val le s (k + 1) = mnF val le s k := if_neg h
theorem mnF_le (val : Nat → Nat) (le : Nat → Int) (s : Nat) : ∀ k, mnF val le s k ≤ 1000000
  | 0 => Int.le_refl _
  | k + 1 => by
    have ih := mnF_le val le s k
    by_cases h : val k ≤ s ∧ le (s - val k) + 1 < mnF val le s k
    · rw [mnF_y h]
      omega
    · rw [mnF_n h]
      exact ih
theorem mnF_0 {val : Nat → Nat} {le : Nat → Int} {s : Nat} (h : ∀ x, x ≤ s → 0 ≤ le x) : ∀ k, 0 ≤ mnF val le s k
  | 0 => by
    show (0 : Int) ≤ 1000000
    decide
  | k + 1 => by
    by_cases h1 : val k ≤ s ∧ le (s - val k) + 1 < mnF val le s k
    · rw [mnF_y h1]
      have := h (s - val k) (Nat.sub_le _ _)
      omega
    · rw [mnF_n h1]
      exact mnF_0 h k
theorem mE_rng {z : Int} {k : Nat} (h : -1 ≤ z ∧ z ≤ k) (hk : k ≤ 2000) : 0 ≤ mE z ∧ mE z ≤ 1000000 := by
  unfold mE
  split <;> omega
theorem grV_0 (val fal : Nat → Nat) (cnt : Nat) : grV val fal cnt 0 = 0 := by
  have h := grz_0 (val := val) (fal := fal) (sum := 0) (i := 0) rfl cnt
  rw [Nat.zero_add] at h
  unfold grV
  rw [if_pos h.1, h.2]
  rfl
set_option maxHeartbeats 4000000 in
set_option maxRecDepth 100000 in
theorem c_X7_odd_no {l : Launch} {G : nG} {N : Nat} {ad : Nat → Nat} {w : Nat → va_E} {sz : Nat} (y : Nat) (yz : Int) (hN : y + 26 < N) (hy : -2147483648 ≤ yz ∧ yz < 2147483648) (hno : ¬ (yz = 0 ∨ yz = 1)) (f_y : w y = .inr (7, [.int (iI 0), .ref (ad (y + 1)), .ref (ad (y + 2)), .ref (ad (y + 3)), .ref (ad (y + 4)), .ref (ad (y + 5)), .ref (ad (y + 6)), .ref (ad (y + 7)), .ref (ad (y + 8)), .ref (ad (y + 9)), .ref (ad (y + 10)), .ref (ad (y + 11)), .ref (ad (y + 12)), .ref (ad (y + 13)), .ref (ad (y + 14)), .ref (ad (y + 15)), .ref (ad (y + 16)), .ref (ad (y + 17)), .ref (ad (y + 18)), .ref (ad (y + 19)), .ref (ad (y + 20)), .ref (ad (y + 21)), .ref (ad (y + 22)), .ref (ad (y + 23)), .ref (ad (y + 24)), .ref (ad (y + 25)), .ref (ad (y + 26))])) : Met l yX7_odd wsX7_odd ({ frames := 1, cells := 0, slots := 0, locals := 26 }) (va_Pc [.ref (ad y), .int (iI yz)] (nB G N ad w sz)) (nPi G N ad sz (fun r u => (∀ j, u j = w j) ∧ (r = -1))) 0 0 (nA N ad sz) := by
  refine n_ent (cc := cX7_odd) (maxL := 5) (ret := (some .int)) (by decide) rfl (Nat.le_of_ble_eq_true rfl) ?_
  intro p e s m below meth cd hx hb hr hml hlocks hts hown hnm hsz hP hK hI Q hQ ls hl
  have hown : s.vm.findClass RX7 = some m.cls := hown
  subst hsz
  have hJ := hI.J s.heap.size
  have hS : va_S (nA N ad s.heap.size) s.heap s.heap [] := va_S.rf
  have hfr : ∀ j, w j = w j := fun _  => rfl
  have hl : lv_has ls 5 [(0, .ref (ad y)), (1, .int (iI yz))] := hl
  refine lv_aload_n hx hb dX7_odd_0 rfl (lv_at hl 0 rfl) ?_
  refine n_iconst hx hb dX7_odd_1 ?_
  refine n_put hx hb hts u_X7 tyX7 tyX7_ok nmX7 hown hK hJ hP hS (by omega) f_y rfl 0 (by decide) (nT_m wf_X7_90) rfl rfl rfl (Nat.le_of_ble_eq_true rfl) dX7_odd_2 (fun w1 H locs f9 hne9 hP hS => ?_)
  have ew9 : w = w1 := funext fun j9 => (Decidable.em (j9 = y)).elim (fun h9 => by rw [h9, f9]; exact f_y) (fun h9 => (hne9 j9 h9).symm)
  subst ew9
  refine lv_iload_n hx hb dX7_odd_5 rfl (lv_at hl 1 rfl) ?_
  refine n_iconst hx hb dX7_odd_6 ?_
  refine n_iconst hx hb dX7_odd_7 ?_
  refine n_rdF (va_runS (As := [.int (iI yz), .int (iI 0), .int (iI 1)]) (rest := []) ⟨hx, hb, hml, hown, hts⟩ (c_X7_in yz 0 1 (by omega) (by omega) (by omega)) (va_cwS 3 hts (nT_S wl_X7_98 wt_X7_in wn_X7 wc_X7_in) rfl rfl rfl (by decide +kernel) ⟨Nat.le_of_ble_eq_true rfl, Nat.le_of_ble_eq_true rfl⟩) preEq rfl rfl hl.1 rfl (lv_room (Nat.le_of_ble_eq_true rfl)) dX7_odd_8 ⟨Nat.zero_le _, Nat.zero_le _⟩) ?_
  refine n_if_neB (tgt := 16) hx hb dX7_odd_11 (by decide) (fun hc11 => ?_) (fun hc11 => ?_)
  · skip
    exact absurd hc11 (by omega)
  · skip
    refine n_iconst hx hb dX7_odd_14 ?_
    refine n_iretP hQ hx hb hr hlocks hP hS dX7_odd_15 ?_
    exact ⟨hfr, rfl⟩
set_option maxHeartbeats 4000000 in
set_option maxRecDepth 100000 in
theorem c_X7_odd_yes {l : Launch} {G : nG} {N : Nat} {ad : Nat → Nat} {w : Nat → va_E} {sz : Nat} (y : Nat) (Co Va : Nat → Nat) (sy : Nat) (b9 : Nat → Nat) (lst le0 : Nat → Int) (hN : y + 26 < N) (hCo : ∀ k, k < 2 → Co k ≤ 8) (hVa : ∀ k, k < 16 → Va k ≤ 1000) (hs : sy < 2) (hV1 : ∀ k, k < Co sy → 1 ≤ Va (8 * sy + k)) (hlst : ∀ k, k < 2001 → -1 ≤ lst k ∧ lst k ≤ k) (hl0 : lst 0 = 0) (hrec : ∀ s1, 1 ≤ s1 → s1 ≤ 2000 → mE (lst s1) = mnF (fun q9 => Va (8 * sy + q9)) (fun j9 => mE (lst j9)) s1 (Co sy)) (hgr : ∀ s1, s1 ≤ 2000 → ¬ grV (fun q9 => Va (8 * sy + q9)) (srt (fun q9 => Va (8 * sy + q9)) b9 (Co sy)) (Co sy) s1 = -1 → ¬ lst s1 = -1 → lst s1 ≤ grV (fun q9 => Va (8 * sy + q9)) (srt (fun q9 => Va (8 * sy + q9)) b9 (Co sy)) (Co sy) s1) (f_y : w y = .inr (7, [.int (iI 0), .ref (ad (y + 1)), .ref (ad (y + 2)), .ref (ad (y + 3)), .ref (ad (y + 4)), .ref (ad (y + 5)), .ref (ad (y + 6)), .ref (ad (y + 7)), .ref (ad (y + 8)), .ref (ad (y + 9)), .ref (ad (y + 10)), .ref (ad (y + 11)), .ref (ad (y + 12)), .ref (ad (y + 13)), .ref (ad (y + 14)), .ref (ad (y + 15)), .ref (ad (y + 16)), .ref (ad (y + 17)), .ref (ad (y + 18)), .ref (ad (y + 19)), .ref (ad (y + 20)), .ref (ad (y + 21)), .ref (ad (y + 22)), .ref (ad (y + 23)), .ref (ad (y + 24)), .ref (ad (y + 25)), .ref (ad (y + 26))])) (f_Co : w (y + 1) = aI G 8 (fun q => (Co q : Int))) (f_Va : w (y + 2) = aI G 64 (fun q => (Va q : Int))) (f_by : w (y + 19) = aI G 8 (fun q => (b9 q : Int))) (f_le : w (y + 23) = aI G 2001 le0) : Met l yX7_odd wsX7_odd ({ frames := 1, cells := 0, slots := 0, locals := 26 }) (va_Pc [.ref (ad y), .int (iI ((sy : Nat) : Int))] (nB G N ad w sz)) (nPi G N ad sz (fun r u => (∀ j, j ≠ (y + 19) → j ≠ (y + 23) → u j = w j) ∧ (∃ B : Nat → Nat, B = srt (fun q9 => Va (8 * sy + q9)) b9 (Co sy) ∧ r = fo (fun k => decide (¬ lst k = -1 ∧ ¬ grV (fun q9 => Va (8 * sy + q9)) B (Co sy) k = lst k)) 2001 0 ∧ u (y + 19) = aI G 8 (fun q => (B q : Int))) ∧ (∃ L1, u (y + 23) = aI G 2001 L1))) 0 0 (nA N ad sz) := by
  refine n_ent (cc := cX7_odd) (maxL := 5) (ret := (some .int)) (by decide) rfl (Nat.le_of_ble_eq_true rfl) ?_
  intro p e s m below meth cd hx hb hr hml hlocks hts hown hnm hsz hP hK hI Q hQ ls hl
  have hown : s.vm.findClass RX7 = some m.cls := hown
  subst hsz
  have hJ := hI.J s.heap.size
  have hS : va_S (nA N ad s.heap.size) s.heap s.heap [] := va_S.rf
  have hfr : ∀ j, j ≠ (y + 19) → j ≠ (y + 23) → w j = w j := fun _ _ _ => rfl
  have hl : lv_has ls 5 [(0, .ref (ad y)), (1, .int (iI ((sy : Nat) : Int)))] := hl
  have hcs := hCo sy hs
  refine lv_aload_n hx hb dX7_odd_0 rfl (lv_at hl 0 rfl) ?_
  refine n_iconst hx hb dX7_odd_1 ?_
  refine n_put hx hb hts u_X7 tyX7 tyX7_ok nmX7 hown hK hJ hP hS (by omega) f_y rfl 0 (by decide) (nT_m wf_X7_90) rfl rfl rfl (Nat.le_of_ble_eq_true rfl) dX7_odd_2 (fun w1 H locs f9 hne9 hP hS => ?_)
  have ew9 : w = w1 := funext fun j9 => (Decidable.em (j9 = y)).elim (fun h9 => by rw [h9, f9]; exact f_y) (fun h9 => (hne9 j9 h9).symm)
  subst ew9
  refine lv_iload_n hx hb dX7_odd_5 rfl (lv_at hl 1 rfl) ?_
  refine n_iconst hx hb dX7_odd_6 ?_
  refine n_iconst hx hb dX7_odd_7 ?_
  refine n_rdF (va_runS (As := [.int (iI ((sy : Nat) : Int)), .int (iI 0), .int (iI 1)]) (rest := []) ⟨hx, hb, hml, hown, hts⟩ (c_X7_in ((sy : Nat) : Int) 0 1 (by omega) (by omega) (by omega)) (va_cwS 3 hts (nT_S wl_X7_98 wt_X7_in wn_X7 wc_X7_in) rfl rfl rfl (by decide +kernel) ⟨Nat.le_of_ble_eq_true rfl, Nat.le_of_ble_eq_true rfl⟩) preEq rfl rfl hl.1 rfl (lv_room (Nat.le_of_ble_eq_true rfl)) dX7_odd_8 ⟨Nat.zero_le _, Nat.zero_le _⟩) ?_
  refine n_if_neB (tgt := 16) hx hb dX7_odd_11 (by decide) (fun hc11 => ?_) (fun hc11 => ?_)
  · skip
    refine lv_aload_n hx hb dX7_odd_16 rfl (lv_at hl 0 rfl) ?_
    refine lv_iload_n hx hb dX7_odd_17 rfl (lv_at hl 1 rfl) ?_
    obtain ⟨B, hBe⟩ : ∃ B : Nat → Nat, B = srt (fun q9 => Va (8 * sy + q9)) b9 (Co sy) := ⟨_, rfl⟩
    have hB : ∀ j, j < Co sy → B j < Co sy := by rw [hBe]; exact srt_lt _ _ _
    refine n_cV (va_runV (As := [.int (iI ((sy : Nat) : Int))]) (rest := []) ⟨hx, hb, hml, hown, hts⟩ (c_X7_sortCoins y Co Va sy b9 (by omega) hCo hVa (by omega) f_y f_Co f_Va f_by) (cwV 1 hts (nT_V wl_X7_116 wi_X7_sortCoins ws_X7_sortCoins wn_X7 wc_X7_sortCoins) rfl rfl rfl (by decide +kernel) ⟨Nat.le_of_ble_eq_true rfl, Nat.le_of_ble_eq_true rfl⟩) (nB.preV hK hI hP (by omega) f_y rfl rfl) rfl rfl hl.1 rfl (lv_room (Nat.le_of_ble_eq_true rfl)) dX7_odd_18 ⟨Nat.zero_le _, Nat.zero_le _⟩) hS (fun w3 H locs hq5 hP hS => ?_)
    obtain ⟨hne6, hp_by⟩ := hq5
    have f_y := (hne6 y (by omega)).trans f_y
    have f_Co := (hne6 (y + 1) (by omega)).trans f_Co
    have f_Va := (hne6 (y + 2) (by omega)).trans f_Va
    have f_le := (hne6 (y + 23) (by omega)).trans f_le
    have f_by : w3 (y + 19) = aI G 8 (fun q => (B q : Int)) := (by rw [hBe]; exact hp_by)
    have hfr : ∀ j, j ≠ (y + 19) → j ≠ (y + 23) → w3 j = w j := fun j a0 a1 => (hne6 j (by omega)).trans (hfr j a0 a1)
    refine lv_aload_n hx hb dX7_odd_21 rfl (lv_at hl 0 rfl) ?_
    refine n_get hx hb hts u_X7 hown hK hP (by omega) f_y rfl 23 (by decide) (nT_m wf_X7_77) rfl dX7_odd_22 ?_
    refine n_iconst hx hb dX7_odd_25 ?_
    refine n_iconst hx hb dX7_odd_26 ?_
    refine n_iast hx hb hK hJ hP hS 0 (by omega) f_le (by omega) (by omega) (by decide) dX7_odd_27 (fun w7 H locs f_le hne8 hP hS => ?_)
    have f_y := (hne8 y (by omega)).trans f_y
    have f_Co := (hne8 (y + 1) (by omega)).trans f_Co
    have f_Va := (hne8 (y + 2) (by omega)).trans f_Va
    have f_by := (hne8 (y + 19) (by omega)).trans f_by
    have hfr : ∀ j, j ≠ (y + 19) → j ≠ (y + 23) → w7 j = w j := fun j a0 a1 => (hne8 j (by omega)).trans (hfr j a0 a1)
    refine n_iconst hx hb dX7_odd_28 ?_
    refine lv_istore_n (lv' := [(2, .int (iI 1)), (0, .ref (ad y)), (1, .int (iI ((sy : Nat) : Int)))]) hx hb dX7_odd_29 rfl hl (by decide) rfl (fun ls hl => ?_)
    have lp9 : ∀ (fu : Nat), ∀ (s1 : Nat) (Lf : Nat → Int), ∀ (w10 : Nat → va_E) (H : Heap) (locs : List Loc), ∀ (ls : Array Slot), 2001 - s1 < fu → 1 ≤ s1 ∧ s1 ≤ 2001 → (∀ j, j < s1 → Lf j = mE (lst j)) → fo (fun k => decide (¬ lst k = -1 ∧ ¬ grV (fun q9 => Va (8 * sy + q9)) B (Co sy) k = lst k)) 2001 0 = fo (fun k => decide (¬ lst k = -1 ∧ ¬ grV (fun q9 => Va (8 * sy + q9)) B (Co sy) k = lst k)) (2001 - s1) s1 → (∀ j, j ≠ (y + 19) → j ≠ (y + 23) → w10 j = w j) → w10 y = .inr (7, [.int (iI 0), .ref (ad (y + 1)), .ref (ad (y + 2)), .ref (ad (y + 3)), .ref (ad (y + 4)), .ref (ad (y + 5)), .ref (ad (y + 6)), .ref (ad (y + 7)), .ref (ad (y + 8)), .ref (ad (y + 9)), .ref (ad (y + 10)), .ref (ad (y + 11)), .ref (ad (y + 12)), .ref (ad (y + 13)), .ref (ad (y + 14)), .ref (ad (y + 15)), .ref (ad (y + 16)), .ref (ad (y + 17)), .ref (ad (y + 18)), .ref (ad (y + 19)), .ref (ad (y + 20)), .ref (ad (y + 21)), .ref (ad (y + 22)), .ref (ad (y + 23)), .ref (ad (y + 24)), .ref (ad (y + 25)), .ref (ad (y + 26))]) → w10 (y + 1) = aI G 8 (fun q => (Co q : Int)) → w10 (y + 2) = aI G 64 (fun q => (Va q : Int)) → w10 (y + 19) = aI G 8 (fun q => (B q : Int)) → w10 (y + 23) = aI G 2001 Lf → va_P G.1 vwCl (nL N ad w10) H → va_S (nA N ad s.heap.size) s.heap H locs → lv_has ls 5 [(0, .ref (ad y)), (1, .int (iI ((sy : Nat) : Int))), (2, .int (iI ((s1 : Nat) : Int)))] → W p l e ({ frames := 1, cells := 0, slots := 0, locals := 26 } : Room) s m ([.ref (ad y), .int (iI ((sy : Nat) : Int))] : List Value).toArray below meth cd H locs 0 0 Q (F0 m 30 ls []) := by
      intro fu
      induction fu with
      | zero =>
        intro s1 Lf w10 H locs ls hfu hs1 hLf hfo hfr f_y f_Co f_Va f_by f_le hP hS hl
        exact absurd hfu (Nat.not_lt_zero _)
      | succ fu ih11 =>
        intro s1 Lf w10 H locs ls hfu hs1 hLf hfo hfr f_y f_Co f_Va f_by f_le hP hS hl
        refine lv_iload_n hx hb dX7_odd_30 rfl (lv_at hl 2 rfl) ?_
        refine n_sipush hx hb dX7_odd_31 (by decide) ?_
        refine n_icmp_gt (tgt := 160) hx hb dX7_odd_34 (by decide) (by omega) (by omega) (fun hc34 => ?_) (fun hc34 => ?_)
        · skip
          refine n_iconst hx hb dX7_odd_160 ?_
          refine n_iretP hQ hx hb hr hlocks hP hS dX7_odd_161 ?_
          exact ⟨hfr, ⟨B, hBe, (hfo.trans (by rw [show 2001 - s1 = 0 by omega]; rfl)).symm, f_by⟩, ⟨_, f_le⟩⟩
        · skip
          refine lv_aload_n hx hb dX7_odd_37 rfl (lv_at hl 0 rfl) ?_
          refine n_get hx hb hts u_X7 hown hK hP (by omega) f_y rfl 23 (by decide) (nT_m wf_X7_77) rfl dX7_odd_38 ?_
          refine lv_iload_n hx hb dX7_odd_41 rfl (lv_at hl 2 rfl) ?_
          refine lv_ldc (v := iI (1000000)) hx hb hown (hts _ (nT_m wk_X7_120)) dX7_odd_42 ?_
          refine n_iast hx hb hK hJ hP hS s1 (by omega) f_le (by omega) (by omega) (by decide) dX7_odd_44 (fun w12 H locs f_le hne13 hP hS => ?_)
          have f_y := (hne13 y (by omega)).trans f_y
          have f_Co := (hne13 (y + 1) (by omega)).trans f_Co
          have f_Va := (hne13 (y + 2) (by omega)).trans f_Va
          have f_by := (hne13 (y + 19) (by omega)).trans f_by
          have hfr : ∀ j, j ≠ (y + 19) → j ≠ (y + 23) → w12 j = w j := fun j a0 a1 => (hne13 j (by omega)).trans (hfr j a0 a1)
          refine n_iconst hx hb dX7_odd_45 ?_
          refine lv_istore_n (lv' := [(3, .int (iI 0)), (0, .ref (ad y)), (1, .int (iI ((sy : Nat) : Int))), (2, .int (iI ((s1 : Nat) : Int)))]) hx hb dX7_odd_46 rfl hl (by decide) rfl (fun ls hl => ?_)
          have lp14 : ∀ (fu : Nat), ∀ (k : Nat) (Lg : Nat → Int), ∀ (w15 : Nat → va_E) (H : Heap) (locs : List Loc), ∀ (ls : Array Slot), Co sy - k < fu → k ≤ Co sy → (∀ j, j < s1 → Lg j = mE (lst j)) → Lg s1 = mnF (fun q9 => Va (8 * sy + q9)) (fun j9 => mE (lst j9)) s1 k → (∀ j, j ≠ (y + 19) → j ≠ (y + 23) → w15 j = w j) → w15 y = .inr (7, [.int (iI 0), .ref (ad (y + 1)), .ref (ad (y + 2)), .ref (ad (y + 3)), .ref (ad (y + 4)), .ref (ad (y + 5)), .ref (ad (y + 6)), .ref (ad (y + 7)), .ref (ad (y + 8)), .ref (ad (y + 9)), .ref (ad (y + 10)), .ref (ad (y + 11)), .ref (ad (y + 12)), .ref (ad (y + 13)), .ref (ad (y + 14)), .ref (ad (y + 15)), .ref (ad (y + 16)), .ref (ad (y + 17)), .ref (ad (y + 18)), .ref (ad (y + 19)), .ref (ad (y + 20)), .ref (ad (y + 21)), .ref (ad (y + 22)), .ref (ad (y + 23)), .ref (ad (y + 24)), .ref (ad (y + 25)), .ref (ad (y + 26))]) → w15 (y + 1) = aI G 8 (fun q => (Co q : Int)) → w15 (y + 2) = aI G 64 (fun q => (Va q : Int)) → w15 (y + 19) = aI G 8 (fun q => (B q : Int)) → w15 (y + 23) = aI G 2001 Lg → va_P G.1 vwCl (nL N ad w15) H → va_S (nA N ad s.heap.size) s.heap H locs → lv_has ls 5 [(0, .ref (ad y)), (1, .int (iI ((sy : Nat) : Int))), (2, .int (iI ((s1 : Nat) : Int))), (3, .int (iI ((k : Nat) : Int)))] → W p l e ({ frames := 1, cells := 0, slots := 0, locals := 26 } : Room) s m ([.ref (ad y), .int (iI ((sy : Nat) : Int))] : List Value).toArray below meth cd H locs 0 0 Q (F0 m 47 ls []) := by
            intro fu
            induction fu with
            | zero =>
              intro k Lg w15 H locs ls hfu hk hLg hLs hfr f_y f_Co f_Va f_by f_le hP hS hl
              exact absurd hfu (Nat.not_lt_zero _)
            | succ fu ih16 =>
              intro k Lg w15 H locs ls hfu hk hLg hLs hfr f_y f_Co f_Va f_by f_le hP hS hl
              have hm1 := mnF_le (fun q9 => Va (8 * sy + q9)) (fun j9 => mE (lst j9)) s1 k
              have hm0 : 0 ≤ mnF (fun q9 => Va (8 * sy + q9)) (fun j9 => mE (lst j9)) s1 k := mnF_0 (fun x hx => (mE_rng (hlst x (by omega)) (by omega)).1) k
              have hLr : ∀ j, j ≤ s1 → 0 ≤ Lg j ∧ Lg j ≤ 1000000 := fun j hj => (Decidable.em (j = s1)).elim (fun e9 => by rw [e9, hLs]; omega) (fun e9 => by rw [hLg j (by omega)]; exact mE_rng (hlst j (by omega)) (by omega))
              have hls := hlst s1 (by omega)
              refine lv_iload_n hx hb dX7_odd_47 rfl (lv_at hl 3 rfl) ?_
              refine lv_aload_n hx hb dX7_odd_48 rfl (lv_at hl 0 rfl) ?_
              refine n_get hx hb hts u_X7 hown hK hP (by omega) f_y rfl 1 (by decide) (nT_m wf_X7_7) rfl dX7_odd_49 ?_
              refine lv_iload_n hx hb dX7_odd_52 rfl (lv_at hl 1 rfl) ?_
              refine n_iald hx hb hK hP sy (by omega) f_Co (by omega) (by omega) (by decide) dX7_odd_53 ?_
              have ho17 := hCo sy (by omega)
              refine n_icmp_ge (tgt := 119) hx hb dX7_odd_54 (by decide) (by omega) (by omega) (fun hc54 => ?_) (fun hc54 => ?_)
              · skip
                refine lv_aload_n hx hb dX7_odd_119 rfl (lv_at hl 0 rfl) ?_
                refine n_get hx hb hts u_X7 hown hK hP (by omega) f_y rfl 23 (by decide) (nT_m wf_X7_77) rfl dX7_odd_120 ?_
                refine lv_iload_n hx hb dX7_odd_123 rfl (lv_at hl 2 rfl) ?_
                refine n_iald hx hb hK hP s1 (by omega) f_le (by omega) (by omega) (by decide) dX7_odd_124 ?_
                have ho18 := hLr s1 (by omega)
                refine lv_ldc (v := iI (1000000)) hx hb hown (hts _ (nT_m wk_X7_120)) dX7_odd_125 ?_
                refine n_icmp_ge (tgt := 154) hx hb dX7_odd_127 (by decide) (by omega) (by omega) (fun hc127 => ?_) (fun hc127 => ?_)
                · skip
                  refine lv_iinc (v := iI (((s1 : Nat) : Int) + 1)) (lv' := [(2, .int (iI (((s1 : Nat) : Int) + 1))), (0, .ref (ad y)), (1, .int (iI ((sy : Nat) : Int))), (3, .int (iI ((k : Nat) : Int)))]) hx hb dX7_odd_154 hl (k := 2) rfl (by first | exact iI_add _ _ | exact (iI_add _ _).trans (congrArg iI (by omega))) (by decide) rfl (fun ls hl => ?_)
                  refine lv_goto (tgt := 30) hx hb dX7_odd_157 (by decide) ?_
                  exact ih11 (s1 + 1) Lg _ _ _ _ (by omega) (by omega) (fun j hj => (Decidable.em (j = s1)).elim (fun e9 => by rw [e9, hLs, show k = Co sy by omega]; exact (hrec s1 (by omega) (by omega)).symm) (fun e9 => hLg j (by omega))) (hfo.trans (by rw [show 2001 - s1 = (2001 - (s1 + 1)) + 1 by omega]; exact fo_f (decide_eq_false (fun h9 => by have h8 : Lg s1 = lst s1 := (by rw [hLs, show k = Co sy by omega, ← hrec s1 (by omega) (by omega)]; exact if_neg h9.1); omega)))) hfr f_y f_Co f_Va f_by f_le hP hS (by first | exact lv_sub hl [1, 2, 0] rfl | exact lv_cast (lv_sub (l' := [(0, .ref (ad y)), (1, .int (iI ((sy : Nat) : Int))), (2, .int (iI (((s1 : Nat) : Int) + 1)))]) hl [1, 2, 0] rfl) (lc_s (lc_s (lc_i (show ((((s1 : Nat) : Int) + 1) : Int) = (((s1 + 1) : Nat) : Int) by omega) rfl))))
                · skip
                  refine lv_aload_n hx hb dX7_odd_130 rfl (lv_at hl 0 rfl) ?_
                  refine lv_iload_n hx hb dX7_odd_131 rfl (lv_at hl 1 rfl) ?_
                  refine lv_iload_n hx hb dX7_odd_132 rfl (lv_at hl 2 rfl) ?_
                  refine n_rdF (va_runV (As := [.int (iI ((sy : Nat) : Int)), .int (iI ((s1 : Nat) : Int))]) (rest := []) ⟨hx, hb, hml, hown, hts⟩ (c_X7_greedyOf _ Co Va sy s1 B (by omega) hCo hVa (by omega) (by omega) hB hV1 f_y f_Co f_Va f_by) (cwV 2 hts (nT_V wl_X7_131 wi_X7_greedyOf ws_X7_greedyOf wn_X7 wc_X7_greedyOf) rfl rfl rfl (by decide +kernel) ⟨Nat.le_of_ble_eq_true rfl, Nat.le_of_ble_eq_true rfl⟩) (nB.preV hK hI hP (by omega) f_y rfl rfl) rfl rfl hl.1 rfl (lv_room (Nat.le_of_ble_eq_true rfl)) dX7_odd_133 ⟨Nat.zero_le _, Nat.zero_le _⟩) ?_
                  have hgv := grV_rng (fun q9 => Va (8 * sy + q9)) B (Co sy) s1 (by omega) (by omega)
                  refine lv_istore_n (lv' := [(3, .int (iI (grV (fun q9 => Va (8 * sy + q9)) B (Co sy) s1))), (0, .ref (ad y)), (1, .int (iI ((sy : Nat) : Int))), (2, .int (iI ((s1 : Nat) : Int)))]) hx hb dX7_odd_136 rfl hl (by decide) rfl (fun ls hl => ?_)
                  refine lv_iload_n hx hb dX7_odd_137 rfl (lv_at hl 0 rfl) ?_
                  refine n_iconst hx hb dX7_odd_138 ?_
                  refine n_icmp_eq (tgt := 152) hx hb dX7_odd_139 (by decide) (by omega) (by omega) (fun hc139 => ?_) (fun hc139 => ?_)
                  · skip
                    refine lv_iload_n hx hb dX7_odd_152 rfl (lv_at hl 3 rfl) ?_
                    refine n_iretP hQ hx hb hr hlocks hP hS dX7_odd_153 ?_
                    have h8 : Lg s1 = mE (lst s1) := by rw [hLs, show k = Co sy by omega, ← hrec s1 (by omega) (by omega)]
                    have h7 : ¬ lst s1 = -1 := fun e9 => by rw [e9] at h8; have h6 : mE (-1) = 1000000 := rfl; omega
                    have h5 : Lg s1 = lst s1 := h8.trans (if_neg h7)
                    exact ⟨hfr, ⟨B, hBe, (hfo.trans (by rw [show 2001 - s1 = (2001 - (s1 + 1)) + 1 by omega]; exact fo_t (decide_eq_true ⟨h7, by omega⟩))).symm, f_by⟩, ⟨_, f_le⟩⟩
                  · skip
                    refine lv_iload_n hx hb dX7_odd_142 rfl (lv_at hl 0 rfl) ?_
                    refine lv_aload_n hx hb dX7_odd_143 rfl (lv_at hl 1 rfl) ?_
                    refine n_get hx hb hts u_X7 hown hK hP (by omega) f_y rfl 23 (by decide) (nT_m wf_X7_77) rfl dX7_odd_144 ?_
                    refine lv_iload_n hx hb dX7_odd_147 rfl (lv_at hl 3 rfl) ?_
                    refine n_iald hx hb hK hP s1 (by omega) f_le (by omega) (by omega) (by decide) dX7_odd_148 ?_
                    have ho19 := hLr s1 (by omega)
                    refine n_icmp_le (tgt := 154) hx hb dX7_odd_149 (by decide) (by omega) (by omega) (fun hc149 => ?_) (fun hc149 => ?_)
                    · skip
                      refine lv_iinc (v := iI (((s1 : Nat) : Int) + 1)) (lv' := [(2, .int (iI (((s1 : Nat) : Int) + 1))), (3, .int (iI (grV (fun q9 => Va (8 * sy + q9)) B (Co sy) s1))), (0, .ref (ad y)), (1, .int (iI ((sy : Nat) : Int)))]) hx hb dX7_odd_154 hl (k := 3) rfl (by first | exact iI_add _ _ | exact (iI_add _ _).trans (congrArg iI (by omega))) (by decide) rfl (fun ls hl => ?_)
                      refine lv_goto (tgt := 30) hx hb dX7_odd_157 (by decide) ?_
                      exact ih11 (s1 + 1) Lg _ _ _ _ (by omega) (by omega) (fun j hj => (Decidable.em (j = s1)).elim (fun e9 => by rw [e9, hLs, show k = Co sy by omega]; exact (hrec s1 (by omega) (by omega)).symm) (fun e9 => hLg j (by omega))) (hfo.trans (by rw [show 2001 - s1 = (2001 - (s1 + 1)) + 1 by omega]; exact fo_f (decide_eq_false (fun h9 => by have h8 : Lg s1 = lst s1 := (by rw [hLs, show k = Co sy by omega, ← hrec s1 (by omega) (by omega)]; exact if_neg h9.1); have h7 := hgr s1 (by omega) (by rw [← hBe]; omega) h9.1; rw [← hBe] at h7; omega)))) hfr f_y f_Co f_Va f_by f_le hP hS (by first | exact lv_sub hl [2, 3, 0] rfl | exact lv_cast (lv_sub (l' := [(0, .ref (ad y)), (1, .int (iI ((sy : Nat) : Int))), (2, .int (iI (((s1 : Nat) : Int) + 1)))]) hl [2, 3, 0] rfl) (lc_s (lc_s (lc_i (show ((((s1 : Nat) : Int) + 1) : Int) = (((s1 + 1) : Nat) : Int) by omega) rfl))))
                    · skip
                      refine lv_iload_n hx hb dX7_odd_152 rfl (lv_at hl 3 rfl) ?_
                      refine n_iretP hQ hx hb hr hlocks hP hS dX7_odd_153 ?_
                      have h8 : Lg s1 = mE (lst s1) := by rw [hLs, show k = Co sy by omega, ← hrec s1 (by omega) (by omega)]
                      have h7 : ¬ lst s1 = -1 := fun e9 => by rw [e9] at h8; have h6 : mE (-1) = 1000000 := rfl; omega
                      have h5 : Lg s1 = lst s1 := h8.trans (if_neg h7)
                      exact ⟨hfr, ⟨B, hBe, (hfo.trans (by rw [show 2001 - s1 = (2001 - (s1 + 1)) + 1 by omega]; exact fo_t (decide_eq_true ⟨h7, by omega⟩))).symm, f_by⟩, ⟨_, f_le⟩⟩
              · skip
                have hv1 := hV1 k (by omega)
                refine lv_aload_n hx hb dX7_odd_57 rfl (lv_at hl 0 rfl) ?_
                refine n_get hx hb hts u_X7 hown hK hP (by omega) f_y rfl 2 (by decide) (nT_m wf_X7_13) rfl dX7_odd_58 ?_
                refine n_bipush hx hb dX7_odd_61 (by decide) ?_
                refine lv_iload_n hx hb dX7_odd_63 rfl (lv_at hl 1 rfl) ?_
                refine n_imul hx hb dX7_odd_64 ?_
                refine lv_iload_n hx hb dX7_odd_65 rfl (lv_at hl 3 rfl) ?_
                refine n_iadd hx hb dX7_odd_66 ?_
                refine n_iald hx hb hK hP ((8 * sy) + k) (by omega) f_Va (by omega) (by omega) (by decide) dX7_odd_67 ?_
                have ho20 := hVa ((8 * sy) + k) (by omega)
                refine lv_istore (lv' := [(4, .int (iI (Va ((8 * sy) + k) : Int))), (0, .ref (ad y)), (1, .int (iI ((sy : Nat) : Int))), (2, .int (iI ((s1 : Nat) : Int))), (3, .int (iI ((k : Nat) : Int)))]) hx hb dX7_odd_68 hl (by decide) rfl (fun ls hl => ?_)
                refine lv_iload hx hb dX7_odd_70 (lv_at hl 0 rfl) ?_
                refine lv_iload_n hx hb dX7_odd_72 rfl (lv_at hl 3 rfl) ?_
                refine n_icmp_gt (tgt := 113) hx hb dX7_odd_73 (by decide) (by omega) (by omega) (fun hc73 => ?_) (fun hc73 => ?_)
                · skip
                  refine lv_iinc (v := iI (((k : Nat) : Int) + 1)) (lv' := [(3, .int (iI (((k : Nat) : Int) + 1))), (4, .int (iI (Va ((8 * sy) + k) : Int))), (0, .ref (ad y)), (1, .int (iI ((sy : Nat) : Int))), (2, .int (iI ((s1 : Nat) : Int)))]) hx hb dX7_odd_113 hl (k := 4) rfl (by first | exact iI_add _ _ | exact (iI_add _ _).trans (congrArg iI (by omega))) (by decide) rfl (fun ls hl => ?_)
                  refine lv_goto (tgt := 47) hx hb dX7_odd_116 (by decide) ?_
                  exact ih16 (k + 1) Lg _ _ _ _ (by omega) (by omega) hLg (hLs.trans (mnF_n (val := (fun q9 => Va (8 * sy + q9))) (le := (fun j9 => mE (lst j9))) (by show ¬ (Va (8 * sy + k) ≤ s1 ∧ mE (lst (s1 - Va (8 * sy + k))) + 1 < _); intro h9; rw [← hLg _ (by omega), ← hLs] at h9; omega)).symm) hfr f_y f_Co f_Va f_by f_le hP hS (by first | exact lv_sub hl [2, 3, 4, 0] rfl | exact lv_cast (lv_sub (l' := [(0, .ref (ad y)), (1, .int (iI ((sy : Nat) : Int))), (2, .int (iI ((s1 : Nat) : Int))), (3, .int (iI (((k : Nat) : Int) + 1)))]) hl [2, 3, 4, 0] rfl) (lc_s (lc_s (lc_s (lc_i (show ((((k : Nat) : Int) + 1) : Int) = (((k + 1) : Nat) : Int) by omega) rfl)))))
                · skip
                  have hv1 := hV1 k (by omega)
                  refine lv_aload_n hx hb dX7_odd_76 rfl (lv_at hl 1 rfl) ?_
                  refine n_get hx hb hts u_X7 hown hK hP (by omega) f_y rfl 23 (by decide) (nT_m wf_X7_77) rfl dX7_odd_77 ?_
                  refine lv_iload_n hx hb dX7_odd_80 rfl (lv_at hl 3 rfl) ?_
                  refine lv_iload hx hb dX7_odd_81 (lv_at hl 0 rfl) ?_
                  refine n_isub hx hb dX7_odd_83 ?_
                  refine n_iald hx hb hK hP (s1 - Va (8 * sy + k)) (by omega) f_le (by omega) (by omega) (by decide) dX7_odd_84 ?_
                  have ho21 := hLr (s1 - Va (8 * sy + k)) (by omega)
                  refine n_iconst hx hb dX7_odd_85 ?_
                  refine n_iadd hx hb dX7_odd_86 ?_
                  refine lv_aload_n hx hb dX7_odd_87 rfl (lv_at hl 1 rfl) ?_
                  refine n_get hx hb hts u_X7 hown hK hP (by omega) f_y rfl 23 (by decide) (nT_m wf_X7_77) rfl dX7_odd_88 ?_
                  refine lv_iload_n hx hb dX7_odd_91 rfl (lv_at hl 3 rfl) ?_
                  refine n_iald hx hb hK hP s1 (by omega) f_le (by omega) (by omega) (by decide) dX7_odd_92 ?_
                  have ho22 := hLr s1 (by omega)
                  refine n_icmp_ge (tgt := 113) hx hb dX7_odd_93 (by decide) (by omega) (by omega) (fun hc93 => ?_) (fun hc93 => ?_)
                  · skip
                    refine lv_iinc (v := iI (((k : Nat) : Int) + 1)) (lv' := [(3, .int (iI (((k : Nat) : Int) + 1))), (4, .int (iI (Va ((8 * sy) + k) : Int))), (0, .ref (ad y)), (1, .int (iI ((sy : Nat) : Int))), (2, .int (iI ((s1 : Nat) : Int)))]) hx hb dX7_odd_113 hl (k := 4) rfl (by first | exact iI_add _ _ | exact (iI_add _ _).trans (congrArg iI (by omega))) (by decide) rfl (fun ls hl => ?_)
                    refine lv_goto (tgt := 47) hx hb dX7_odd_116 (by decide) ?_
                    exact ih16 (k + 1) Lg _ _ _ _ (by omega) (by omega) hLg (hLs.trans (mnF_n (val := (fun q9 => Va (8 * sy + q9))) (le := (fun j9 => mE (lst j9))) (by show ¬ (Va (8 * sy + k) ≤ s1 ∧ mE (lst (s1 - Va (8 * sy + k))) + 1 < _); intro h9; rw [← hLg _ (by omega), ← hLs] at h9; omega)).symm) hfr f_y f_Co f_Va f_by f_le hP hS (by first | exact lv_sub hl [2, 3, 4, 0] rfl | exact lv_cast (lv_sub (l' := [(0, .ref (ad y)), (1, .int (iI ((sy : Nat) : Int))), (2, .int (iI ((s1 : Nat) : Int))), (3, .int (iI (((k : Nat) : Int) + 1)))]) hl [2, 3, 4, 0] rfl) (lc_s (lc_s (lc_s (lc_i (show ((((k : Nat) : Int) + 1) : Int) = (((k + 1) : Nat) : Int) by omega) rfl)))))
                  · skip
                    refine lv_aload_n hx hb dX7_odd_96 rfl (lv_at hl 1 rfl) ?_
                    refine n_get hx hb hts u_X7 hown hK hP (by omega) f_y rfl 23 (by decide) (nT_m wf_X7_77) rfl dX7_odd_97 ?_
                    refine lv_iload_n hx hb dX7_odd_100 rfl (lv_at hl 3 rfl) ?_
                    refine lv_aload_n hx hb dX7_odd_101 rfl (lv_at hl 1 rfl) ?_
                    refine n_get hx hb hts u_X7 hown hK hP (by omega) f_y rfl 23 (by decide) (nT_m wf_X7_77) rfl dX7_odd_102 ?_
                    refine lv_iload_n hx hb dX7_odd_105 rfl (lv_at hl 3 rfl) ?_
                    refine lv_iload hx hb dX7_odd_106 (lv_at hl 0 rfl) ?_
                    refine n_isub hx hb dX7_odd_108 ?_
                    refine n_iald hx hb hK hP (s1 - Va (8 * sy + k)) (by omega) f_le (by omega) (by omega) (by decide) dX7_odd_109 ?_
                    have ho23 := hLr (s1 - Va (8 * sy + k)) (by omega)
                    refine n_iconst hx hb dX7_odd_110 ?_
                    refine n_iadd hx hb dX7_odd_111 ?_
                    refine n_iast hx hb hK hJ hP hS s1 (by omega) f_le (by omega) (by omega) (by decide) dX7_odd_112 (fun w24 H locs f_le hne25 hP hS => ?_)
                    have f_y := (hne25 y (by omega)).trans f_y
                    have f_Co := (hne25 (y + 1) (by omega)).trans f_Co
                    have f_Va := (hne25 (y + 2) (by omega)).trans f_Va
                    have f_by := (hne25 (y + 19) (by omega)).trans f_by
                    have hfr : ∀ j, j ≠ (y + 19) → j ≠ (y + 23) → w24 j = w j := fun j a0 a1 => (hne25 j (by omega)).trans (hfr j a0 a1)
                    refine lv_iinc (v := iI (((k : Nat) : Int) + 1)) (lv' := [(3, .int (iI (((k : Nat) : Int) + 1))), (4, .int (iI (Va ((8 * sy) + k) : Int))), (0, .ref (ad y)), (1, .int (iI ((sy : Nat) : Int))), (2, .int (iI ((s1 : Nat) : Int)))]) hx hb dX7_odd_113 hl (k := 4) rfl (by first | exact iI_add _ _ | exact (iI_add _ _).trans (congrArg iI (by omega))) (by decide) rfl (fun ls hl => ?_)
                    refine lv_goto (tgt := 47) hx hb dX7_odd_116 (by decide) ?_
                    exact ih16 (k + 1) (va_up Lg s1 (Lg (s1 - Va (8 * sy + k)) + 1)) _ _ _ _ (by omega) (by omega) (fun j hj => by rw [va_up_ne _ _ (by omega)]; exact hLg j hj) (by rw [va_up_self, mnF_y (val := (fun q9 => Va (8 * sy + q9))) (le := (fun j9 => mE (lst j9))) (by show Va (8 * sy + k) ≤ s1 ∧ mE (lst (s1 - Va (8 * sy + k))) + 1 < _; rw [← hLg _ (by omega), ← hLs]; omega), hLg _ (by omega)]) hfr f_y f_Co f_Va f_by f_le hP hS (by first | exact lv_sub hl [2, 3, 4, 0] rfl | exact lv_cast (lv_sub (l' := [(0, .ref (ad y)), (1, .int (iI ((sy : Nat) : Int))), (2, .int (iI ((s1 : Nat) : Int))), (3, .int (iI (((k : Nat) : Int) + 1)))]) hl [2, 3, 4, 0] rfl) (lc_s (lc_s (lc_s (lc_i (show ((((k : Nat) : Int) + 1) : Int) = (((k + 1) : Nat) : Int) by omega) rfl)))))
          exact lp14 (Co sy - 0 + 1) 0 (va_up Lf s1 1000000) _ _ _ _ (Nat.lt_succ_self _) (by omega) (fun j hj => by rw [va_up_ne _ _ (by omega)]; exact hLf j hj) (va_up_self _ _ _) hfr f_y f_Co f_Va f_by f_le hP hS (by first | exact lv_sub hl [1, 2, 3, 0] rfl | exact lv_cast (lv_sub (l' := [(0, .ref (ad y)), (1, .int (iI ((sy : Nat) : Int))), (2, .int (iI ((s1 : Nat) : Int))), (3, .int (iI 0))]) hl [1, 2, 3, 0] rfl) (lc_s (lc_s (lc_s (lc_i (show (0 : Int) = ((0 : Nat) : Int) by omega) rfl)))))
    exact lp9 (2001 - 1 + 1) 1 (va_up le0 0 0) _ _ _ _ (Nat.lt_succ_self _) (by omega) (fun j hj => by obtain rfl : j = 0 := (by omega); rw [va_up_self, hl0]; rfl) (fo_f (decide_eq_false (fun h9 => h9.2 (by rw [grV_0, hl0])))) hfr f_y f_Co f_Va f_by f_le hP hS (by first | exact lv_sub hl [1, 2, 0] rfl | exact lv_cast (lv_sub (l' := [(0, .ref (ad y)), (1, .int (iI ((sy : Nat) : Int))), (2, .int (iI 1))]) hl [1, 2, 0] rfl) (lc_s (lc_s (lc_i (show (1 : Int) = ((1 : Nat) : Int) by omega) rfl))))
  · skip
    exact absurd hc11 (by omega)
