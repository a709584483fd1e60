/-! ===== an int array of two dimensions is made (the kit has no row for it) ===== -/
def maO (cO : ClassId) (n h i : Nat) : Cell := arrV cO n (fun j => if j < i then .ref (h + 1 + j) else .null)
def maI (cI : ClassId) (M : Nat) : Cell := arrV cI M (fun _ => .int 0)
/-- the state when the outer array and i rows are made -/
def maT (T : State) (cO cI : ClassId) (n M : Nat) : Nat → State
  | 0 => T.pushCell (maO cO n T.heap.size 0)
  | i + 1 => ((maT T cO cI n M i).pushCell (maI cI M)).setCell T.heap.size (maO cO n T.heap.size (i + 1))
theorem maO_s (cO : ClassId) (n h i : Nat) : (maO cO n h i).setSlot i (.ref (h + 1 + i)) = maO cO n h (i + 1) := by
  unfold maO
  rw [arrV_store]
  congr 1
  funext j
  unfold updV
  by_cases e : j = i
  · rw [if_pos e, if_pos (by omega), e]
  · rw [if_neg e]
    dsimp only
    by_cases h1 : j < i
    · rw [if_pos h1, if_pos (by omega)]
    · rw [if_neg h1, if_neg (by omega)]
theorem maO_0 (cO : ClassId) (n h : Nat) : ({ cls := cO, slots := Array.replicate n .null, vm := .none } : Cell) = maO cO n h 0 := by
  rw [arrV_new]
  unfold maO
  congr 1
theorem maT_sz (T : State) (cO cI : ClassId) (n M : Nat) : ∀ i, (maT T cO cI n M i).heap.size = T.heap.size + 1 + i ∧ (maT T cO cI n M i).heap[T.heap.size]? = some (maO cO n T.heap.size i) ∧ (maT T cO cI n M i).vm = T.vm ∧ (maT T cO cI n M i).slotsUsed = T.slotsUsed + n + i * M
  | 0 => by
    refine ⟨by simp [maT], by simp [maT], rfl, ?_⟩
    simp [maT, maO, arrV_size]
  | i + 1 => by
    obtain ⟨a, b, d, u⟩ := maT_sz T cO cI n M i
    have hlt : T.heap.size < (maT T cO cI n M i).heap.size := by omega
    have hb : ((maT T cO cI n M i).pushCell (maI cI M)).heap[T.heap.size]? = some (maO cO n T.heap.size i) := by
      rw [State.heap_pushCell_of_lt (h := hlt)]
      exact b
    refine ⟨?_, State.heap_setCell_self hb, by simp [maT, d], ?_⟩
    · simp [maT, State.setCell, a]
      omega
    · simp [maT, u, maI, arrV_size, Nat.succ_mul]
      omega
theorem maT_old (T : State) (cO cI : ClassId) (n M : Nat) {a : Nat} (ha : a < T.heap.size) : ∀ i, (maT T cO cI n M i).heap[a]? = T.heap[a]?
  | 0 => State.heap_pushCell_of_lt _ _ ha
  | i + 1 => by
    have f1 := (maT_sz T cO cI n M i).1
    show (((maT T cO cI n M i).pushCell (maI cI M)).setCell T.heap.size _).heap[a]? = _
    have hlt : a < (maT T cO cI n M i).heap.size := by omega
    rw [State.heap_setCell_other (Nat.ne_of_gt ha), State.heap_pushCell_of_lt (h := hlt)]
    exact maT_old T cO cI n M ha i
theorem maT_row (T : State) (cO cI : ClassId) (n M : Nat) : ∀ i j, j < i → (maT T cO cI n M i).heap[T.heap.size + 1 + j]? = some (maI cI M)
  | 0, _, h => absurd h (Nat.not_lt_zero _)
  | i + 1, j, h => by
    have f1 := (maT_sz T cO cI n M i).1
    show (((maT T cO cI n M i).pushCell (maI cI M)).setCell T.heap.size _).heap[T.heap.size + 1 + j]? = _
    rw [State.heap_setCell_other (show T.heap.size ≠ T.heap.size + 1 + j by omega)]
    by_cases e : j = i
    · subst e
      rw [← f1]
      exact State.heap_pushCell_size _ _
    · have hlt : T.heap.size + 1 + j < (maT T cO cI n M i).heap.size := by omega
      rw [State.heap_pushCell_of_lt (h := hlt)]
      exact maT_row T cO cI n M i j (by omega)
theorem maT_top (T : State) (f : JFrame) (cO cI : ClassId) (n M : Nat) : ∀ i, maT (T.setTop f) cO cI n M i = (maT T cO cI n M i).setTop f
  | 0 => rfl
  | i + 1 => by simp only [maT, maT_top T f cO cI n M i, State.heap_setTop, State.pushCell_setTop, State.setCell_setTop]
section MA
variable {E : CtlPost} {e : Env} {d : Bool} {acts : List Action} {s : State}
theorem ma_new {c comp : ClassId} {k : Class} {type : FieldType} {len : Nat} {init : Value} (hk : s.vm.classes[c]? = some k) (hkind : k.kind = .array comp type) (h1 : ¬ len > e.platform.arrayLengthLimit) (h2 : ¬ len * componentBytes type > e.platform.maxHeapBytes) (hfit : fits type init = true) (hdef : init.isDefault = true) {Q : Addr → Pre} (h3 : s.heap.size < e.platform.maxCells) (h4 : s.slotsUsed + len ≤ e.platform.maxSlots) (hq : Q s.heap.size d acts (s.pushCell { cls := c, slots := Array.replicate len init, vm := .none })) : wp (Jvm.newArray c len init) Q E e d acts s := by
  have hf : ∀ i v, (Array.replicate len init)[i]? = some v → s.fitsSlot c .none i v = true := by
    intro i v hv
    simp only [Array.getElem?_replicate] at hv
    split at hv
    · cases hv
      simp [State.fitsSlot, State.slotType?, hk, hkind, hfit]
    · cases hv
  have ha : allocActs (Array.replicate len init) s.heap.size acts = acts := by
    have hall : ((Array.replicate len init).all (·.isDefault)) = true := by
      rw [Array.all_replicate]
      split <;> simp [hdef]
    unfold allocActs
    rw [if_pos hall]
  simp only [Jvm.newArray, Jvm.arrayFits, wp_bind', W.ask, W.ite, h1, if_false, wp_pure', W.theClass, hk, hkind, h2, W.alloc, W.stop, Option.some.injEq, exists_eq_left', Array.size_replicate, ha]
  rw [if_neg (by omega)]
  exact ⟨h3, h4, hf, hq⟩
theorem ma_row {comp cc : ClassId} {kc : Class} {m : Int32} {M : Nat} (hkc : s.vm.classes[comp]? = some kc) (hkind : kc.kind = .array cc .int) (hm : ¬ m < 0) (hM : m.toNatClampNeg = M) (h1 : ¬ M > e.platform.arrayLengthLimit) (h2 : ¬ M * 4 > e.platform.maxHeapBytes) (h3 : s.heap.size < e.platform.maxCells) (h4 : s.slotsUsed + M ≤ e.platform.maxSlots) {Q : Addr → Pre} (hq : Q s.heap.size d acts (s.pushCell (maI comp M))) : wp (multianewarray.make comp [m]) Q E e d acts s := by
  subst hM
  rw [multianewarray.make]
  simp only [wp_bind', W.ite, hm, if_false, wp_pure', W.theClass, hkc, hkind, Option.some.injEq, exists_eq_left']
  refine ma_new hkc hkind h1 h2 rfl rfl h3 h4 ?_
  rw [arrV_new]
  exact hq
theorem ma_grid {c comp cc : ClassId} {k kc : Class} {n m : Int32} {Nn M : Nat} (hk : s.vm.classes[c]? = some k) (hkind : k.kind = .array comp (.array .int)) (hkc : s.vm.classes[comp]? = some kc) (hkindc : kc.kind = .array cc .int) (hn : ¬ n < 0) (hm : ¬ m < 0) (hN : n.toNatClampNeg = Nn) (hM : m.toNatClampNeg = M) (hl1 : ¬ Nn > e.platform.arrayLengthLimit) (hh1 : ¬ Nn * 4 > e.platform.maxHeapBytes) (hl2 : ¬ M > e.platform.arrayLengthLimit) (hh2 : ¬ M * 4 > e.platform.maxHeapBytes) (hc : s.heap.size + 1 + Nn ≤ e.platform.maxCells) (hs : s.slotsUsed + Nn + Nn * M ≤ e.platform.maxSlots) {Q : Addr → Pre} (hq : ∀ d' acts', Q s.heap.size d' acts' (maT s c comp Nn M Nn)) : wp (multianewarray.make c [n, m]) Q E e d acts s := by
  have hfind : ([m].find? (· < 0)) = none := by simp [hm]
  rw [multianewarray.make]
  simp only [wp_bind', W.ite, hn, if_false, wp_pure', W.theClass, hk, hkind, Option.some.injEq, exists_eq_left']
  rw [hN]
  have hz : Nn * 0 ≤ Nn * M := Nat.mul_le_mul_left Nn (Nat.zero_le M)
  refine ma_new hk hkind hl1 hh1 rfl rfl (by omega) (by omega) ?_
  simp only [hfind]
  rw [ite_self, wp_bind', Std.Legacy.Range.forIn_eq_forIn_range']
  have hsz : ([:Nn] : Std.Legacy.Range).size = Nn := by simp [Std.Legacy.Range.size]
  rw [hsz]
  show wp (forIn (List.range' 0 Nn 1) PUnit.unit _) _ E e d acts _
  rw [maO_0 c Nn s.heap.size]
  refine wp_forIn_inv (fun rest s' => ∃ i, i ≤ Nn ∧ rest = List.range' i (Nn - i) ∧ s' = maT s c comp Nn M i) _ _ ⟨0, Nat.zero_le _, rfl, rfl⟩ ?_ ?_
  · rintro x rest s' d' acts' Q' ⟨i, hi, hl, rfl⟩ hnext
    have hlt : i < Nn := by
      rcases Nat.lt_or_ge i Nn with h | h
      · exact h
      · rw [show Nn - i = 0 by omega] at hl
        simp at hl
    obtain ⟨rfl, hrest⟩ : x = i ∧ rest = List.range' (i + 1) (Nn - (i + 1)) := by
      rw [show Nn - i = (Nn - (i + 1)) + 1 by omega, List.range'_succ] at hl
      exact ⟨(List.cons.inj hl).1, (List.cons.inj hl).2⟩
    obtain ⟨f1, f2, f3, f4⟩ := maT_sz s c comp Nn M x
    have hmul : (x + 1) * M ≤ Nn * M := Nat.mul_le_mul_right M hlt
    rw [Nat.succ_mul] at hmul
    have hlt0 : s.heap.size < (maT s c comp Nn M x).heap.size := by omega
    simp only [wp_bind']
    refine ma_row (by rw [f3]; exact hkc) hkindc hm hM hl2 hh2 (by omega) (by omega) ?_
    simp only [wp_bind', W.writeLoc, wp_pure']
    refine ⟨maO c Nn s.heap.size x, by rw [State.heap_pushCell_of_lt (h := hlt0)]; exact f2, by simp [maO, arrV], by rw [maO, arrV_size]; exact hlt, ?_, hnext _ _ _ ⟨x + 1, hlt, hrest, ?_⟩⟩
    · simp [State.fitsSlot, State.slotType?, f3, maO, arrV, hk, hkind, fits]
    · rw [f1, maO_s]
      rfl
  · rintro s' d' acts' ⟨i, hi, hl, rfl⟩
    have hiN : i = Nn := by
      rcases Nat.lt_or_ge i Nn with h | h
      · rw [show Nn - i = (Nn - (i + 1)) + 1 by omega, List.range'_succ] at hl
        cases hl
      · omega
    subst hiN
    simp only [wp_pure']
    exact hq _ _
end MA
section MB
variable {p : Program} {l : Launch} {e : Env} {R : Room} {s : State} {m : MethodId} {args : Array Value} {below : List Frame} {meth : Method} {c : Code} {T : State} {H : Heap} {locs : List Loc} {cells slots : Nat} {Q : State → Prop}
variable {cc : ByteArray} {pc : Nat} {ls : Array Slot} {rest : List Value} {G : nG} {N N0 ab : Nat} {ad : Nat → Nat} {w : Nat → va_E}
theorem ma_stand (X : Stand p l e R s m args below meth c T locs cells slots) (cO cI : ClassId) (n M : Nat) : ∀ i, Stand p l e R s m args below meth c (maT T cO cI n M i) (locs ++ (List.range i).map fun j => ⟨T.heap.size, j⟩) (cells + 1 + i) (slots + n + i * M)
  | 0 => by
    have h := X.pushed (maO cO n T.heap.size 0)
    rw [show (maO cO n T.heap.size 0).slots.size = n from arrV_size _ _ _] at h
    simpa [maT] using h
  | i + 1 => by
    have Xi := ma_stand X cO cI n M i
    obtain ⟨f1, f2, f3, f4⟩ := maT_sz T cO cI n M i
    have hlt : T.heap.size < (maT T cO cI n M i).heap.size := by omega
    have hcell : ((maT T cO cI n M i).pushCell (maI cI M)).heap[T.heap.size]? = some (maO cO n T.heap.size i) := by
      rw [State.heap_pushCell_of_lt (h := hlt)]
      exact f2
    have h := (Xi.pushed (maI cI M)).stored hcell i (.ref (T.heap.size + 1 + i))
    rw [show (maI cI M).slots.size = M from arrV_size _ _ _, maO_s] at h
    have e2 : (locs ++ (List.range (i + 1)).map fun j => (⟨T.heap.size, j⟩ : Loc)) = (locs ++ (List.range i).map fun j => (⟨T.heap.size, j⟩ : Loc)) ++ [⟨T.heap.size, i⟩] := by
      simp [List.range_succ, List.append_assoc]
    have e3 : slots + n + (i + 1) * M = slots + n + i * M + M := by
      rw [Nat.succ_mul]
      omega
    rw [e2, e3]
    exact h
theorem n_multi (hE : ad = nad ab) (hx : p.tables.exec = Jvm.exec) (hb : c.code = cc) {own : String} {index : Nat} (hown : s.vm.findClass own = some m.cls) (hclink : (Cond.classLink own index ("[" ++ (FieldType.array .int).toString)).before args s = true) (hover : aoI s) (harr : (Cond.arrayClass .int).before args s = true) (hK : nK G s) (hs0 : s.heap.size = ab + N0) (hcN : N0 + cells = N) (h0 : 0 < N) (hP : va_P G.1 vwCl (nL N ad w) H) (hS : va_S (nF ab) s.heap H locs) {n M : Nat} {z z2 : Int} (hz : z = (n : Int)) (hz2 : z2 = (M : Int)) (hn : n ≤ 100000) (hM : M ≤ 100000) (hcells : cells + (1 + n) ≤ R.cells) (hslots : slots + (n + n * M) ≤ R.slots) (hdg : decode cc pc = .ok (.multianewarray index 2, 4)) (kk : ∀ (w1 : Nat → va_E) (H1 : Heap) (locs1 : List Loc), w1 N = aR G 5 n (fun j => some (ad (N + 1 + j))) → (∀ j, j < n → w1 (N + 1 + j) = aI G M (fun _ => 0)) → (∀ j, ¬ (N ≤ j) → w1 j = w j) → va_P G.1 vwCl (nL (N + (1 + n)) ad w1) H1 → va_S (nF ab) s.heap H1 locs1 → W p l e R s m args below meth c H1 locs1 (cells + 1 + n) (slots + n + n * M) Q (F0 m (pc + 4) ls (.ref (ad N) :: rest))) : W p l e R s m args below meth c H locs cells slots Q (F0 m pc ls (.int (iI z2) :: .int (iI z) :: rest)) := by
  refine n_sz hE hs0 hcN h0 hP (fun hH => ?_)
  intro T hT X
  subst hT
  subst hb
  have hn0 : ¬ iI z < 0 := fun q => by
    have := (iI_lt (a := z) (b := 0) (by omega) (by decide)).mp q
    omega
  have hm0 : ¬ iI z2 < 0 := fun q => by
    have := (iI_lt (a := z2) (b := 0) (by omega) (by decide)).mp q
    omega
  have hcn : (iI z).toNatClampNeg = n := by
    rw [hz]
    exact iI_cl (by omega)
  have hcm : (iI z2).toNatClampNeg = M := by
    rw [hz2]
    exact iI_cl (by omega)
  have hpl : e.platform.magicAccessors = ({} : Platform).magicAccessors := by rw [X.admits.platform]
  obtain ⟨comp, cA, kA, hcomp, -, hkA, hkindA, hnameA⟩ := arrayOverA_spec hover
  obtain ⟨comp', kC, cc', hcomp', hkC, hkindC⟩ := Cond.arrayClass_spec harr
  have ecomp : comp' = comp := Option.some.inj (hcomp'.symm.trans hcomp)
  subst ecomp
  obtain ⟨c0, hfc0, hcl⟩ := Cond.classLink_spec hown hclink e.platform hpl
  cases hnameA.symm.trans hfc0
  obtain ⟨hg₁, hwarm₁, hready₁⟩ := State.classEntry (e := e) X.warmed hcl
  generalize T.vm.noted m.cls index (.cls cA) = vm₁ at hg₁ hwarm₁ hready₁
  have hal : s.vm.Alike vm₁ := hwarm₁.alike
  obtain ⟨kA₁, hkA₁, heA⟩ := hal.2.2 _ _ hkA
  obtain ⟨kC₁, hkC₁, heC⟩ := hal.2.2 _ _ hkC
  have hkindA₁ : kA₁.kind = .array comp' (.array .int) := by rw [heA]; exact hkindA
  have hkindC₁ : kC₁.kind = .array cc' .int := by rw [heC]; exact hkindC
  have X₁ := X.noted hwarm₁
  obtain ⟨hr1, hr2⟩ := X.roomAbove hcells hslots
  have XF := ma_stand X₁ cA comp' n M n
  have hG5 : cA = G.2 5 := by
    have h2 : va_RA s (G.2 5) (.array .int) := (hK.1.2 5 _ rfl).2
    exact Option.some.inj (hnameA.symm.trans h2)
  have hG0 : comp' = G.2 0 := by
    have h2 : va_RA s (G.2 0) .int := (hK.1.2 0 _ rfl).2
    exact Option.some.inj (hcomp.symm.trans h2)
  obtain ⟨f1, f2, f3, f4⟩ := maT_sz (T.setVm vm₁) cA comp' n M n
  have hTs : (T.setVm vm₁).heap = T.heap := rfl
  have hw1 : ∃ w1 : Nat → va_E, w1 N = aR G 5 n (fun j => some (ad (N + 1 + j))) ∧ (∀ j, j < n → w1 (N + 1 + j) = aI G M (fun _ => 0)) ∧ (∀ j, ¬ (N ≤ j) → w1 j = w j) ∧ va_P G.1 vwCl (nL (N + (1 + n)) ad w1) (maT (T.setVm vm₁) cA comp' n M n).heap := by
    refine ⟨fun j => if j < N then w j else if j = N then aR G 5 n (fun j => some (ad (N + 1 + j))) else aI G M (fun _ => 0), ?_, fun j hj => ?_, fun j hj => ?_, ?_⟩
    · dsimp only
      rw [if_neg (by omega), if_pos rfl]
    · dsimp only
      rw [if_neg (by omega), if_neg (by omega)]
    · dsimp only
      rw [if_pos (by omega)]
    · intro k q hk
      rw [nL_at] at hk
      by_cases hkN : k < N + (1 + n)
      · rw [if_pos hkN] at hk
        cases hk
        by_cases h1 : k < N
        · rw [if_pos h1]
          have h2 := hP k _ (nL_get h1 rfl)
          have h3 : (maT (T.setVm vm₁) cA comp' n M n).heap[ad k]? = T.heap[ad k]? := maT_old (T.setVm vm₁) cA comp' n M h2.lt n
          exact h2.kept h3
        · rw [if_neg h1]
          subst hE
          by_cases h2 : k = N
          · rw [if_pos h2, h2]
            show (maT (T.setVm vm₁) cA comp' n M n).heap[ab + N]? = some (vp_cell _ _)
            have h3 : (maT (T.setVm vm₁) cA comp' n M n).heap[T.heap.size]? = some (maO cA n T.heap.size n) := f2
            rw [← hH, h3, vp_cell_q, ← hG5]
            refine congrArg some (arrV_c fun j hj => ?_)
            rw [if_pos hj]
            show Value.ref (T.heap.size + 1 + j) = Value.ref (ab + (N + 1 + j))
            have e9 : T.heap.size + 1 + j = ab + (N + 1 + j) := by omega
            rw [e9]
          · rw [if_neg h2]
            show (maT (T.setVm vm₁) cA comp' n M n).heap[ab + k]? = some (vp_cell _ _)
            have h3 : (maT (T.setVm vm₁) cA comp' n M n).heap[T.heap.size + 1 + (k - N - 1)]? = some (maI comp' M) := maT_row (T.setVm vm₁) cA comp' n M n (k - N - 1) (by omega)
            rw [show T.heap.size + 1 + (k - N - 1) = ab + k by omega] at h3
            rw [h3, vp_cell_i, ← hG0]
            rfl
      · rw [if_neg hkN] at hk
        cases hk
  obtain ⟨w1, g1, g2, g3, g4⟩ := hw1
  have hTn : T.heap.size = ad N := by rw [hH, hE]; rfl
  have hS1 : va_S (nF ab) s.heap (maT (T.setVm vm₁) cA comp' n M n).heap (locs ++ (List.range n).map fun j => ⟨T.heap.size, j⟩) := by
    refine ⟨?_, fun q h1 h2 => ?_, fun q hq => ?_⟩
    · have := hS.1
      rw [hTs] at f1
      omega
    · have h3 : (maT (T.setVm vm₁) cA comp' n M n).heap[q]? = T.heap[q]? := maT_old (T.setVm vm₁) cA comp' n M (Nat.lt_of_lt_of_le h1 hS.1) n
      rw [h3]
      exact hS.2.1 q h1 h2
    · rcases List.mem_append.mp hq with h | h
      · exact hS.2.2 q h
      · obtain ⟨j, -, rfl⟩ := List.mem_map.mp h
        show ab ≤ T.heap.size
        omega
  obtain ⟨t, a1, b1⟩ := kk w1 _ _ g1 g2 g3 g4 hS1 (maT (T.setVm vm₁) cA comp' n M n) rfl XF
  refine ⟨t, ?_, b1⟩
  have hl1 : ¬ n > e.platform.arrayLengthLimit := by rw [Launch.admits_arrayLengthLimit X.admits]; omega
  have hh1 : ¬ n * 4 > e.platform.maxHeapBytes := by rw [Launch.admits_maxHeapBytes X.admits]; omega
  have hl2 : ¬ M > e.platform.arrayLengthLimit := by rw [Launch.admits_arrayLengthLimit X.admits]; omega
  have hh2 : ¬ M * 4 > e.platform.maxHeapBytes := by rw [Launch.admits_maxHeapBytes X.admits]; omega
  generalize hg : (F0 m pc ls (.int (iI z2) :: .int (iI z) :: rest)) = g
  have hgm : g.method = m := by rw [← hg]
  have hgs : g.stack = .int (iI z2) :: .int (iI z) :: rest := by rw [← hg]
  have hdg : decode c.code g.pc = .ok (.multianewarray index 2, 4) := by rw [← hg]; exact hdg
  have hgl : F0 m (pc + 4) ls (.ref (ad N) :: rest) = { g with pc := g.pc + 4, stack := .ref T.heap.size :: rest } := by rw [← hg, hTn]
  rw [hgl] at a1
  subst hgm
  jvm_step X.here [hx, hdg]
  simp only [multianewarray.sem, wp_bind', W.resolveClassAt_links (State.method?_setTop g X.here.top) hg₁]
  rw [W.popN, if_neg (by decide)]
  refine ⟨g, State.topJava?_setTop' (s := T.setVm vm₁) g X.here.top, [.int (iI z), .int (iI z2)], rest, rfl, hgs, ?_⟩
  simp only [List.mapM_cons, List.mapM_nil, wp_bind', wp_pure']
  refine ma_grid (k := kA₁) (kc := kC₁) (comp := comp') (cc := cc') (Nn := n) (M := M) hkA₁ hkindA₁ hkC₁ hkindC₁ hn0 hm0 hcn hcm hl1 hh1 hl2 hh2 (by show T.heap.size + 1 + _ ≤ _; omega) (by show T.slotsUsed + _ + _ ≤ _; omega) (fun d' acts' => ?_)
  have eS : ((T.setTop g).setVm vm₁).setTop { g with stack := rest } = (T.setVm vm₁).setTop { g with stack := rest } := by
    show ((T.setVm vm₁).setTop g).setTop _ = _
    rw [State.setTop_setTop]
  rw [eS, maT_top]
  simp only [wp_bind', W.mark, W.pushRef, State.topJava?_setTop' _ XF.here.top, Option.some.injEq, exists_eq_left', State.setTop_setTop, State.heap_setTop]
  intro acts
  simp [jvm, XF.here.top]
  exact a1
end MB
