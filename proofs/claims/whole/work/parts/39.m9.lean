-- the reference: its constructor, and crash
abbrev cMn (ro : Nat → Option Nat) : va_E := .inr (7, [.int 0, .int 0, .int 0, .int 0, va_rf (ro 0), va_rf (ro 1), va_rf (ro 2), va_rf (ro 3), va_rf (ro 4), va_rf (ro 5), va_rf (ro 6), va_rf (ro 7), va_rf (ro 8), va_rf (ro 9), va_rf (ro 10), va_rf (ro 11), va_rf (ro 12), va_rf (ro 13), .int 0, va_rf (ro 14), va_rf (ro 15), va_rf (ro 16), va_rf (ro 17), va_rf (ro 18), .int 0, .int 0])
def rU (ro : Nat → Option Nat) (j q : Nat) : Nat → Option Nat := fun i => if i = j then some q else ro i
def NI (g : GG) (m : Nat) (h : Mp) (j : Nat) (ro : Nat → Option Nat) : Prop := h m = some (cMn ro) ∧ (∀ k, k < j → ∃ a, ro k = some a ∧ h a = some (cMa g k (fun _ => 0))) ∧ (∀ k, j ≤ k → ro k = none) ∧ (∀ i k a, ro i = some a → ro k = some a → i = k)
theorem NI_m {g : GG} {m : Nat} {h : Mp} {j q : Nat} {ro : Nat → Option Nat} {c : va_E} (n : NI g m h j ro) (hq : h q = none) : mUp h q c m = some (cMn ro) := by
  rw [mUp_n _ _ (fun e => by rw [← e, n.1] at hq; cases hq)]
  exact n.1
theorem NI_step {g : GG} {m : Nat} {h : Mp} {j q : Nat} {ro : Nat → Option Nat} (n : NI g m h j ro) (hq : h q = none) : NI g m (mUp (mUp h q (cMa g j (fun _ => 0))) m (cMn (rU ro j q))) (j + 1) (rU ro j q) := by
  obtain ⟨n1, n2, n3, n4⟩ := n
  have hqm : q ≠ m := fun e => by rw [e, n1] at hq; cases hq
  have hne : ∀ k a, ro k = some a → a ≠ q := fun k a e z => by
    by_cases hk : k < j
    · obtain ⟨b, e2, e3⟩ := n2 k hk
      rw [e] at e2
      cases e2
      rw [z, hq] at e3
      cases e3
    · rw [n3 k (by omega)] at e; cases e
  refine ⟨mUp_s _ _ _, fun k hk => ?_, fun k hk => by rw [rU, if_neg (by omega)]; exact n3 k (by omega), fun i k a hi hk => ?_⟩
  · by_cases e : k = j
    · subst e
      exact ⟨q, by rw [rU, if_pos rfl], by rw [mUp_n _ _ hqm, mUp_s]⟩
    · obtain ⟨a, e2, e3⟩ := n2 k (by omega)
      have ham : a ≠ m := fun z => by rw [z, n1] at e3; cases e3
      exact ⟨a, by rw [rU, if_neg e]; exact e2, by rw [mUp_n _ _ ham, mUp_n _ _ (hne k a e2)]; exact e3⟩
  · rw [rU] at hi hk
    by_cases ei : i = j
    · by_cases ek : k = j
      · rw [ei, ek]
      · rw [if_pos ei] at hi
        rw [if_neg ek] at hk
        cases hi
        exact absurd rfl (hne k q hk)
    · by_cases ek : k = j
      · rw [if_neg ei] at hi
        rw [if_pos ek] at hk
        cases hk
        exact absurd rfl (hne i q hi)
      · rw [if_neg ei] at hi
        rw [if_neg ek] at hk
        exact n4 i k a hi hk
theorem NI_end {g : GG} {m : Nat} {h : Mp} {ro : Nat → Option Nat} (n : NI g m h 19 ro) : MW g m (fun k => (ro k).getD 0) h (fun _ => 0) (fun _ _ => 0) := by
  obtain ⟨n1, n2, n3, n4⟩ := n
  have e : ∀ k, k < 19 → ro k = some ((ro k).getD 0) := fun k hk => by obtain ⟨a, e, _⟩ := n2 k hk; rw [e]; rfl
  refine ⟨?_, fun k hk => ?_, fun i k hi hk q => ?_⟩
  · rw [n1]
    unfold cMn cMo
    dsimp only
    rw [← e 0 (by decide), ← e 1 (by decide), ← e 2 (by decide), ← e 3 (by decide), ← e 4 (by decide), ← e 5 (by decide), ← e 6 (by decide), ← e 7 (by decide), ← e 8 (by decide), ← e 9 (by decide), ← e 10 (by decide), ← e 11 (by decide), ← e 12 (by decide), ← e 13 (by decide), ← e 14 (by decide), ← e 15 (by decide), ← e 16 (by decide), ← e 17 (by decide), ← e 18 (by decide)]
  · obtain ⟨a, e, e2⟩ := n2 k hk
    dsimp only
    rw [e]
    exact e2
  · dsimp only at q
    exact n4 i k _ (e i hi) (by rw [q]; exact e k hk)
section NR
variable {K : Cx} {g : GG} {N0 : Nat → Prop} {nL : Nat} {Q : State → Prop} {h : Mp} {cells slots pc : Nat} {lv : List (Option Value)} {st : List Value} {cc : ByteArray} {R0 : Room} {rt : Option FieldType} {ex : List ExceptionTableEntry} {m : Nat} {ro : Nat → Option Nat}
theorem ni_0 (X : Fx K g N0 cc nL "SnapshotStoreModel" R0 rt "<init>" ex) {x : Int32} (hx : x = nI 120) (n : NI g m h 0 ro) (hcells : cells + 1 ≤ R0.cells) (hslots : slots + 120 ≤ R0.slots) (d1 : decode cc pc = .ok (.newarray .boolean, 2)) (d2 : decode cc (pc + 2) = .ok (.putfield 7, 3)) (kk : ∀ h ro, NI g m h 1 ro → V K g N0 nL Q h (cells + 1) (slots + 120) (pc + 2 + 3) lv st) : V K g N0 nL Q h cells slots pc lv (.int x :: va_rf (some m) :: st) := V_newZ X k_634 hx (by decide) hcells hslots d1 (fun q hq => pf_M_7 X (NI_m n hq) d2 (kk _ _ (NI_step n hq)))
theorem ni_1 (X : Fx K g N0 cc nL "SnapshotStoreModel" R0 rt "<init>" ex) {x : Int32} (hx : x = nI 120) (n : NI g m h 1 ro) (hcells : cells + 1 ≤ R0.cells) (hslots : slots + 120 ≤ R0.slots) (d1 : decode cc pc = .ok (.newarray .int, 2)) (d2 : decode cc (pc + 2) = .ok (.putfield 13, 3)) (kk : ∀ h ro, NI g m h 2 ro → V K g N0 nL Q h (cells + 1) (slots + 120) (pc + 2 + 3) lv st) : V K g N0 nL Q h cells slots pc lv (.int x :: va_rf (some m) :: st) := V_newI X k_635 hx (by decide) hcells hslots d1 (fun q hq => pf_M_13 X (NI_m n hq) d2 (kk _ _ (NI_step n hq)))
theorem ni_2 (X : Fx K g N0 cc nL "SnapshotStoreModel" R0 rt "<init>" ex) {x : Int32} (hx : x = nI 120) (n : NI g m h 2 ro) (hcells : cells + 1 ≤ R0.cells) (hslots : slots + 120 ≤ R0.slots) (d1 : decode cc pc = .ok (.newarray .int, 2)) (d2 : decode cc (pc + 2) = .ok (.putfield 17, 3)) (kk : ∀ h ro, NI g m h 3 ro → V K g N0 nL Q h (cells + 1) (slots + 120) (pc + 2 + 3) lv st) : V K g N0 nL Q h cells slots pc lv (.int x :: va_rf (some m) :: st) := V_newI X k_635 hx (by decide) hcells hslots d1 (fun q hq => pf_M_17 X (NI_m n hq) d2 (kk _ _ (NI_step n hq)))
theorem ni_3 (X : Fx K g N0 cc nL "SnapshotStoreModel" R0 rt "<init>" ex) {x : Int32} (hx : x = nI 120) (n : NI g m h 3 ro) (hcells : cells + 1 ≤ R0.cells) (hslots : slots + 120 ≤ R0.slots) (d1 : decode cc pc = .ok (.newarray .int, 2)) (d2 : decode cc (pc + 2) = .ok (.putfield 20, 3)) (kk : ∀ h ro, NI g m h 4 ro → V K g N0 nL Q h (cells + 1) (slots + 120) (pc + 2 + 3) lv st) : V K g N0 nL Q h cells slots pc lv (.int x :: va_rf (some m) :: st) := V_newI X k_635 hx (by decide) hcells hslots d1 (fun q hq => pf_M_20 X (NI_m n hq) d2 (kk _ _ (NI_step n hq)))
theorem ni_4 (X : Fx K g N0 cc nL "SnapshotStoreModel" R0 rt "<init>" ex) {x : Int32} (hx : x = nI 120) (n : NI g m h 4 ro) (hcells : cells + 1 ≤ R0.cells) (hslots : slots + 120 ≤ R0.slots) (d1 : decode cc pc = .ok (.newarray .boolean, 2)) (d2 : decode cc (pc + 2) = .ok (.putfield 23, 3)) (kk : ∀ h ro, NI g m h 5 ro → V K g N0 nL Q h (cells + 1) (slots + 120) (pc + 2 + 3) lv st) : V K g N0 nL Q h cells slots pc lv (.int x :: va_rf (some m) :: st) := V_newZ X k_634 hx (by decide) hcells hslots d1 (fun q hq => pf_M_23 X (NI_m n hq) d2 (kk _ _ (NI_step n hq)))
theorem ni_5 (X : Fx K g N0 cc nL "SnapshotStoreModel" R0 rt "<init>" ex) {x : Int32} (hx : x = nI 120) (n : NI g m h 5 ro) (hcells : cells + 1 ≤ R0.cells) (hslots : slots + 120 ≤ R0.slots) (d1 : decode cc pc = .ok (.newarray .int, 2)) (d2 : decode cc (pc + 2) = .ok (.putfield 26, 3)) (kk : ∀ h ro, NI g m h 6 ro → V K g N0 nL Q h (cells + 1) (slots + 120) (pc + 2 + 3) lv st) : V K g N0 nL Q h cells slots pc lv (.int x :: va_rf (some m) :: st) := V_newI X k_635 hx (by decide) hcells hslots d1 (fun q hq => pf_M_26 X (NI_m n hq) d2 (kk _ _ (NI_step n hq)))
theorem ni_6 (X : Fx K g N0 cc nL "SnapshotStoreModel" R0 rt "<init>" ex) {x : Int32} (hx : x = nI 72000) (n : NI g m h 6 ro) (hcells : cells + 1 ≤ R0.cells) (hslots : slots + 72000 ≤ R0.slots) (d1 : decode cc pc = .ok (.newarray .int, 2)) (d2 : decode cc (pc + 2) = .ok (.putfield 30, 3)) (kk : ∀ h ro, NI g m h 7 ro → V K g N0 nL Q h (cells + 1) (slots + 72000) (pc + 2 + 3) lv st) : V K g N0 nL Q h cells slots pc lv (.int x :: va_rf (some m) :: st) := V_newI X k_635 hx (by decide) hcells hslots d1 (fun q hq => pf_M_30 X (NI_m n hq) d2 (kk _ _ (NI_step n hq)))
theorem ni_7 (X : Fx K g N0 cc nL "SnapshotStoreModel" R0 rt "<init>" ex) {x : Int32} (hx : x = nI 72000) (n : NI g m h 7 ro) (hcells : cells + 1 ≤ R0.cells) (hslots : slots + 72000 ≤ R0.slots) (d1 : decode cc pc = .ok (.newarray .int, 2)) (d2 : decode cc (pc + 2) = .ok (.putfield 33, 3)) (kk : ∀ h ro, NI g m h 8 ro → V K g N0 nL Q h (cells + 1) (slots + 72000) (pc + 2 + 3) lv st) : V K g N0 nL Q h cells slots pc lv (.int x :: va_rf (some m) :: st) := V_newI X k_635 hx (by decide) hcells hslots d1 (fun q hq => pf_M_33 X (NI_m n hq) d2 (kk _ _ (NI_step n hq)))
theorem ni_8 (X : Fx K g N0 cc nL "SnapshotStoreModel" R0 rt "<init>" ex) {x : Int32} (hx : x = nI 72000) (n : NI g m h 8 ro) (hcells : cells + 1 ≤ R0.cells) (hslots : slots + 72000 ≤ R0.slots) (d1 : decode cc pc = .ok (.newarray .boolean, 2)) (d2 : decode cc (pc + 2) = .ok (.putfield 36, 3)) (kk : ∀ h ro, NI g m h 9 ro → V K g N0 nL Q h (cells + 1) (slots + 72000) (pc + 2 + 3) lv st) : V K g N0 nL Q h cells slots pc lv (.int x :: va_rf (some m) :: st) := V_newZ X k_634 hx (by decide) hcells hslots d1 (fun q hq => pf_M_36 X (NI_m n hq) d2 (kk _ _ (NI_step n hq)))
theorem ni_9 (X : Fx K g N0 cc nL "SnapshotStoreModel" R0 rt "<init>" ex) {x : Int32} (hx : x = nI 120) (n : NI g m h 9 ro) (hcells : cells + 1 ≤ R0.cells) (hslots : slots + 120 ≤ R0.slots) (d1 : decode cc pc = .ok (.newarray .int, 2)) (d2 : decode cc (pc + 2) = .ok (.putfield 39, 3)) (kk : ∀ h ro, NI g m h 10 ro → V K g N0 nL Q h (cells + 1) (slots + 120) (pc + 2 + 3) lv st) : V K g N0 nL Q h cells slots pc lv (.int x :: va_rf (some m) :: st) := V_newI X k_635 hx (by decide) hcells hslots d1 (fun q hq => pf_M_39 X (NI_m n hq) d2 (kk _ _ (NI_step n hq)))
theorem ni_10 (X : Fx K g N0 cc nL "SnapshotStoreModel" R0 rt "<init>" ex) {x : Int32} (hx : x = nI 2400) (n : NI g m h 10 ro) (hcells : cells + 1 ≤ R0.cells) (hslots : slots + 2400 ≤ R0.slots) (d1 : decode cc pc = .ok (.newarray .int, 2)) (d2 : decode cc (pc + 2) = .ok (.putfield 42, 3)) (kk : ∀ h ro, NI g m h 11 ro → V K g N0 nL Q h (cells + 1) (slots + 2400) (pc + 2 + 3) lv st) : V K g N0 nL Q h cells slots pc lv (.int x :: va_rf (some m) :: st) := V_newI X k_635 hx (by decide) hcells hslots d1 (fun q hq => pf_M_42 X (NI_m n hq) d2 (kk _ _ (NI_step n hq)))
theorem ni_11 (X : Fx K g N0 cc nL "SnapshotStoreModel" R0 rt "<init>" ex) {x : Int32} (hx : x = nI 120) (n : NI g m h 11 ro) (hcells : cells + 1 ≤ R0.cells) (hslots : slots + 120 ≤ R0.slots) (d1 : decode cc pc = .ok (.newarray .int, 2)) (d2 : decode cc (pc + 2) = .ok (.putfield 45, 3)) (kk : ∀ h ro, NI g m h 12 ro → V K g N0 nL Q h (cells + 1) (slots + 120) (pc + 2 + 3) lv st) : V K g N0 nL Q h cells slots pc lv (.int x :: va_rf (some m) :: st) := V_newI X k_635 hx (by decide) hcells hslots d1 (fun q hq => pf_M_45 X (NI_m n hq) d2 (kk _ _ (NI_step n hq)))
theorem ni_12 (X : Fx K g N0 cc nL "SnapshotStoreModel" R0 rt "<init>" ex) {x : Int32} (hx : x = nI 72000) (n : NI g m h 12 ro) (hcells : cells + 1 ≤ R0.cells) (hslots : slots + 72000 ≤ R0.slots) (d1 : decode cc pc = .ok (.newarray .int, 2)) (d2 : decode cc (pc + 2) = .ok (.putfield 48, 3)) (kk : ∀ h ro, NI g m h 13 ro → V K g N0 nL Q h (cells + 1) (slots + 72000) (pc + 2 + 3) lv st) : V K g N0 nL Q h cells slots pc lv (.int x :: va_rf (some m) :: st) := V_newI X k_635 hx (by decide) hcells hslots d1 (fun q hq => pf_M_48 X (NI_m n hq) d2 (kk _ _ (NI_step n hq)))
theorem ni_13 (X : Fx K g N0 cc nL "SnapshotStoreModel" R0 rt "<init>" ex) {x : Int32} (hx : x = nI 72000) (n : NI g m h 13 ro) (hcells : cells + 1 ≤ R0.cells) (hslots : slots + 72000 ≤ R0.slots) (d1 : decode cc pc = .ok (.newarray .int, 2)) (d2 : decode cc (pc + 2) = .ok (.putfield 51, 3)) (kk : ∀ h ro, NI g m h 14 ro → V K g N0 nL Q h (cells + 1) (slots + 72000) (pc + 2 + 3) lv st) : V K g N0 nL Q h cells slots pc lv (.int x :: va_rf (some m) :: st) := V_newI X k_635 hx (by decide) hcells hslots d1 (fun q hq => pf_M_51 X (NI_m n hq) d2 (kk _ _ (NI_step n hq)))
theorem ni_14 (X : Fx K g N0 cc nL "SnapshotStoreModel" R0 rt "<init>" ex) {x : Int32} (hx : x = nI 3000) (n : NI g m h 14 ro) (hcells : cells + 1 ≤ R0.cells) (hslots : slots + 3000 ≤ R0.slots) (d1 : decode cc pc = .ok (.newarray .int, 2)) (d2 : decode cc (pc + 2) = .ok (.putfield 54, 3)) (kk : ∀ h ro, NI g m h 15 ro → V K g N0 nL Q h (cells + 1) (slots + 3000) (pc + 2 + 3) lv st) : V K g N0 nL Q h cells slots pc lv (.int x :: va_rf (some m) :: st) := V_newI X k_635 hx (by decide) hcells hslots d1 (fun q hq => pf_M_54 X (NI_m n hq) d2 (kk _ _ (NI_step n hq)))
theorem ni_15 (X : Fx K g N0 cc nL "SnapshotStoreModel" R0 rt "<init>" ex) {x : Int32} (hx : x = nI 3000) (n : NI g m h 15 ro) (hcells : cells + 1 ≤ R0.cells) (hslots : slots + 3000 ≤ R0.slots) (d1 : decode cc pc = .ok (.newarray .int, 2)) (d2 : decode cc (pc + 2) = .ok (.putfield 57, 3)) (kk : ∀ h ro, NI g m h 16 ro → V K g N0 nL Q h (cells + 1) (slots + 3000) (pc + 2 + 3) lv st) : V K g N0 nL Q h cells slots pc lv (.int x :: va_rf (some m) :: st) := V_newI X k_635 hx (by decide) hcells hslots d1 (fun q hq => pf_M_57 X (NI_m n hq) d2 (kk _ _ (NI_step n hq)))
theorem ni_16 (X : Fx K g N0 cc nL "SnapshotStoreModel" R0 rt "<init>" ex) {x : Int32} (hx : x = nI 3000) (n : NI g m h 16 ro) (hcells : cells + 1 ≤ R0.cells) (hslots : slots + 3000 ≤ R0.slots) (d1 : decode cc pc = .ok (.newarray .int, 2)) (d2 : decode cc (pc + 2) = .ok (.putfield 60, 3)) (kk : ∀ h ro, NI g m h 17 ro → V K g N0 nL Q h (cells + 1) (slots + 3000) (pc + 2 + 3) lv st) : V K g N0 nL Q h cells slots pc lv (.int x :: va_rf (some m) :: st) := V_newI X k_635 hx (by decide) hcells hslots d1 (fun q hq => pf_M_60 X (NI_m n hq) d2 (kk _ _ (NI_step n hq)))
theorem ni_17 (X : Fx K g N0 cc nL "SnapshotStoreModel" R0 rt "<init>" ex) {x : Int32} (hx : x = nI 3000) (n : NI g m h 17 ro) (hcells : cells + 1 ≤ R0.cells) (hslots : slots + 3000 ≤ R0.slots) (d1 : decode cc pc = .ok (.newarray .boolean, 2)) (d2 : decode cc (pc + 2) = .ok (.putfield 63, 3)) (kk : ∀ h ro, NI g m h 18 ro → V K g N0 nL Q h (cells + 1) (slots + 3000) (pc + 2 + 3) lv st) : V K g N0 nL Q h cells slots pc lv (.int x :: va_rf (some m) :: st) := V_newZ X k_634 hx (by decide) hcells hslots d1 (fun q hq => pf_M_63 X (NI_m n hq) d2 (kk _ _ (NI_step n hq)))
theorem ni_18 (X : Fx K g N0 cc nL "SnapshotStoreModel" R0 rt "<init>" ex) {x : Int32} (hx : x = nI 3000) (n : NI g m h 18 ro) (hcells : cells + 1 ≤ R0.cells) (hslots : slots + 3000 ≤ R0.slots) (d1 : decode cc pc = .ok (.newarray .boolean, 2)) (d2 : decode cc (pc + 2) = .ok (.putfield 66, 3)) (kk : ∀ h ro, NI g m h 19 ro → V K g N0 nL Q h (cells + 1) (slots + 3000) (pc + 2 + 3) lv st) : V K g N0 nL Q h cells slots pc lv (.int x :: va_rf (some m) :: st) := V_newZ X k_634 hx (by decide) hcells hslots d1 (fun q hq => pf_M_66 X (NI_m n hq) d2 (kk _ _ (NI_step n hq)))
end NR
theorem c_M_init (l : Launch) (g : GG) (N0 : Nat → Prop) (h : Mp) {m : Nat} (hm : h m = some (cMn (fun _ => none))) : Ci l y_M_init b_M_init 1 1 20 19 378360 g N0 h [va_rf (some m)] (fun h' => ∃ ad, MW g m ad h' (fun _ => 0) (fun _ _ => 0)) := by
  refine Ci_of "SnapshotStoreModel" [some (va_rf (some m))] (by decide) rfl rfl (by simp [lg_sl, rf_cat, cat_i, cat_l]) (by simp [toL, lv_args, rf_cat, cat_i, cat_l]) (fun K hl X => ?_)
  refine al_0 X d_M_init_0 ?_
  refine oi_M_1 X d_M_init_1 (by decide) (by first | decide | simp) ?_
  have n : NI g m h 0 (fun _ => none) := ⟨hm, fun k hk => absurd hk (Nat.not_lt_zero _), fun _ _ => rfl, fun i k a e => by cases e⟩
  refine al_0 X d_M_init_4 ?_
  refine V_bipush (v := 120) X d_M_init_5 (by decide) ?_
  refine ni_0 X rfl n (by first | omega | decide | (dsimp only; first | done | omega)) (by first | omega | decide | (dsimp only; first | done | omega)) d_M_init_7 d_M_init_9 (fun h ro n => ?_)
  refine al_0 X d_M_init_12 ?_
  refine V_bipush (v := 120) X d_M_init_13 (by decide) ?_
  refine ni_1 X rfl n (by first | omega | decide | (dsimp only; first | done | omega)) (by first | omega | decide | (dsimp only; first | done | omega)) d_M_init_15 d_M_init_17 (fun h ro n => ?_)
  refine al_0 X d_M_init_20 ?_
  refine V_bipush (v := 120) X d_M_init_21 (by decide) ?_
  refine ni_2 X rfl n (by first | omega | decide | (dsimp only; first | done | omega)) (by first | omega | decide | (dsimp only; first | done | omega)) d_M_init_23 d_M_init_25 (fun h ro n => ?_)
  refine al_0 X d_M_init_28 ?_
  refine V_bipush (v := 120) X d_M_init_29 (by decide) ?_
  refine ni_3 X rfl n (by first | omega | decide | (dsimp only; first | done | omega)) (by first | omega | decide | (dsimp only; first | done | omega)) d_M_init_31 d_M_init_33 (fun h ro n => ?_)
  refine al_0 X d_M_init_36 ?_
  refine V_bipush (v := 120) X d_M_init_37 (by decide) ?_
  refine ni_4 X rfl n (by first | omega | decide | (dsimp only; first | done | omega)) (by first | omega | decide | (dsimp only; first | done | omega)) d_M_init_39 d_M_init_41 (fun h ro n => ?_)
  refine al_0 X d_M_init_44 ?_
  refine V_bipush (v := 120) X d_M_init_45 (by decide) ?_
  refine ni_5 X rfl n (by first | omega | decide | (dsimp only; first | done | omega)) (by first | omega | decide | (dsimp only; first | done | omega)) d_M_init_47 d_M_init_49 (fun h ro n => ?_)
  refine al_0 X d_M_init_52 ?_
  refine V_ldc X k_554 d_M_init_53 ?_
  refine ni_6 X rfl n (by first | omega | decide | (dsimp only; first | done | omega)) (by first | omega | decide | (dsimp only; first | done | omega)) d_M_init_55 d_M_init_57 (fun h ro n => ?_)
  refine al_0 X d_M_init_60 ?_
  refine V_ldc X k_554 d_M_init_61 ?_
  refine ni_7 X rfl n (by first | omega | decide | (dsimp only; first | done | omega)) (by first | omega | decide | (dsimp only; first | done | omega)) d_M_init_63 d_M_init_65 (fun h ro n => ?_)
  refine al_0 X d_M_init_68 ?_
  refine V_ldc X k_554 d_M_init_69 ?_
  refine ni_8 X rfl n (by first | omega | decide | (dsimp only; first | done | omega)) (by first | omega | decide | (dsimp only; first | done | omega)) d_M_init_71 d_M_init_73 (fun h ro n => ?_)
  refine al_0 X d_M_init_76 ?_
  refine V_bipush (v := 120) X d_M_init_77 (by decide) ?_
  refine ni_9 X rfl n (by first | omega | decide | (dsimp only; first | done | omega)) (by first | omega | decide | (dsimp only; first | done | omega)) d_M_init_79 d_M_init_81 (fun h ro n => ?_)
  refine al_0 X d_M_init_84 ?_
  refine V_sipush (v := 2400) X d_M_init_85 (by decide) ?_
  refine ni_10 X rfl n (by first | omega | decide | (dsimp only; first | done | omega)) (by first | omega | decide | (dsimp only; first | done | omega)) d_M_init_88 d_M_init_90 (fun h ro n => ?_)
  refine al_0 X d_M_init_93 ?_
  refine V_bipush (v := 120) X d_M_init_94 (by decide) ?_
  refine ni_11 X rfl n (by first | omega | decide | (dsimp only; first | done | omega)) (by first | omega | decide | (dsimp only; first | done | omega)) d_M_init_96 d_M_init_98 (fun h ro n => ?_)
  refine al_0 X d_M_init_101 ?_
  refine V_ldc X k_554 d_M_init_102 ?_
  refine ni_12 X rfl n (by first | omega | decide | (dsimp only; first | done | omega)) (by first | omega | decide | (dsimp only; first | done | omega)) d_M_init_104 d_M_init_106 (fun h ro n => ?_)
  refine al_0 X d_M_init_109 ?_
  refine V_ldc X k_554 d_M_init_110 ?_
  refine ni_13 X rfl n (by first | omega | decide | (dsimp only; first | done | omega)) (by first | omega | decide | (dsimp only; first | done | omega)) d_M_init_112 d_M_init_114 (fun h ro n => ?_)
  refine al_0 X d_M_init_117 ?_
  refine V_sipush (v := 3000) X d_M_init_118 (by decide) ?_
  refine ni_14 X rfl n (by first | omega | decide | (dsimp only; first | done | omega)) (by first | omega | decide | (dsimp only; first | done | omega)) d_M_init_121 d_M_init_123 (fun h ro n => ?_)
  refine al_0 X d_M_init_126 ?_
  refine V_sipush (v := 3000) X d_M_init_127 (by decide) ?_
  refine ni_15 X rfl n (by first | omega | decide | (dsimp only; first | done | omega)) (by first | omega | decide | (dsimp only; first | done | omega)) d_M_init_130 d_M_init_132 (fun h ro n => ?_)
  refine al_0 X d_M_init_135 ?_
  refine V_sipush (v := 3000) X d_M_init_136 (by decide) ?_
  refine ni_16 X rfl n (by first | omega | decide | (dsimp only; first | done | omega)) (by first | omega | decide | (dsimp only; first | done | omega)) d_M_init_139 d_M_init_141 (fun h ro n => ?_)
  refine al_0 X d_M_init_144 ?_
  refine V_sipush (v := 3000) X d_M_init_145 (by decide) ?_
  refine ni_17 X rfl n (by first | omega | decide | (dsimp only; first | done | omega)) (by first | omega | decide | (dsimp only; first | done | omega)) d_M_init_148 d_M_init_150 (fun h ro n => ?_)
  refine al_0 X d_M_init_153 ?_
  refine V_sipush (v := 3000) X d_M_init_154 (by decide) ?_
  refine ni_18 X rfl n (by first | omega | decide | (dsimp only; first | done | omega)) (by first | omega | decide | (dsimp only; first | done | omega)) d_M_init_157 d_M_init_159 (fun h ro n => ?_)
  refine V_vretI X rfl d_M_init_162 (by first | omega | decide | (dsimp only; first | done | omega)) (by first | omega | decide | (dsimp only; first | done | omega)) ?_
  exact ⟨_, NI_end n⟩
-- crash
def crS (ar : MA) (sf : Int32) (i : Nat) : Int32 := if ar 3 i = 0 then 2 else if later ar i sf then 3 else ar 3 i
def crI (ar ar1 : MA) (sf : Int32) (v : Nat) : Prop := (∀ k, k ≠ 3 → k ≠ 9 → ar1 k = ar k) ∧ (∀ i, ar1 3 i = if i < v then crS ar sf i else ar 3 i) ∧ (∀ i, ar1 9 i = if i < v ∧ ar 3 i = 0 then 0 else ar 9 i)
theorem crI_end {ar ar1 : MA} {sf : Int32} {v : Nat} (c : crI ar ar1 sf v) (h0 : ar 3 v = 0) : crI ar (mEnd ar1 v 2) sf (v + 1) := by
  obtain ⟨c1, c2, c3⟩ := c
  refine ⟨fun k h3 h9 => by rw [mEnd, aU_n _ _ h9, aU_n _ _ h3]; exact c1 k h3 h9, fun i => ?_, fun i => ?_⟩
  · rw [mEnd, aU_n _ _ (by decide), aU_s]
    by_cases e : i = v
    · subst e
      rw [pk_us, if_pos (by omega), crS, if_pos h0]
    · rw [pk_un e, c2]
      by_cases e2 : i < v
      · rw [if_pos e2, if_pos (by omega)]
      · rw [if_neg e2, if_neg (by omega)]
  · rw [mEnd, aU_s]
    by_cases e : i = v
    · subst e
      rw [pk_us, if_pos ⟨by omega, h0⟩]
    · rw [pk_un e, c3]
      by_cases e2 : i < v
      · by_cases e3 : ar 3 i = 0
        · rw [if_pos ⟨e2, e3⟩, if_pos ⟨by omega, e3⟩]
        · rw [if_neg (fun z => e3 z.2), if_neg (fun z => e3 z.2)]
      · rw [if_neg (fun z => e2 z.1), if_neg (fun z => by omega)]
theorem crI_lost {ar ar1 : MA} {sf : Int32} {v : Nat} (c : crI ar ar1 sf v) (h0 : ¬ ar 3 v = 0) (hl : later ar v sf = true) : crI ar (aU ar1 3 (upd (ar1 3) v 3)) sf (v + 1) := by
  obtain ⟨c1, c2, c3⟩ := c
  refine ⟨fun k h3 h9 => by rw [aU_n _ _ h3]; exact c1 k h3 h9, fun i => ?_, fun i => ?_⟩
  · rw [aU_s]
    by_cases e : i = v
    · subst e
      rw [pk_us, if_pos (by omega), crS, if_neg h0, if_pos hl]
    · rw [pk_un e, c2]
      by_cases e2 : i < v
      · rw [if_pos e2, if_pos (by omega)]
      · rw [if_neg e2, if_neg (by omega)]
  · rw [aU_n _ _ (by decide), c3]
    by_cases e : i = v
    · subst e
      rw [if_neg (fun z => h0 z.2), if_neg (fun z => h0 z.2)]
    · by_cases e2 : i < v
      · by_cases e3 : ar 3 i = 0
        · rw [if_pos ⟨e2, e3⟩, if_pos ⟨by omega, e3⟩]
        · rw [if_neg (fun z => e3 z.2), if_neg (fun z => e3 z.2)]
      · rw [if_neg (fun z => e2 z.1), if_neg (fun z => by omega)]
theorem crI_skip {ar ar1 : MA} {sf : Int32} {v : Nat} (c : crI ar ar1 sf v) (h0 : ¬ ar 3 v = 0) (hl : later ar v sf = false) : crI ar ar1 sf (v + 1) := by
  obtain ⟨c1, c2, c3⟩ := c
  refine ⟨c1, fun i => ?_, fun i => ?_⟩
  · rw [c2]
    by_cases e : i = v
    · subst e
      rw [if_neg (by omega), if_pos (by omega), crS, if_neg h0, if_neg (by rw [hl]; decide)]
    · by_cases e2 : i < v
      · rw [if_pos e2, if_pos (by omega)]
      · rw [if_neg e2, if_neg (by omega)]
  · rw [c3]
    by_cases e : i = v
    · subst e
      rw [if_neg (fun z => h0 z.2), if_neg (fun z => h0 z.2)]
    · by_cases e2 : i < v
      · by_cases e3 : ar 3 i = 0
        · rw [if_pos ⟨e2, e3⟩, if_pos ⟨by omega, e3⟩]
        · rw [if_neg (fun z => e3 z.2), if_neg (fun z => e3 z.2)]
      · rw [if_neg (fun z => e2 z.1), if_neg (fun z => by omega)]
theorem w_M_crash1 {K : Cx} {g : GG} {N0 : Nat → Prop} {Q : State → Prop} {h : Mp} {mc ms : Nat} (X : Fx K g N0 b_M_crash 4 "SnapshotStoreModel" { frames := 3, cells := mc, slots := ms, locals := 69 } (some .int) "crash" []) {m : Nat} {ad : Nat → Nat} {iv : MI} {ar : MA} {n : Nat} {wc : Nat → Nat} (hn : iv 3 = nI n) (hn2 : n ≤ 120) (hw : ∀ t, t < n → ar 5 t = nI (wc t) ∧ wc t < 600) : ∀ (k t : Nat) (ar1 : MA) (h : Mp) (z : Option Value), t + k = n → crI ar ar1 (iv 2) t → MW g m ad h iv ar1 → (∀ h ar1 z, crI ar ar1 (iv 2) n → MW g m ad h iv ar1 → V K g N0 4 Q  h 0 0 64 [some (va_rf (some m)), some (.int (nI (cntN (fun i => later ar i (iv 2)) n))), some (.int (nI n)), z] []) → V K g N0 4 Q  h 0 0 9 [some (va_rf (some m)), some (.int (nI (cntN (fun i => later ar i (iv 2)) t))), some (.int (nI t)), z] [] := by
  intro k
  induction k with
  | zero =>
    intro t ar1 h z ht c w hp
    have ht : t = n := by omega
    subst ht
    refine il_2 X d_M_crash_9 ?_
    refine al_0 X d_M_crash_10 ?_
    refine gm_73 X w d_M_crash_11 ?_
    rw [hn]
    refine V_icmp_ge (tgt := 64) X d_M_crash_14 (by decide) (fun c_14 => ?_) (fun c_14 => ?_)
    · exact hp h ar1 z c w
    · exact absurd (Int32.le_refl _) c_14
  | succ k ih =>
    intro t ar1 h z ht c w hp
    have cc := c
    obtain ⟨c1, c2, c3⟩ := cc
    have e3 : ar1 3 t = ar 3 t := by rw [c2, if_neg (by omega)]
    have el : later ar1 t (iv 2) = later ar t (iv 2) := by rw [later, later, e3, c1 2 (by decide) (by decide)]
    refine il_2 X d_M_crash_9 ?_
    refine al_0 X d_M_crash_10 ?_
    refine gm_73 X w d_M_crash_11 ?_
    rw [hn]
    refine V_icmp_ge (tgt := 64) X d_M_crash_14 (by decide) (fun c_14 => ?_) (fun c_14 => ?_)
    · exact absurd c_14 (nI_ge (by omega) (by omega))
    · refine al_0 X d_M_crash_17 ?_
      refine gm_20 X w d_M_crash_18 ?_
      refine il_2 X d_M_crash_21 ?_
      refine am_i X w (k := 3) (by decide) rfl (show _ < 120 by omega) (by decide) d_M_crash_22 ?_
      rw [e3]
      refine V_if_ne (tgt := 36) X d_M_crash_23 (by decide) (fun c_23 => ?_) (fun c_23 => ?_)
      · refine al_0 X d_M_crash_36 ?_
        refine il_2 X d_M_crash_37 ?_
        refine al_0 X d_M_crash_38 ?_
        refine gm_145 X w d_M_crash_39 ?_
        refine cl_M_129 X (c_M_isLater _ g N0 h (iv 2) (by omega) w) w.1 d_M_crash_42 (by refine ⟨?_, ?_⟩ <;> first | decide | (dsimp only; first | done | omega)) (by first | decide | (simp only [List.map, rf_cat, cat_i, cat_l, List.sum_cons, List.sum_nil]; first | done | decide | omega)) ⟨(by first | omega | decide | (dsimp only; first | done | omega)), (by first | omega | decide | (dsimp only; first | done | omega))⟩ (fun _ _ z => z.elim) ?_
        rintro r h ⟨rfl, rfl⟩
        rw [el]
        refine V_if_eq (tgt := 58) X d_M_crash_45 (by decide) (fun c_45 => ?_) (fun c_45 => ?_)
        · have e := b01_f c_45
          have ec : cntN (fun i => later ar i (iv 2)) (t + 1) = cntN (fun i => later ar i (iv 2)) t := by rw [cntN, e]; rfl
          refine ic_2 (v := (nI (t+1))) X d_M_crash_58 (nI_1 t) rfl (by first | exact okp_n | exact okp_i | exact okp_r) ?_
          refine V_goto (tgt := 9) X d_M_crash_61 (by decide) ?_
          have f := ih (t + 1) ar1 h z (by omega) (crI_skip c c_23 e) w hp
          rw [ec] at f
          exact f
        · have e := b01_t c_45
          have ec : cntN (fun i => later ar i (iv 2)) (t + 1) = cntN (fun i => later ar i (iv 2)) t + 1 := by rw [cntN, e]; rfl
          have e55 : nI (cntN (fun i => later ar i (iv 2)) t) + Int32.ofInt 1 = nI (cntN (fun i => later ar i (iv 2)) t + 1) := nI_1 _
          refine al_0 X d_M_crash_48 ?_
          refine gm_20 X w d_M_crash_49 ?_
          refine il_2 X d_M_crash_52 ?_
          refine V_iconst (v := 3) X d_M_crash_53 (by decide) ?_
          refine sm_i X w (k := 3) (by decide) rfl (show _ < 120 by omega) (by decide) d_M_crash_54 (fun h w => ?_)
          refine ic_1 (v := _) X d_M_crash_55 e55 rfl (by first | exact okp_n | exact okp_i | exact okp_r) ?_
          refine ic_2 (v := (nI (t+1))) X d_M_crash_58 (nI_1 t) rfl (by first | exact okp_n | exact okp_i | exact okp_r) ?_
          refine V_goto (tgt := 9) X d_M_crash_61 (by decide) ?_
          have f := ih (t + 1) _ h z (by omega) (crI_lost c c_23 e) w hp
          rw [ec] at f
          exact f
      · obtain ⟨w1, w2⟩ := hw t (by omega)
        have e : later ar t (iv 2) = false := by rw [later, c_23]; rfl
        have ec : cntN (fun i => later ar i (iv 2)) (t + 1) = cntN (fun i => later ar i (iv 2)) t := by rw [cntN, e]; rfl
        refine al_0 X d_M_crash_26 ?_
        refine il_2 X d_M_crash_27 ?_
        refine V_iconst (v := 2) X d_M_crash_28 (by decide) ?_
        refine cl_M_142 X (c_M_end _ g N0 h 2 (by omega) (by rw [c1 5 (by decide) (by decide)]; exact w1) w2 w) w.1 d_M_crash_29 (by refine ⟨?_, ?_⟩ <;> first | decide | (dsimp only; first | done | omega)) (by first | decide | (simp only [List.map, rf_cat, cat_i, cat_l, List.sum_cons, List.sum_nil]; first | done | decide | omega)) ⟨(by first | omega | decide | (dsimp only; first | done | omega)), (by first | omega | decide | (dsimp only; first | done | omega))⟩ (fun _ _ z => z.elim) ?_
        rintro r h ⟨rfl, w⟩
        refine is_3 X d_M_crash_32 rfl (by first | exact okp_n | exact okp_i | exact okp_r) ?_
        refine V_goto (tgt := 58) X d_M_crash_33 (by decide) ?_
        refine ic_2 (v := (nI (t+1))) X d_M_crash_58 (nI_1 t) rfl (by first | exact okp_n | exact okp_i | exact okp_r) ?_
        refine V_goto (tgt := 9) X d_M_crash_61 (by decide) ?_
        have f := ih (t + 1) _ h (some (.int (nI (kOf ar1 t (wc t))))) (by omega) (crI_end c c_23) w hp
        rw [ec] at f
        exact f
theorem w_M_crash2 {K : Cx} {g : GG} {N0 : Nat → Prop} {Q : State → Prop} {h : Mp} {mc ms : Nat} (X : Fx K g N0 b_M_crash 4 "SnapshotStoreModel" { frames := 3, cells := mc, slots := ms, locals := 69 } (some .int) "crash" []) {m : Nat} {ad : Nat → Nat} {iv : MI} {ar : MA} {nv : Nat} {lo : Int32} (hv : iv 4 = nI nv) (hv2 : nv ≤ 3000) : ∀ (k v : Nat) (ar1 : MA) (h : Mp) (z : Option Value), v + k = nv → agr ar ar1 → pfx ar1 (fun v => !decide (ar 15 v ≤ iv 2)) v → MW g m ad h iv ar1 → (∀ h ar1 z, agr ar ar1 → pfx ar1 (fun v => !decide (ar 15 v ≤ iv 2)) nv → MW g m ad h iv ar1 → V K g N0 4 Q  h 0 0 112 [some (va_rf (some m)), some (.int lo), some (.int (nI nv)), z] []) → V K g N0 4 Q  h 0 0 74 [some (va_rf (some m)), some (.int lo), some (.int (nI v)), z] [] := by
  intro k
  induction k with
  | zero =>
    intro v ar1 h z hk a p w hp
    have hk : v = nv := by omega
    subst hk
    refine il_2 X d_M_crash_74 ?_
    refine al_0 X d_M_crash_75 ?_
    refine gm_80 X w d_M_crash_76 ?_
    rw [hv]
    refine V_icmp_ge (tgt := 112) X d_M_crash_79 (by decide) (fun c_79 => ?_) (fun c_79 => ?_)
    · exact hp h ar1 z a p w
    · exact absurd (Int32.le_refl _) c_79
  | succ k ih =>
    intro v ar1 h z hk a p w hp
    have fin : ∀ h, MW g m ad h iv (aU ar1 18 (upd (ar1 18) v (b01 (!decide (ar 15 v ≤ iv 2))))) → V K g N0 4 Q h 0 0 106 [some (va_rf (some m)), some (.int lo), some (.int (nI v)), z] [] := by
      intro h w
      refine ic_2 (v := (nI (v+1))) X d_M_crash_106 (nI_1 v) rfl (by first | exact okp_n | exact okp_i | exact okp_r) ?_
      refine V_goto (tgt := 74) X d_M_crash_109 (by decide) ?_
      exact ih (v + 1) _ h z (by omega) (agr_s a _) (pfx_s (p := fun v => !decide (ar 15 v ≤ iv 2)) p) w hp
    refine il_2 X d_M_crash_74 ?_
    refine al_0 X d_M_crash_75 ?_
    refine gm_80 X w d_M_crash_76 ?_
    rw [hv]
    refine V_icmp_ge (tgt := 112) X d_M_crash_79 (by decide) (fun c_79 => ?_) (fun c_79 => ?_)
    · exact absurd c_79 (nI_ge (by omega) (by omega))
    · refine al_0 X d_M_crash_82 ?_
      refine gm_66 X w d_M_crash_83 ?_
      refine il_2 X d_M_crash_86 ?_
      refine al_0 X d_M_crash_87 ?_
      refine gm_57 X w d_M_crash_88 ?_
      refine il_2 X d_M_crash_91 ?_
      refine am_i X w (k := 15) (by decide) rfl (show _ < 3000 by omega) (by decide) d_M_crash_92 ?_
      refine al_0 X d_M_crash_93 ?_
      refine gm_145 X w d_M_crash_94 ?_
      rw [a 15 (by decide)]
      refine V_icmp_le (tgt := 104) X d_M_crash_97 (by decide) (fun c_97 => ?_) (fun c_97 => ?_)
      · refine V_iconst (v := 0) X d_M_crash_104 (by decide) ?_
        refine sm_z X (by first | exact Or.inl rfl | exact Or.inr rfl | exact b01_or _) w (k := 18) (by decide) rfl (show _ < 3000 by omega) (by decide) d_M_crash_105 (fun h w => ?_)
        exact fin _ (by rw [decide_eq_true c_97]; exact w)
      · refine V_iconst (v := 1) X d_M_crash_100 (by decide) ?_
        refine V_goto (tgt := 105) X d_M_crash_101 (by decide) ?_
        refine sm_z X (by first | exact Or.inl rfl | exact Or.inr rfl | exact b01_or _) w (k := 18) (by decide) rfl (show _ < 3000 by omega) (by decide) d_M_crash_105 (fun h w => ?_)
        exact fin _ (by rw [decide_eq_false c_97]; exact w)
theorem c_M_crash (l : Launch) (g : GG) (N0 : Nat → Prop) (h : Mp) {m : Nat} {ad : Nat → Nat} {iv : MI} {ar : MA} {n nv : Nat} {wc rc pc : Nat → Nat} (b : MB iv ar n nv wc rc pc) (h17 : ∀ v, v < nv → ar 17 v = 0 ∨ ar 17 v = 1) (w : MW g m ad h iv ar) : Ct l y_M_crash b_M_crash 4 (some .int) 3 69 0 0 g N0 h [va_rf (some m)] (pI (fun r h' => r = nI (cntN (fun i => later ar i (iv 2)) n) ∧ ∃ ar1 ar2 j iv', crI ar ar1 (iv 2) n ∧ cls ar1 ar2 (fun v => decide (ar 15 v ≤ iv 2)) nv j ∧ MW g m ad h' iv' ar2 ∧ iv' 0 = 0 ∧ iv' 1 = iv 2 ∧ iv' 2 = iv 2 ∧ iv' 3 = iv 3 ∧ iv' 4 = nI j)) nox := by
  refine Ct_of "SnapshotStoreModel" "crash" [some (va_rf (some m)), none, none, none] (by decide) rfl rfl (by simp [lg_sl, rf_cat, cat_i, cat_l]) (by simp [toL, lv_args, rf_cat, cat_i, cat_l]) (fun K hl X => ?_)
  obtain ⟨b1, b2, b3, b4, b5, b6⟩ := b
  have i2 : iU iv 0 0 2 = iv 2 := iU_n _ _ (by decide)
  refine al_0 X d_M_crash_0 ?_
  refine V_iconst (v := 0) X d_M_crash_1 (by decide) ?_
  refine pm_69 X w d_M_crash_2 (fun h w => ?_)
  refine V_iconst (v := 0) X d_M_crash_5 (by decide) ?_
  refine is_1 X d_M_crash_6 rfl (by first | exact okp_n | exact okp_i | exact okp_r) ?_
  refine V_iconst (v := 0) X d_M_crash_7 (by decide) ?_
  refine is_2 X d_M_crash_8 rfl (by first | exact okp_n | exact okp_i | exact okp_r) ?_
  refine w_M_crash1 (h := h) X (iv := iU iv 0 0) (ar := ar) (wc := wc) (by rw [iU_n _ _ (by decide)]; exact b1) b2 (fun t ht => (b6 t ht).1) n 0 ar h _ (by omega) ⟨fun _ _ _ => rfl, fun i => by rw [if_neg (by omega)], fun i => by rw [if_neg (by omega)]⟩ w (fun h ar1 z c w => ?_)
  rw [i2] at c ⊢
  refine al_0 X d_M_crash_64 ?_
  refine al_0 X d_M_crash_65 ?_
  refine gm_145 X w d_M_crash_66 ?_
  rw [i2]
  refine pm_106 X w d_M_crash_69 (fun h w => ?_)
  refine V_iconst (v := 0) X d_M_crash_72 (by decide) ?_
  refine is_2 X d_M_crash_73 rfl (by first | exact okp_n | exact okp_i | exact okp_r) ?_
  refine w_M_crash2 (h := h) X (iv := iU (iU iv 0 0) 1 (iv 2)) (ar := ar1) (nv := nv) (by rw [iU_n _ _ (by decide), iU_n _ _ (by decide)]; exact b3) b4 nv 0 ar1 h _ (by omega) (fun _ _ => rfl) (fun j hj => absurd hj (Nat.not_lt_zero _)) w (fun h ar2 z a p w => ?_)
  refine al_0 X d_M_crash_112 ?_
  refine cl_M_151 X (c_M_close _ g N0 h (n := nv) (by rw [iU_n _ _ (by decide), iU_n _ _ (by decide)]; exact b3) b4 (fun v hv => by rw [a 17 (by decide), c.1 17 (by decide) (by decide)]; exact h17 v hv) w) w.1 d_M_crash_113 (by refine ⟨?_, ?_⟩ <;> first | decide | (dsimp only; first | done | omega)) (by first | decide | (simp only [List.map, rf_cat, cat_i, cat_l, List.sum_cons, List.sum_nil]; first | done | decide | omega)) ⟨(by first | omega | decide | (dsimp only; first | done | omega)), (by first | omega | decide | (dsimp only; first | done | omega))⟩ (fun _ _ z => z.elim) ?_
  rintro r h ⟨ar3, j, c2, rfl, w⟩
  have cc := cls_of a p c2
  have ei : iU (iU iv 0 0) 1 (iv 2) 2 = iv 2 := by simp (decide := true) only [iU_n]
  rw [ei, c.1 15 (by decide) (by decide)] at cc
  refine is_2 X d_M_crash_116 rfl (by first | exact okp_n | exact okp_i | exact okp_r) ?_
  refine il_1 X d_M_crash_117 ?_
  refine V_iret X rfl d_M_crash_118 (by first | omega | decide | (dsimp only; first | done | omega)) (by first | omega | decide | (dsimp only; first | done | omega)) ?_
  refine ⟨_, rfl, rfl, ar1, ar3, j, _, c, cc, w, ?_, ?_, ?_, ?_, ?_⟩ <;> simp (decide := true) only [iU_n, iU_s]
