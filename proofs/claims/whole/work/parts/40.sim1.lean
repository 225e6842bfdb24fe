-- the two worlds side by side: contents, writes, ranges, places
def ctn (v e : Int32) : Int64 := if e = 0 then v.toInt64 else 4294967296
theorem ctn_no (v e : Int32) : (ctn v e = 4294967296) ↔ ¬ e = 0 := by
  unfold ctn
  by_cases h : e = 0
  · rw [if_pos h]; exact ⟨fun z => absurd z.symm (no_key v), fun z => absurd h z⟩
  · rw [if_neg h]; exact ⟨fun _ => h, fun _ => rfl⟩
theorem voz_ctn (v e : Int32) : voz (ctn v e) = if e = 0 then v else 0 := by
  unfold voz
  by_cases h : e = 0
  · rw [if_neg (fun z => (ctn_no v e).mp z h), if_pos h, ctn, if_pos h, lg_l2i_i2l]
  · rw [if_pos ((ctn_no v e).mpr h), if_neg h]
def wRel (ar : MA) (i : Nat) (P : Int32 → Prop) : LW → Prop
  | [] => True
  | (_, n, ct, kk) :: t => n = ar 6 (600 * i + t.length) ∧ ct = ctn (ar 7 (600 * i + t.length)) (ar 8 (600 * i + t.length)) ∧ kk = nI (kOf ar i (t.length + 1)) ∧ P n ∧ wRel ar i P t
def rRel (ar : MA) (i : Nat) : LR → Prop
  | [] => True
  | (_, lo, hi) :: t => lo = ar 12 (600 * i + t.length) ∧ hi = ar 13 (600 * i + t.length) ∧ rRel ar i t
def pRel (ar : MA) (i : Nat) (P : Int32 → Prop) : Nat → CP → Prop
  | _, [] => True
  | b, (_, n, wl) :: t => n = nI t.length ∧ ar 10 (20 * i + t.length) = nI wl.length ∧ wl.length ≤ b ∧ wRel ar i P wl ∧ pRel ar i P wl.length t
-- the writes of a transaction
theorem lix_congr {p q : Nat → Bool} : ∀ {n : Nat}, (∀ i, i < n → p i = q i) → lix p n = lix q n
  | 0, _ => rfl
  | n + 1, h => by rw [lix, lix, h n (by omega), lix_congr (fun i hi => h i (by omega))]
theorem cntN_congr {p q : Nat → Bool} : ∀ {n : Nat}, (∀ i, i < n → p i = q i) → cntN p n = cntN q n
  | 0, _ => rfl
  | n + 1, h => by rw [cntN, cntN, h n (by omega), cntN_congr (fun i hi => h i (by omega))]
theorem anyN_congr {p q : Nat → Bool} : ∀ {n : Nat}, (∀ i, i < n → p i = q i) → anyN p n = anyN q n
  | 0, _ => rfl
  | n + 1, h => by rw [anyN, anyN, h n (by omega), anyN_congr (fun i hi => h i (by omega))]
theorem anyN_iff {p : Nat → Bool} : ∀ {n : Nat}, anyN p n = true ↔ ∃ i, i < n ∧ p i = true
  | 0 => ⟨fun z => (by cases z), fun ⟨i, hi, _⟩ => absurd hi (Nat.not_lt_zero _)⟩
  | n + 1 => by
    rw [anyN, Bool.or_eq_true, anyN_iff]
    constructor
    · rintro (⟨i, hi, h⟩ | h)
      · exact ⟨i, by omega, h⟩
      · exact ⟨n, by omega, h⟩
    · rintro ⟨i, hi, h⟩
      by_cases e : i = n
      · subst e; exact Or.inr h
      · exact Or.inl ⟨i, by omega, h⟩
theorem lix_some {p : Nat → Bool} : ∀ {n i : Nat}, lix p n = some i ↔ i < n ∧ p i = true ∧ ∀ j, i < j → j < n → p j = false
  | 0, i => ⟨fun z => (by cases z), fun z => absurd z.1 (Nat.not_lt_zero _)⟩
  | n + 1, i => by
    rw [lix]
    by_cases h : p n = true
    · rw [if_pos h]
      constructor
      · intro z; cases z
        exact ⟨by omega, h, fun j h1 h2 => by omega⟩
      · rintro ⟨h1, h2, h3⟩
        by_cases e : i = n
        · rw [e]
        · have := h3 n (by omega) (by omega)
          rw [h] at this; cases this
    · rw [if_neg h, lix_some]
      constructor
      · rintro ⟨h1, h2, h3⟩
        refine ⟨by omega, h2, fun j h4 h5 => ?_⟩
        by_cases e : j = n
        · subst e; exact Bool.eq_false_iff.mpr h
        · exact h3 j h4 (by omega)
      · rintro ⟨h1, h2, h3⟩
        have : i ≠ n := fun e => by rw [e] at h2; exact h h2
        exact ⟨by omega, h2, fun j h4 h5 => h3 j h4 (by omega)⟩
theorem lix_none {p : Nat → Bool} : ∀ {n : Nat}, lix p n = none ↔ ∀ j, j < n → p j = false
  | 0 => ⟨fun _ j hj => absurd hj (Nat.not_lt_zero _), fun _ => rfl⟩
  | n + 1 => by
    rw [lix]
    by_cases h : p n = true
    · rw [if_pos h]
      exact ⟨fun z => (by cases z), fun z => by rw [z n (by omega)] at h; cases h⟩
    · rw [if_neg h, lix_none]
      constructor
      · intro z j hj
        by_cases e : j = n
        · subst e; exact Bool.eq_false_iff.mpr h
        · exact z j (by omega)
      · intro z j hj; exact z j (by omega)
theorem cntN_not {p q : Nat → Bool} : ∀ {n : Nat}, cntN p n = cntN (fun i => p i && q i) n + cntN (fun i => p i && !q i) n
  | 0 => rfl
  | n + 1 => by
    rw [cntN, cntN, cntN, cntN_not (p := p) (q := q)]
    cases p n <;> cases q n <;> simp <;> omega
theorem cntN_one {p : Nat → Bool} : ∀ {n j : Nat}, j < n → p j = true → (∀ i, i < n → p i = true → i = j) → cntN p n = 1
  | 0, j, h, _, _ => absurd h (Nat.not_lt_zero _)
  | n + 1, j, h, h1, h2 => by
    rw [cntN]
    by_cases e : j = n
    · subst e
      rw [if_pos h1, cntN_congr (q := fun _ => false) (fun i hi => by cases hp : p i with | false => rfl | true => have := h2 i (by omega) hp; omega)]
      have : ∀ m, cntN (fun _ => false) m = 0 := fun m => by induction m with | zero => rfl | succ m ih => rw [cntN, ih]; rfl
      rw [this]
    · have hn : ¬ p n = true := fun z => e (h2 n (by omega) z).symm
      rw [if_neg hn, cntN_one (j := j) (by omega) h1 (fun i hi => h2 i (by omega))]
theorem cntN_zero {p : Nat → Bool} : ∀ {n : Nat}, (∀ i, i < n → p i = false) → cntN p n = 0
  | 0, _ => rfl
  | n + 1, h => by rw [cntN, h n (by omega), cntN_zero (fun i hi => h i (by omega))]; rfl
theorem wOf_s (ar : MA) (t c : Nat) (n : Int32) : wOf ar t (c + 1) n = if ar 6 (600 * t + c) = n then some c else wOf ar t c n := by
  rw [wOf, lix, wOf, pW1]
  by_cases e : ar 6 (600 * t + c) = n
  · rw [if_pos (decide_eq_true e), if_pos e]
  · rw [if_neg (fun z => e (of_decide_eq_true z)), if_neg e]
theorem kOf_s (ar : MA) (t c : Nat) : kOf ar t (c + 1) = if wOf ar t c (ar 6 (600 * t + c)) = none then kOf ar t c + 1 else kOf ar t c := by
  have hk : ∀ k, k < c → pK1 ar t (c + 1) k = (pK1 ar t c k && !decide (ar 6 (600 * t + k) = ar 6 (600 * t + c))) := fun k hk => by
    rw [pK1, wOf_s]
    by_cases e : ar 6 (600 * t + c) = ar 6 (600 * t + k)
    · rw [if_pos e, decide_eq_true e.symm, decide_eq_false (fun z => by cases z; omega)]
      simp
    · rw [if_neg e, show decide (ar 6 (600 * t + k) = ar 6 (600 * t + c)) = false from decide_eq_false (fun z => e z.symm), pK1, Bool.not_false, Bool.and_true]
  have hc : pK1 ar t (c + 1) c = true := by
    rw [pK1, wOf_s, if_pos rfl]
    exact decide_eq_true rfl
  have h1 : kOf ar t (c + 1) = cntN (fun k => pK1 ar t c k && !decide (ar 6 (600 * t + k) = ar 6 (600 * t + c))) c + 1 := by
    rw [kOf, cntN, hc, cntN_congr hk]; rfl
  have h2 : kOf ar t c = cntN (fun k => pK1 ar t c k && decide (ar 6 (600 * t + k) = ar 6 (600 * t + c))) c + cntN (fun k => pK1 ar t c k && !decide (ar 6 (600 * t + k) = ar 6 (600 * t + c))) c := cntN_not
  cases hw : wOf ar t c (ar 6 (600 * t + c)) with
  | none =>
    rw [if_pos rfl, h1, h2, cntN_zero (p := fun k => pK1 ar t c k && decide (ar 6 (600 * t + k) = ar 6 (600 * t + c)))]
    · omega
    · intro i hi
      have := lix_none.mp hw i hi
      rw [pW1] at this
      rw [this, Bool.and_false]
  | some j =>
    obtain ⟨j1, j2, j3⟩ := lix_some.mp hw
    have j2' : ar 6 (600 * t + j) = ar 6 (600 * t + c) := of_decide_eq_true j2
    rw [if_neg (by intro z; cases z), h1, h2, cntN_one (p := fun k => pK1 ar t c k && decide (ar 6 (600 * t + k) = ar 6 (600 * t + c))) (j := j) j1]
    · omega
    · rw [pK1, j2', hw]
      simp
    · intro i hi hp
      simp only [Bool.and_eq_true, decide_eq_true_eq, pK1] at hp
      rw [hp.2, hw] at hp
      have := hp.1
      cases this
      rfl
theorem wRel_mono {ar : MA} {i : Nat} {P Q : Int32 → Prop} (h : ∀ n, P n → Q n) : ∀ {ws : LW}, wRel ar i P ws → wRel ar i Q ws
  | [], _ => trivial
  | (_, _, _, _) :: _, ⟨a, b, c, d, e⟩ => ⟨a, b, c, h _ d, wRel_mono h e⟩
theorem pRel_mono {ar : MA} {i : Nat} {P Q : Int32 → Prop} (h : ∀ n, P n → Q n) : ∀ {b : Nat} {ps : CP}, pRel ar i P b ps → pRel ar i Q b ps
  | _, [], _ => trivial
  | _, (_, _, _) :: _, ⟨a, b, c, d, e⟩ => ⟨a, b, c, wRel_mono h d, pRel_mono h e⟩
theorem wOf_congr {ar ar' : MA} {t c : Nat} (h6 : ∀ k, k < c → ar' 6 (600 * t + k) = ar 6 (600 * t + k)) (n : Int32) : wOf ar' t c n = wOf ar t c n := lix_congr (fun k hk => by rw [pW1, pW1, h6 k hk])
theorem kOf_congr {ar ar' : MA} {t c : Nat} (h6 : ∀ k, k < c → ar' 6 (600 * t + k) = ar 6 (600 * t + k)) : kOf ar' t c = kOf ar t c := cntN_congr (fun k hk => by unfold pK1; rw [h6 k hk, wOf_congr h6])
theorem wRel_congr {ar ar' : MA} {i : Nat} {P : Int32 → Prop} : ∀ {ws : LW}, (∀ k, k < ws.length → ar' 6 (600 * i + k) = ar 6 (600 * i + k) ∧ ar' 7 (600 * i + k) = ar 7 (600 * i + k) ∧ ar' 8 (600 * i + k) = ar 8 (600 * i + k)) → wRel ar i P ws → wRel ar' i P ws
  | [], _, _ => trivial
  | (_, _, _, _) :: t, h, ⟨a, b, c, d, e⟩ => by
    obtain ⟨h6, h7, h8⟩ := h t.length (by simp)
    refine ⟨by rw [h6]; exact a, by rw [h7, h8]; exact b, ?_, d, wRel_congr (fun k hk => h k (by simp; omega)) e⟩
    rw [kOf_congr (fun k hk => (h k (by simpa using hk)).1)]
    exact c
theorem rRel_congr {ar ar' : MA} {i : Nat} : ∀ {rs : LR}, (∀ k, k < rs.length → ar' 12 (600 * i + k) = ar 12 (600 * i + k) ∧ ar' 13 (600 * i + k) = ar 13 (600 * i + k)) → rRel ar i rs → rRel ar' i rs
  | [], _, _ => trivial
  | (_, _, _) :: t, h, ⟨a, b, c⟩ => by
    obtain ⟨h6, h7⟩ := h t.length (by simp)
    exact ⟨by rw [h6]; exact a, by rw [h7]; exact b, rRel_congr (fun k hk => h k (by simp; omega)) c⟩
theorem pRel_congr {ar ar' : MA} {i : Nat} {P : Int32 → Prop} : ∀ {b : Nat} {ps : CP}, (∀ k, k < b → ar' 6 (600 * i + k) = ar 6 (600 * i + k) ∧ ar' 7 (600 * i + k) = ar 7 (600 * i + k) ∧ ar' 8 (600 * i + k) = ar 8 (600 * i + k)) → (∀ k, k < ps.length → ar' 10 (20 * i + k) = ar 10 (20 * i + k)) → pRel ar i P b ps → pRel ar' i P b ps
  | _, [], _, _, _ => trivial
  | b, (_, _, wl) :: t, h, hp, ⟨a1, a2, a3, a4, a5⟩ => ⟨a1, by rw [hp t.length (by simp)]; exact a2, a3, wRel_congr (fun k hk => h k (by omega)) a4, pRel_congr (fun k hk => h k (by omega)) (fun k hk => hp k (by simp; omega)) a5⟩
theorem pRel_b {ar : MA} {i : Nat} {P : Int32 → Prop} {b b' : Nat} (h : b ≤ b') : ∀ {ps : CP}, pRel ar i P b ps → pRel ar i P b' ps
  | [], _ => trivial
  | (_, _, _) :: _, ⟨a1, a2, a3, a4, a5⟩ => ⟨a1, a2, Nat.le_trans a3 h, a4, a5⟩
/-- the latest write of a key: class and reference -/
theorem wdrop_lix {ar : MA} {i : Nat} {P : Int32 → Prop} (n : Int32) : ∀ {ws : LW}, wRel ar i P ws → wcont (wdrop n ws) = (wOf ar i ws.length n).map (fun k => ctn (ar 7 (600 * i + k)) (ar 8 (600 * i + k)))
  | [], _ => rfl
  | (a, m, ct, kk) :: t, ⟨h1, h2, h3, h4, h5⟩ => by
    have ih := wdrop_lix n h5
    rw [wdrop, List.dropWhile_cons, List.length_cons, wOf, lix]
    by_cases e : m = n
    · rw [if_neg (by simp [e]), if_pos (by rw [pW1, ← h1]; simp [e])]
      rw [h2]
      rfl
    · rw [if_pos (by simp [e]), if_neg (by rw [pW1, ← h1]; simp [e])]
      exact ih
theorem wdrop_nil {ar : MA} {i : Nat} {P : Int32 → Prop} {n : Int32} {ws : LW} (h : wRel ar i P ws) : (wdrop n ws).isEmpty = true ↔ wOf ar i ws.length n = none := by
  have e := wdrop_lix n h
  cases hd : wdrop n ws with
  | nil =>
    rw [hd] at e
    cases hw : wOf ar i ws.length n with
    | none => simp
    | some k => rw [hw] at e; cases e
  | cons x t =>
    obtain ⟨a, m, ct, kk⟩ := x
    rw [hd] at e
    cases hw : wOf ar i ws.length n with
    | none => rw [hw] at e; cases e
    | some k => simp
theorem wkeys_rel {ar : MA} {i : Nat} {P : Int32 → Prop} : ∀ {ws : LW}, wRel ar i P ws → wkeys ws = nI (kOf ar i ws.length)
  | [], _ => rfl
  | (_, _, _, _) :: _, h => h.2.2.1
theorem ws_any {ar : MA} {i : Nat} {P : Int32 → Prop} {p : Nat × Int32 × Int64 × Int32 → Bool} {q : Int32 → Bool} (hp : ∀ w, p w = q w.2.1) : ∀ {ws : LW}, wRel ar i P ws → ws.any p = anyN (fun k => q (ar 6 (600 * i + k))) ws.length
  | [], _ => rfl
  | (a, m, ct, kk) :: t, ⟨h1, h2, h3, h4, h5⟩ => by
    rw [List.any_cons, List.length_cons, anyN, ws_any hp h5, hp, ← h1, Bool.or_comm]
theorem rs_any {ar : MA} {i : Nat} {n : Int32} : ∀ {rs : LR}, rRel ar i rs → rread rs n = rdM ar i rs.length n
  | [], _ => rfl
  | (a, lo, hi) :: t, ⟨h1, h2, h3⟩ => by
    have ih := rs_any (n := n) h3
    rw [rread] at ih ⊢
    rw [List.any_cons, List.length_cons, rdM, anyN, ih, Bool.or_comm, rdM]
    congr 1
    simp only [rhit, pRd, ← h1, ← h2]
theorem rany_rel {ar : MA} {i j : Nat} {P : Int32 → Prop} {rs : LR} {ws : LW} (hr : rRel ar i rs) (hw : wRel ar j P ws) : rany rs ws = hrM ar i rs.length j ws.length := by
  rw [rany, hrM]
  exact ws_any (q := fun n => rdM ar i rs.length n) (fun w => rs_any hr) hw
theorem wRel_known {ar : MA} {i : Nat} {P : Int32 → Prop} {n : Int32} : ∀ {ws : LW}, wRel ar i P ws → wOf ar i ws.length n ≠ none → P n
  | [], _, h => absurd rfl h
  | (a, m, ct, kk) :: t, ⟨h1, h2, h3, h4, h5⟩, h => by
    rw [List.length_cons, wOf, lix] at h
    by_cases e : m = n
    · rw [← e]; exact h4
    · rw [if_neg (by rw [pW1, ← h1]; simp [e])] at h
      exact wRel_known h5 h
