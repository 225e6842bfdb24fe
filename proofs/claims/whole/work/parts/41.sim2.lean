-- versions side by side
def known (kl : LK) (n : Int32) : Prop := ∃ k, k ∈ kl ∧ k.2.1 = n
def rproj (r : RW) : Int32 × Int64 := (r.2.1, ctn r.2.2.1 r.2.2.2)
def VSim (kl : LK) (rl : List RW) : Prop := (∀ k, k ∈ kl → k.2.2.map (·.2) = ((rl.filter (fun r => decide (r.1 = k.2.1))).map rproj).reverse) ∧ ∀ r, r ∈ rl → known kl r.1
theorem find_lix (ar : MA) (key st : Int32) : ∀ n, (vlist ar n).reverse.find? (fun r => decide (r.1 = key) && decide (r.2.1 ≤ st)) = (vAt ar n key st).map (vrow ar)
  | 0 => rfl
  | n + 1 => by
    rw [vlist_s, List.reverse_append, List.reverse_cons, List.reverse_nil, List.nil_append, List.singleton_append, List.find?_cons, find_lix ar key st n, show vAt ar (n + 1) key st = (if pV1 ar key st n = true then some n else vAt ar n key st) from rfl]
    cases h : pV1 ar key st n with
    | true =>
      have : (decide ((vrow ar n).1 = key) && decide ((vrow ar n).2.1 ≤ st)) = true := h
      rw [this]; rfl
    | false =>
      have : (decide ((vrow ar n).1 = key) && decide ((vrow ar n).2.1 ≤ st)) = false := h
      rw [this]; rfl
theorem vs_find {kl : LK} {ar : MA} {nv : Nat} (v : VSim kl (vlist ar nv)) {k : Nat × Int32 × LV} (hk : k ∈ kl) (st : Int32) : (k.2.2.map (·.2)).find? (fun x => decide (x.1 ≤ st)) = (vAt ar nv k.2.1 st).map (fun i => rproj (vrow ar i)) := by
  rw [v.1 k hk, ← List.map_reverse, ← List.filter_reverse, List.find?_map, List.find?_filter]
  have := find_lix ar k.2.1 st nv
  rw [show (fun a : RW => decide (decide (a.1 = k.2.1) = true ∧ ((fun x : Int32 × Int64 => decide (x.1 ≤ st)) ∘ rproj) a = true)) = (fun r : RW => decide (r.1 = k.2.1) && decide (r.2.1 ≤ st)) from (by funext a; simp only [Bool.decide_and, Bool.decide_eq_true]; rfl), this, Option.map_map]
  rfl
theorem vcont_find (st : Int32) : ∀ vs : LV, vcont (vdrop st vs) = match (vs.map (·.2)).find? (fun x => decide (x.1 ≤ st)) with | none => 4294967296 | some x => x.2
  | [] => rfl
  | (a, s, c) :: t => by
    have ih := vcont_find st t
    rw [vdrop, List.dropWhile_cons, List.map_cons, List.find?_cons]
    cases h : decide (s ≤ st) with
    | true => rfl
    | false => exact ih
def contV (ar : MA) (o : Option Nat) : Int64 := match o with
  | none => 4294967296
  | some v => ctn (ar 16 v) (ar 17 v)
theorem valV_cont (ar : MA) (o : Option Nat) : valV ar o = voz (contV ar o) := by
  cases o with
  | none => rfl
  | some v => exact (voz_ctn _ _).symm
theorem seenV_cont (ar : MA) (o : Option Nat) : seenV ar o = !decide (contV ar o = 4294967296) := by
  cases o with
  | none => rfl
  | some v =>
    show decide (ar 17 v = 0) = !decide (ctn (ar 16 v) (ar 17 v) = 4294967296)
    by_cases e : ar 17 v = 0
    · rw [decide_eq_true e, decide_eq_false (fun z => (ctn_no _ _).mp z e)]; rfl
    · rw [decide_eq_false e, decide_eq_true ((ctn_no _ _).mpr e)]; rfl
theorem vs_cont {kl : LK} {ar : MA} {nv : Nat} (v : VSim kl (vlist ar nv)) {k : Nat × Int32 × LV} (hk : k ∈ kl) (st : Int32) : vcont (vdrop st k.2.2) = contV ar (vAt ar nv k.2.1 st) := by
  rw [vcont_find, vs_find v hk]
  cases vAt ar nv k.2.1 st with
  | none => rfl
  | some i => rfl
theorem kfind_some {kl : LK} {n : Int32} {k : Nat × Int32 × LV} (h : kfind n kl = some k) : k ∈ kl ∧ k.2.1 = n := by
  unfold kfind at h
  have h2 := List.find?_some h
  exact ⟨List.mem_of_find?_eq_some h, of_decide_eq_true h2⟩
theorem kfind_none {kl : LK} {n : Int32} (h : kfind n kl = none) : ¬ known kl n := fun ⟨k, hk, e⟩ => by
  have := List.find?_eq_none.mp h k hk
  exact this (decide_eq_true e)
theorem vlist_mem {ar : MA} {n : Nat} {r : RW} : r ∈ vlist ar n ↔ ∃ v, v < n ∧ vrow ar v = r := by
  rw [vlist, List.mem_map]
  exact ⟨fun ⟨v, a, b⟩ => ⟨v, List.mem_range.mp a, b⟩, fun ⟨v, a, b⟩ => ⟨v, List.mem_range.mpr a, b⟩⟩
theorem vAt_known {kl : LK} {ar : MA} {nv : Nat} (v : VSim kl (vlist ar nv)) {n st : Int32} (h : ¬ known kl n) : vAt ar nv n st = none := by
  refine lix_none.mpr (fun j hj => ?_)
  rw [pV1, decide_eq_false (fun e => h (by rw [← e]; exact v.2 (vrow ar j) (vlist_mem.mpr ⟨j, hj, rfl⟩)))]
  rfl
theorem at_cont {kl : LK} {ar : MA} {nv : Nat} (v : VSim kl (vlist ar nv)) (key st : Int32) : atC kl key st = valV ar (vAt ar nv key st) := by
  rw [valV_cont, atC]
  cases h : kfind key kl with
  | none => rw [vAt_known v (kfind_none h)]; rfl
  | some k =>
    obtain ⟨a, m, vs⟩ := k
    obtain ⟨h1, h2⟩ := kfind_some h
    have := vs_cont v h1 st
    dsimp only at this h2 ⊢
    rw [this, h2]
-- what a transaction sees
def contM (ar : MA) (n t c : Nat) (key : Int32) : Int64 := match wOf ar t c key with
  | none => contV ar (vAt ar n key (ar 1 t))
  | some k => ctn (ar 7 (600 * t + k)) (ar 8 (600 * t + k))
theorem valM_cont (ar : MA) (n t c : Nat) (key : Int32) : valM ar n t c key = voz (contM ar n t c key) := by
  rw [valM, contM]
  cases wOf ar t c key with
  | none => exact valV_cont _ _
  | some k => exact (voz_ctn _ _).symm
theorem seenM_cont (ar : MA) (n t c : Nat) (key : Int32) : seenM ar n t c key = !decide (contM ar n t c key = 4294967296) := by
  rw [seenM, contM]
  cases wOf ar t c key with
  | none => exact seenV_cont _ _
  | some k =>
    dsimp only
    by_cases e : ar 8 (600 * t + k) = 0
    · rw [decide_eq_true e, decide_eq_false (fun z => (ctn_no _ _).mp z e)]; rfl
    · rw [decide_eq_false e, decide_eq_true ((ctn_no _ _).mpr e)]; rfl
theorem seenC_cont {kl : LK} {ar : MA} {nv i : Nat} (v : VSim kl (vlist ar nv)) {ws : LW} {P : Int32 → Prop} (hw : wRel ar i P ws) {k : Nat × Int32 × LV} (hk : k ∈ kl) : seenC (ar 1 i) ws k.2.1 k.2.2 = contM ar nv i ws.length k.2.1 := by
  rw [seenC, wdrop_lix k.2.1 hw, contM]
  cases wOf ar i ws.length k.2.1 with
  | none => exact vs_cont v hk _
  | some j => rfl
theorem contM_known {kl : LK} {ar : MA} {nv i : Nat} (v : VSim kl (vlist ar nv)) {ws : LW} (hw : wRel ar i (known kl) ws) {n : Int32} (h : ¬ known kl n) : contM ar nv i ws.length n = 4294967296 := by
  rw [contM]
  cases h1 : wOf ar i ws.length n with
  | none => dsimp only; rw [vAt_known v h]; rfl
  | some j => exact absurd (wRel_known hw (by rw [h1]; intro z; cases z)) h
-- counts
theorem any_vl (ar : MA) (p : RW → Bool) : ∀ n, (vlist ar n).any p = anyN (fun v => p (vrow ar v)) n
  | 0 => rfl
  | n + 1 => by rw [vlist_s, List.any_append, any_vl ar p n, anyN]; simp
theorem len_vl (ar : MA) (p : RW → Bool) : ∀ n, ((vlist ar n).filter p).length = cntN (fun v => p (vrow ar v)) n
  | 0 => rfl
  | n + 1 => by
    rw [vlist_s, List.filter_append, List.length_append, len_vl ar p n, cntN]
    cases h : p (vrow ar n) <;> simp [h]
theorem vs_len {kl : LK} {ar : MA} {nv : Nat} (v : VSim kl (vlist ar nv)) {k : Nat × Int32 × LV} (hk : k ∈ kl) : k.2.2.length = cntN (pKy ar k.2.1) nv := by
  have := congrArg List.length (v.1 k hk)
  rw [List.length_map, List.length_reverse, List.length_map, len_vl] at this
  exact this
theorem ver_rel {kl : LK} {ar : MA} {nv : Nat} (v : VSim kl (vlist ar nv)) (key : Int32) : verC kl key = cntN (pKy ar key) nv := by
  rw [verC]
  cases h : kfind key kl with
  | none =>
    refine (cntN_zero (fun j hj => ?_)).symm
    exact decide_eq_false (fun e => kfind_none h (by rw [← e]; exact v.2 (vrow ar j) (vlist_mem.mpr ⟨j, hj, rfl⟩)))
  | some k =>
    obtain ⟨a, m, vs⟩ := k
    obtain ⟨h1, h2⟩ := kfind_some h
    have := vs_len v h1
    dsimp only at this h2 ⊢
    rw [this, h2]
def psum (f : Int32 → Nat) : LK → Nat
  | [] => 0
  | (_, m, _) :: t => f m + psum f t
theorem psum_congr {f f' : Int32 → Nat} : ∀ {kl : LK}, (∀ k, k ∈ kl → f k.2.1 = f' k.2.1) → psum f kl = psum f' kl
  | [], _ => rfl
  | (a, m, vs) :: t, h => by rw [psum, psum, h (a, m, vs) (List.mem_cons_self ..), psum_congr (fun k hk => h k (List.mem_cons_of_mem _ hk))]
theorem psum_one {f : Int32 → Nat} {x : Int32} : ∀ {kl : LK}, ksorted kl → known kl x → psum (fun m => f m + if x = m then 1 else 0) kl = psum f kl + 1
  | [], _, ⟨k, hk, _⟩ => by cases hk
  | (a, m, vs) :: t, ⟨h1, h2⟩, ⟨k, hk, e⟩ => by
    rw [psum, psum]
    by_cases ex : x = m
    · rw [if_pos ex, psum_congr (f' := f) (kl := t) (fun k hk => by
        have := h1 k hk
        rw [if_neg (fun z => by rw [ex] at z; rw [← z] at this; exact Int32.lt_irrefl this)]; rfl)]
      omega
    · rw [if_neg ex, psum_one h2 ⟨k, (List.mem_cons.mp hk).resolve_left (fun z => ex (by rw [← e, z])), e⟩]
      omega
theorem part {kl : LK} (ho : ksorted kl) {key : Nat → Int32} {p : Nat → Bool} : ∀ {n : Nat}, (∀ v, v < n → known kl (key v)) → cntN p n = psum (fun m => cntN (fun v => p v && decide (key v = m)) n) kl
  | 0, _ => by
    have : ∀ kl : LK, psum (fun _ => 0) kl = 0 := fun kl => by induction kl with | nil => rfl | cons x t ih => obtain ⟨a, m, vs⟩ := x; rw [psum, ih]
    exact (this kl).symm
  | n + 1, h => by
    rw [cntN, part ho (key := key) (p := p) (fun v hv => h v (by omega))]
    cases hp : p n with
    | false =>
      refine (Nat.add_zero _).trans (psum_congr (fun k _ => ?_))
      rw [cntN, hp]; rfl
    | true =>
      rw [if_pos rfl, ← psum_one (f := fun m => cntN (fun v => p v && decide (key v = m)) n) ho (h n (by omega))]
      refine psum_congr (fun k _ => ?_)
      rw [cntN, hp, Bool.true_and]
      by_cases e : key n = k.2.1
      · rw [if_pos e, if_pos (decide_eq_true e)]
      · rw [if_neg e, if_neg (fun z => e (of_decide_eq_true z))]
theorem vtotal_psum {f : Int32 → Nat} : ∀ {kl : LK}, (∀ k, k ∈ kl → k.2.2.length = f k.2.1) → vtotal kl = psum f kl
  | [], _ => rfl
  | (a, m, vs) :: t, h => by
    have := h (a, m, vs) (List.mem_cons_self ..)
    rw [vtotal, psum, vtotal_psum (fun k hk => h k (List.mem_cons_of_mem _ hk)), ← this]
theorem countP_psum {p : Nat × Int32 × LV → Bool} {f : Int32 → Nat} : ∀ {kl : LK}, (∀ k, k ∈ kl → f k.2.1 = if p k then 1 else 0) → kl.countP p = psum f kl
  | [], _ => rfl
  | (a, m, vs) :: t, h => by
    have := h (a, m, vs) (List.mem_cons_self ..)
    dsimp only at this
    rw [List.countP_cons, psum, countP_psum (fun k hk => h k (List.mem_cons_of_mem _ hk)), this, Nat.add_comm]
theorem cntN_all : ∀ n, cntN (fun _ => true) n = n
  | 0 => rfl
  | n + 1 => by rw [cntN, cntN_all n]; rfl
theorem VSim.kn {kl : LK} {ar : MA} {nv : Nat} (v : VSim kl (vlist ar nv)) : ∀ i, i < nv → known kl (ar 14 i) := fun i hi => v.2 (vrow ar i) (vlist_mem.mpr ⟨i, hi, rfl⟩)
theorem total_rel {kl : LK} {ar : MA} {nv : Nat} (ho : ksorted kl) (v : VSim kl (vlist ar nv)) : vtotal kl = nv := by
  rw [vtotal_psum (f := fun m => cntN (fun i => true && decide (ar 14 i = m)) nv) (fun k hk => ?_), ← part (p := fun _ => true) ho v.kn, cntN_all]
  rw [vs_len v hk]
  rfl
-- the newest version; the stamps rise
theorem vord_pw {c : Int32} : ∀ {vs : LV}, vord c vs → (vs.map (·.2)).Pairwise (fun a b => b.1 < a.1) ∧ ∀ v, v ∈ vs → v.2.1 ≤ c
  | [], _ => ⟨List.Pairwise.nil, fun v hv => by cases hv⟩
  | (a, s, ct) :: t, ⟨h1, h2, h3⟩ => by
    obtain ⟨ih1, ih2⟩ := vord_pw h3
    have hall : ∀ v, v ∈ t → v.2.1 < s := by
      intro v hv
      cases t with
      | nil => cases hv
      | cons x t =>
        have hx := h2 x rfl
        rcases List.mem_cons.mp hv with e | e
        · rw [e]; exact hx
        · rw [List.map_cons] at ih1
          exact Int32.lt_trans ((List.pairwise_cons.mp ih1).1 v.2 (List.mem_map.mpr ⟨v, e, rfl⟩)) hx
    refine ⟨?_, fun v hv => ?_⟩
    · rw [List.map_cons]
      refine List.pairwise_cons.mpr ⟨fun b hb => ?_, ih1⟩
      obtain ⟨v, hv, rfl⟩ := List.mem_map.mp hb
      exact hall v hv
    · rcases List.mem_cons.mp hv with e | e
      · rw [e]; exact h1
      · exact ih2 v e
theorem vl_pw {kl : LK} {ar : MA} {nv : Nat} {c : Int32} (v : VSim kl (vlist ar nv)) {k : Nat × Int32 × LV} (hk : k ∈ kl) (ho : vord c k.2.2) : ((vlist ar nv).filter (fun r => decide (r.1 = k.2.1))).Pairwise (fun a b => a.2.1 < b.2.1) := by
  have h := (vord_pw ho).1
  rw [v.1 k hk, List.pairwise_reverse, List.pairwise_map] at h
  exact h
theorem vrise_of {kl : LK} {ar : MA} {nv : Nat} {c : Int32} (v : VSim kl (vlist ar nv)) (ho : ∀ k ∈ kl, vord c k.2.2) : vrise ar nv := by
  intro i j hij hj he
  obtain ⟨k, hk, e⟩ := v.kn i (by omega)
  have h := vl_pw v hk (ho k hk)
  rw [List.pairwise_filter, vlist, List.pairwise_map, List.pairwise_iff_getElem] at h
  have := h i j (by rw [List.length_range]; omega) (by rw [List.length_range]; omega) hij
  rw [List.getElem_range, List.getElem_range] at this
  exact this (decide_eq_true e.symm) (decide_eq_true (by rw [e]; exact he.symm))
theorem con_rel {kl : LK} {ar : MA} {nv i : Nat} {c : Int32} (v : VSim kl (vlist ar nv)) (ho : ∀ k ∈ kl, vord c k.2.2) (w : Nat × Int32 × Int64 × Int32) : pCon kl (ar 1 i) w = anyN (pCf ar i w.2.1) nv := by
  rw [show anyN (pCf ar i w.2.1) nv = (vlist ar nv).any (fun r => decide (r.1 = w.2.1) && decide (ar 1 i < r.2.1)) from (any_vl ar (fun r => decide (r.1 = w.2.1) && decide (ar 1 i < r.2.1)) nv).symm, pCon]
  cases h : kfind w.2.1 kl with
  | none =>
    symm
    rw [List.any_eq_false]
    intro r hr z
    rw [Bool.and_eq_true] at z
    exact kfind_none h (by rw [← of_decide_eq_true z.1]; exact v.2 r hr)
  | some k =>
    obtain ⟨a, m, vs⟩ := k
    obtain ⟨h1, h2⟩ := kfind_some h
    dsimp only at h2
    subst h2
    have hv := v.1 _ h1
    dsimp only at hv
    have hany : (vlist ar nv).any (fun r => decide (r.1 = w.2.1) && decide (ar 1 i < r.2.1)) = (vs.map (·.2)).any (fun x => decide (ar 1 i < x.1)) := by
      rw [hv, List.any_reverse, List.any_map, List.any_filter]
      rfl
    rw [hany]
    have hp := (vord_pw (ho _ h1)).1
    cases vs with
    | nil => rfl
    | cons x t =>
      obtain ⟨b, s, ct⟩ := x
      dsimp only at hp ⊢
      rw [List.map_cons] at hp ⊢
      rw [List.any_cons]
      cases hs : decide (ar 1 i < s) with
      | true => rfl
      | false =>
        rw [Bool.false_or]
        symm
        rw [List.any_eq_false]
        intro y hy z
        have h3 := (List.pairwise_cons.mp hp).1 y hy
        exact absurd (Int32.lt_trans (of_decide_eq_true z) h3) (of_decide_eq_false hs)
-- the counts of keys
theorem pCk_iff {ar : MA} {nv u : Nat} {ck m : Int32} : (pCk ar ck nv u && decide (ar 14 u = m)) = true ↔ vAt ar nv m ck = some u := by
  rw [Bool.and_eq_true, pCk, decide_eq_true_eq, decide_eq_true_eq]
  constructor
  · rintro ⟨a, b⟩; rw [← b]; exact a
  · intro a
    have := (lix_lt a).2
    rw [pV1, Bool.and_eq_true, decide_eq_true_eq] at this
    exact ⟨by rw [this.1]; exact a, this.1⟩
theorem has_rel {kl : LK} {ar : MA} {nv : Nat} {ck : Int32} (ho : ksorted kl) (v : VSim kl (vlist ar nv)) (hv : ∀ k ∈ kl, vord ck k.2.2) : kl.countP pHas = cntN (pCk ar ck nv) nv := by
  rw [part (key := ar 14) (p := pCk ar ck nv) ho v.kn]
  refine countP_psum (fun k hk => ?_)
  have e := vs_find v hk ck
  cases ha : vAt ar nv k.2.1 ck with
  | none =>
    rw [cntN_zero (fun u hu => Bool.eq_false_iff.mpr (fun z => by rw [pCk_iff.mp z] at ha; cases ha)), if_neg]
    intro z
    rw [pHas] at z
    rw [ha, Option.map_none, List.find?_eq_none] at e
    cases hvs : k.2.2 with
    | nil => rw [hvs] at z; cases z
    | cons x t =>
      have h1 := (vord_pw (hv k hk)).2 x (by rw [hvs]; exact List.mem_cons_self ..)
      exact e x.2 (List.mem_map.mpr ⟨x, by rw [hvs]; exact List.mem_cons_self .., rfl⟩) (decide_eq_true h1)
  | some u =>
    rw [cntN_one (j := u) (lix_lt ha).1 (pCk_iff.mpr ha) (fun i hi z => by rw [pCk_iff.mp z] at ha; cases ha; rfl), if_pos]
    rw [pHas]
    cases hvs : k.2.2 with
    | nil => rw [hvs, ha] at e; cases e
    | cons x t => rfl
theorem val_rel {kl : LK} {ar : MA} {nv : Nat} {ck : Int32} (ho : ksorted kl) (v : VSim kl (vlist ar nv)) : kl.countP (pVal ck) = cntN (pCv ar ck nv) nv := by
  rw [part (key := ar 14) (p := pCv ar ck nv) ho v.kn]
  refine countP_psum (fun k hk => ?_)
  have e := vs_cont v hk ck
  have hs : ∀ u, (pCv ar ck nv u && decide (ar 14 u = k.2.1)) = ((pCk ar ck nv u && decide (ar 14 u = k.2.1)) && decide (ar 17 u = 0)) := fun u => by
    rw [pCv, Bool.and_assoc, Bool.and_assoc, Bool.and_comm (decide (ar 17 u = 0))]
  rw [cntN_congr (fun u _ => hs u)]
  cases ha : vAt ar nv k.2.1 ck with
  | none =>
    rw [cntN_zero (fun u hu => Bool.eq_false_iff.mpr (fun z => by rw [Bool.and_eq_true] at z; rw [pCk_iff.mp z.1] at ha; cases ha)), if_neg]
    rw [pVal, e, ha, contV]
    decide
  | some u =>
    rw [ha, contV] at e
    by_cases h17 : ar 17 u = 0
    · rw [cntN_one (j := u) (lix_lt ha).1 (by rw [pCk_iff.mpr ha, decide_eq_true h17]; rfl) (fun i hi z => by rw [Bool.and_eq_true] at z; rw [pCk_iff.mp z.1] at ha; cases ha; rfl), if_pos]
      rw [pVal, e, decide_eq_false (fun z => (ctn_no _ _).mp z h17)]
      rfl
    · rw [cntN_zero (fun i hi => Bool.eq_false_iff.mpr (fun z => by
        rw [Bool.and_eq_true] at z
        have h2 := pCk_iff.mp z.1
        rw [ha] at h2
        cases h2
        exact h17 (of_decide_eq_true z.2))), if_neg]
      rw [pVal, e, decide_eq_true ((ctn_no _ _).mpr h17)]
      decide
