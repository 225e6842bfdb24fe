-- versions side by side: vacuum, crash, commit
theorem VS_filter {kl kl' : LK} {ar ar' : MA} {nv j : Nat} (v : VSim kl (vlist ar nv)) {p : Nat → Bool} (hc : vlist ar' j = ((List.range nv).filter p).map (vrow ar)) {f : Nat × Int32 × LV → Nat × Int32 × LV} (hkl : kl' = kl.map f) (hf : ∀ k, k ∈ kl → (f k).2.1 = k.2.1 ∧ ∃ q : Int32 × Int64 → Bool, (f k).2.2 = k.2.2.filter (fun v => q v.2) ∧ ∀ u, u < nv → ar 14 u = k.2.1 → p u = q (rproj (vrow ar u))) : VSim kl' (vlist ar' j) := by
  subst hkl
  rw [hc]
  refine ⟨fun k' hk' => ?_, fun r hr => ?_⟩
  · obtain ⟨k, hk, rfl⟩ := List.mem_map.mp hk'
    obtain ⟨e1, q, e2, e3⟩ := hf k hk
    rw [e1, e2]
    have h1 : (k.2.2.filter (fun v => q v.2)).map (·.2) = (k.2.2.map (·.2)).filter q := by rw [List.filter_map]; rfl
    rw [h1, v.1 k hk, List.filter_reverse, List.filter_map, List.filter_filter, vlist, List.filter_map, List.filter_map, List.filter_filter]
    congr 3
    refine List.filter_congr (fun u hu => ?_)
    have hu := List.mem_range.mp hu
    dsimp only [Function.comp]
    by_cases e : (vrow ar u).1 = k.2.1
    · rw [decide_eq_true e, e3 u hu e, Bool.and_true, Bool.true_and]
    · rw [decide_eq_false e, Bool.and_false, Bool.false_and]
  · obtain ⟨u, hu, rfl⟩ := List.mem_map.mp hr
    obtain ⟨k, hk, e⟩ := v.kn u (List.mem_range.mp (List.mem_filter.mp hu).1)
    exact ⟨f k, List.mem_map.mpr ⟨k, hk, rfl⟩, by rw [(hf k hk).1, e]; rfl⟩
-- crash
theorem vdrop_filter {sf : Int32} : ∀ {vs : LV}, (vs.map (·.2)).Pairwise (fun a b => b.1 < a.1) → vdrop sf vs = vs.filter (fun v => decide (v.2.1 ≤ sf))
  | [], _ => rfl
  | (a, s, c) :: t, h => by
    rw [List.map_cons] at h
    obtain ⟨h1, h2⟩ := List.pairwise_cons.mp h
    rw [vdrop, List.dropWhile_cons, List.filter_cons]
    by_cases e : s ≤ sf
    · rw [if_neg (by simp [e]), if_pos (by simp [e])]
      congr 1
      symm
      rw [List.filter_eq_self]
      intro v hv
      have := h1 v.2 (List.mem_map.mpr ⟨v, hv, rfl⟩)
      exact decide_eq_true (Int32.le_trans (Int32.le_of_lt this) e)
    · rw [if_pos (by simp [e]), if_neg (by simp [e])]
      exact vdrop_filter h2
theorem crash_rel {kl : LK} {ar ar1 ar' : MA} {nv j : Nat} {c sf : Int32} (v : VSim kl (vlist ar nv)) (ho : ∀ k ∈ kl, vord c k.2.2) (hr : ∀ u, vrow ar1 u = vrow ar u) (hc : cls ar1 ar' (fun u => decide (ar 15 u ≤ sf)) nv j) : VSim (kl.map (craK sf)) (vlist ar' j) := by
  have h2 := hc.2.2
  rw [show vrow ar1 = vrow ar from funext hr] at h2
  refine VS_filter v h2 rfl (fun k hk => ⟨rfl, fun x => decide (x.1 ≤ sf), ?_, fun u _ _ => rfl⟩)
  exact vdrop_filter (vord_pw (ho k hk)).1
-- vacuum: what is looked at
def ctNs (tl : List CT) : List Int32 := (tl.filter pOpen).map ctN
def tmL (ck sf : Int32) (tl : List CT) : List Int32 := ck :: sf :: ctNs tl
theorem look_any (ck sf : Int32) (tl : List CT) (lo hi : Int32) : look ck sf tl lo hi = (tmL ck sf tl).any (lk lo hi) := by
  rw [look, tmL, List.any_cons, List.any_cons, ctNs, List.any_map, List.any_filter, Bool.or_assoc]
  congr 3
theorem tl_any {p : CT → Bool} {q : Nat → Bool} {tl : List CT} (h : ∀ i t, tl[i]? = some t → p t = q i) : tl.any p = anyN q tl.length := by
  rw [Bool.eq_iff_iff, List.any_eq_true, anyN_iff]
  constructor
  · rintro ⟨t, ht, hp⟩
    obtain ⟨i, hi⟩ := List.getElem?_of_mem ht
    exact ⟨i, (List.getElem?_eq_some_iff.mp hi).1, by rw [← h i t hi]; exact hp⟩
  · rintro ⟨i, hi, hq⟩
    exact ⟨tl[i], List.getElem_mem hi, by rw [h i tl[i] (List.getElem?_eq_getElem hi)]; exact hq⟩
theorem cntN_shift {q : Nat → Bool} : ∀ n, cntN q (n + 1) = (if q 0 then 1 else 0) + cntN (fun i => q (i + 1)) n
  | 0 => by rw [cntN, cntN, cntN, Nat.zero_add, Nat.add_zero]
  | n + 1 => by rw [cntN, cntN_shift n, cntN, Nat.add_assoc]
theorem tl_cnt {p : CT → Bool} : ∀ {q : Nat → Bool} {tl : List CT}, (∀ i t, tl[i]? = some t → p t = q i) → tl.countP p = cntN q tl.length
  | q, [], _ => rfl
  | q, t :: tl, h => by
    rw [List.countP_cons, List.length_cons, cntN_shift, tl_cnt (q := fun i => q (i + 1)) (fun i u hu => h (i + 1) u hu), h 0 t rfl, Nat.add_comm]
def kpP (T : List Int32) (nw : Int32) (ss : List Int32) (s : Int32) : Bool := T.any (fun x => (decide (s ≤ x) && decide (x < nw)) && ss.all (fun s' => !decide (s < s') || decide (x < s')))
theorem any_congr {T : List Int32} {p q : Int32 → Bool} (h : ∀ x, x ∈ T → p x = q x) : T.any p = T.any q := by
  rw [Bool.eq_iff_iff, List.any_eq_true, List.any_eq_true]
  exact ⟨fun ⟨x, hx, e⟩ => ⟨x, hx, by rw [← h x hx]; exact e⟩, fun ⟨x, hx, e⟩ => ⟨x, hx, by rw [h x hx]; exact e⟩⟩
theorem vkeep_filter {T : List Int32} : ∀ {vs : LV} {nw : Int32}, (vs.map (·.2)).Pairwise (fun a b => b.1 < a.1) → (∀ v, v ∈ vs → v.2.1 < nw) → vkeep (fun lo hi => T.any (lk lo hi)) nw vs = vs.filter (fun v => kpP T nw (vs.map (fun v => v.2.1)) v.2.1)
  | [], _, _, _ => rfl
  | (a, s, c) :: t, nw, h, hn => by
    rw [List.map_cons] at h
    obtain ⟨h1, h2⟩ := List.pairwise_cons.mp h
    have ht : ∀ v, v ∈ t → v.2.1 < s := fun v hv => h1 v.2 (List.mem_map.mpr ⟨v, hv, rfl⟩)
    have hs := hn _ (List.mem_cons_self ..)
    dsimp only at hs
    have ih := vkeep_filter (T := T) h2 ht
    have e1 : kpP T nw (s :: t.map (fun v => v.2.1)) s = T.any (lk s nw) := by
      refine any_congr (fun x _ => ?_)
      have : (s :: t.map (fun v => v.2.1)).all (fun s' => !decide (s < s') || decide (x < s')) = true := by
        rw [List.all_eq_true]
        intro s' hs'
        rcases List.mem_cons.mp hs' with e | e
        · rw [e, decide_eq_false (fun z => Int32.lt_irrefl z)]; rfl
        · obtain ⟨v, hv, rfl⟩ := List.mem_map.mp e
          rw [decide_eq_false (Int32.not_lt.mpr (Int32.le_of_lt (ht v hv)))]; rfl
      rw [this, Bool.and_true]; rfl
    have e2 : t.filter (fun v => kpP T nw (s :: t.map (fun v => v.2.1)) v.2.1) = t.filter (fun v => kpP T s (t.map (fun v => v.2.1)) v.2.1) := by
      refine List.filter_congr (fun v hv => any_congr (fun x _ => ?_))
      have h3 := ht v hv
      rw [List.all_cons, decide_eq_true h3, Bool.not_true, Bool.false_or]
      by_cases e : x < s
      · rw [decide_eq_true e, decide_eq_true (Int32.lt_trans e hs)]; rfl
      · rw [decide_eq_false e]; simp
    rw [vkeep, List.filter_cons, List.map_cons]
    dsimp only
    rw [e1, e2, ih]
theorem vAt_iff {ar : MA} {nv u : Nat} {x : Int32} (hr : vrise ar nv) (hu : u < nv) : vAt ar nv (ar 14 u) x = some u ↔ ar 15 u ≤ x ∧ ∀ w, w < nv → ar 14 w = ar 14 u → ar 15 u < ar 15 w → x < ar 15 w := by
  rw [vAt, lix_some]
  constructor
  · rintro ⟨h1, h2, h3⟩
    rw [pV1, Bool.and_eq_true, decide_eq_true_eq, decide_eq_true_eq] at h2
    refine ⟨h2.2, fun w hw e hlt => ?_⟩
    have hwu : u < w := by
      rcases Nat.lt_trichotomy w u with q | q | q
      · exact absurd (Int32.lt_trans hlt (hr w u q hu e)) (fun z => Int32.lt_irrefl z)
      · rw [q] at hlt; exact absurd hlt (fun z => Int32.lt_irrefl z)
      · exact q
    have := h3 w hwu hw
    rw [pV1, decide_eq_true e, Bool.true_and] at this
    exact Int32.not_le.mp (of_decide_eq_false this)
  · rintro ⟨h1, h2⟩
    refine ⟨hu, by rw [pV1, decide_eq_true h1, decide_eq_true rfl]; rfl, fun w h3 hw => ?_⟩
    rw [pV1]
    by_cases e : ar 14 w = ar 14 u
    · rw [decide_eq_true e, Bool.true_and]
      exact decide_eq_false (Int32.not_le.mpr (h2 w hw e (hr u w h3 hw e.symm)))
    · rw [decide_eq_false e]; rfl
theorem ss_mem {kl : LK} {ar : MA} {nv : Nat} (v : VSim kl (vlist ar nv)) {k : Nat × Int32 × LV} (hk : k ∈ kl) (s : Int32) : s ∈ k.2.2.map (fun v => v.2.1) ↔ ∃ u, u < nv ∧ ar 14 u = k.2.1 ∧ ar 15 u = s := by
  have h : k.2.2.map (fun v => v.2.1) = (k.2.2.map (·.2)).map (·.1) := by rw [List.map_map]; rfl
  rw [h, v.1 k hk, List.mem_map]
  constructor
  · rintro ⟨x, hx, rfl⟩
    rw [List.mem_reverse, List.mem_map] at hx
    obtain ⟨r, hr, rfl⟩ := hx
    rw [List.mem_filter, vlist_mem] at hr
    obtain ⟨⟨u, hu, rfl⟩, e⟩ := hr
    exact ⟨u, hu, of_decide_eq_true e, rfl⟩
  · rintro ⟨u, hu, e, rfl⟩
    refine ⟨rproj (vrow ar u), ?_, rfl⟩
    rw [List.mem_reverse, List.mem_map]
    exact ⟨vrow ar u, List.mem_filter.mpr ⟨vlist_mem.mpr ⟨u, hu, rfl⟩, decide_eq_true e⟩, rfl⟩
theorem had_kp {kl : LK} {ar : MA} {nv u : Nat} {T : List Int32} (v : VSim kl (vlist ar nv)) (hr : vrise ar nv) {k : Nat × Int32 × LV} (hk : k ∈ kl) (hu : u < nv) (e : ar 14 u = k.2.1) (hT : ∀ x, x ∈ T → x < 2147483647) : T.any (fun x => decide (vAt ar nv (ar 14 u) x = some u)) = kpP T 2147483647 (k.2.2.map (fun v => v.2.1)) (ar 15 u) := by
  refine any_congr (fun x hx => ?_)
  rw [decide_eq_true (hT x hx), Bool.and_true, Bool.eq_iff_iff, decide_eq_true_eq, vAt_iff hr hu, Bool.and_eq_true, decide_eq_true_eq, List.all_eq_true]
  refine and_congr Iff.rfl ⟨fun h s hs => ?_, fun h w hw e2 hlt => ?_⟩
  · obtain ⟨w, hw, e2, rfl⟩ := (ss_mem v hk s).mp hs
    by_cases q : ar 15 u < ar 15 w
    · rw [decide_eq_true (h w hw (by rw [e2, e]) q)]; simp
    · rw [decide_eq_false q]; rfl
  · have := h (ar 15 w) ((ss_mem v hk _).mpr ⟨w, hw, by rw [e2, e], rfl⟩)
    rw [decide_eq_true hlt, Bool.not_true, Bool.false_or] at this
    exact of_decide_eq_true this
-- vacuum: an erased version with none before it
def trP (T : List Int32) (ss : List Int32) (x : Int32 × Int64) : Bool := (ss.all (fun s' => !decide (s' < x.1)) && decide (x.2 = 4294967296)) && T.all (fun y => decide (x.1 ≤ y))
theorem lk0 {T : List Int32} (hT : ∀ x, x ∈ T → 0 ≤ x) (s : Int32) : T.any (lk 0 s) = !T.all (fun y => decide (s ≤ y)) := by
  rw [List.not_all_eq_any_not]
  refine any_congr (fun x hx => ?_)
  rw [lk, decide_eq_true (hT x hx), Bool.true_and]
  by_cases e : x < s
  · rw [decide_eq_true e, decide_eq_false (Int32.not_le.mpr e)]; rfl
  · rw [decide_eq_false e, decide_eq_true (Int32.not_lt.mp e)]; rfl
theorem vtrim_filter {T : List Int32} (hT : ∀ x, x ∈ T → 0 ≤ x) {vs : LV} (h : (vs.map (·.2)).Pairwise (fun a b => b.1 < a.1)) : vtrim (fun lo hi => T.any (lk lo hi)) vs = vs.filter (fun v => !trP T (vs.map (fun v => v.2.1)) v.2) := by
  rcases List.eq_nil_or_concat vs with e | ⟨d, ⟨a, s, c⟩, e⟩
  · subst e; rfl
  · subst e
    rw [vtrim, List.concat_eq_append, List.getLast?_append, List.getLast?_singleton, Option.some_or]
    rw [List.concat_eq_append, List.map_append, List.pairwise_append] at h
    obtain ⟨h1, h2, h3⟩ := h
    have hd : ∀ v, v ∈ d → s < v.2.1 := fun v hv => h3 v.2 (List.mem_map.mpr ⟨v, hv, rfl⟩) (s, c) (by simp)
    have e1 : d.filter (fun v => !trP T ((d ++ [(a, s, c)]).map (fun v => v.2.1)) v.2) = d := by
      rw [List.filter_eq_self]
      intro v hv
      have : ((d ++ [(a, s, c)]).map (fun v => v.2.1)).all (fun s' => !decide (s' < v.2.1)) = false := by
        rw [List.all_eq_false]
        exact ⟨s, by simp, by rw [decide_eq_true (hd v hv)]; decide⟩
      rw [trP, this]; rfl
    have e2 : trP T ((d ++ [(a, s, c)]).map (fun v => v.2.1)) (s, c) = (decide (c = 4294967296) && T.all (fun y => decide (s ≤ y))) := by
      have : ((d ++ [(a, s, c)]).map (fun v => v.2.1)).all (fun s' => !decide (s' < s)) = true := by
        rw [List.all_eq_true]
        intro s' hs'
        rw [List.map_append, List.mem_append] at hs'
        rcases hs' with q | q
        · obtain ⟨v, hv, rfl⟩ := List.mem_map.mp q
          rw [decide_eq_false (Int32.not_lt.mpr (Int32.le_of_lt (hd v hv)))]; rfl
        · rw [List.map_cons, List.map_nil, List.mem_singleton] at q
          rw [q, decide_eq_false (fun z => Int32.lt_irrefl z)]; rfl
      rw [trP, this, Bool.true_and]
    dsimp only
    rw [lk0 hT, List.filter_append, e1, List.filter_cons, List.filter_nil]
    dsimp only
    rw [e2]
    by_cases q : c = 4294967296
    · cases hq : T.all (fun y => decide (s ≤ y)) with
      | true => rw [if_pos ⟨q, rfl⟩, List.dropLast_concat]; simp [q]
      | false => rw [if_neg (fun z => by cases z.2)]; simp
    · rw [if_neg (fun z => q z.1)]; simp [q]
theorem tr_rel {kl : LK} {iv : MI} {ar : MA} {n nv u : Nat} {T : List Int32} (v : VSim kl (vlist ar nv)) {k : Nat × Int32 × LV} (hk : k ∈ kl) (hl : ∀ x, lstB iv ar n x = T.all (fun y => decide (x ≤ y))) (e : ar 14 u = k.2.1) : trmI iv ar n nv u = trP T (k.2.2.map (fun v => v.2.1)) (rproj (vrow ar u)) := by
  rw [trmI, trP, hl]
  have e1 : (!anyN (pOld ar u) nv) = (k.2.2.map (fun v => v.2.1)).all (fun s' => !decide (s' < (rproj (vrow ar u)).1)) := by
    rw [Bool.eq_iff_iff, Bool.not_eq_true', List.all_eq_true]
    constructor
    · intro h s hs
      obtain ⟨w, hw, e2, rfl⟩ := (ss_mem v hk s).mp hs
      rw [decide_eq_false]
      · rfl
      · intro z
        have : anyN (pOld ar u) nv = true := anyN_iff.mpr ⟨w, hw, by rw [pOld, decide_eq_true (e2.trans e.symm)]; exact decide_eq_true z⟩
        rw [h] at this; cases this
    · intro h
      rw [Bool.eq_false_iff]
      intro z
      obtain ⟨w, hw, hp⟩ := anyN_iff.mp z
      rw [pOld, Bool.and_eq_true, decide_eq_true_eq, decide_eq_true_eq] at hp
      have := h (ar 15 w) ((ss_mem v hk _).mpr ⟨w, hw, hp.1.trans e, rfl⟩)
      rw [decide_eq_true (show ar 15 w < (rproj (vrow ar u)).1 from hp.2)] at this
      cases this
  have e2 : (!decide (ar 17 u = 0)) = decide ((rproj (vrow ar u)).2 = 4294967296) := by
    show (!decide (ar 17 u = 0)) = decide (ctn (ar 16 u) (ar 17 u) = 4294967296)
    by_cases q : ar 17 u = 0
    · rw [decide_eq_true q, decide_eq_false (fun z => (ctn_no _ _).mp z q)]; rfl
    · rw [decide_eq_false q, decide_eq_true ((ctn_no (ar 16 u) (ar 17 u)).mpr q)]; rfl
  rw [e1, e2]
  rfl
theorem vac_rel {kl : LK} {iv : MI} {ar ar1 ar2 : MA} {n nv j1 j2 : Nat} {c : Int32} {T : List Int32} {p : Int32 → Int32 → Bool} (hp : p = fun lo hi => T.any (lk lo hi)) (v : VSim kl (vlist ar nv)) (ho : ∀ k ∈ kl, vord c k.2.2) (hcc : c < 2147483647) (hT : ∀ x, x ∈ T → 0 ≤ x ∧ x < 2147483647) (hh : ∀ u, hadI iv ar n nv u = T.any (fun x => decide (vAt ar nv (ar 14 u) x = some u))) (hl : ∀ x, lstB iv ar1 n x = T.all (fun y => decide (x ≤ y))) (h1 : cls ar ar1 (hadI iv ar n nv) nv j1) (h2 : cls ar1 ar2 (fun u => !trmI iv ar1 n j1 u) j1 j2) : VSim (kl.map (vacK p)) (vlist ar2 j2) := by
  subst hp
  have hr := vrise_of v ho
  have hv1 : VSim (kl.map (fun k => (k.1, k.2.1, vkeep (fun lo hi => T.any (lk lo hi)) 2147483647 k.2.2))) (vlist ar1 j1) := by
    refine VS_filter v h1.2.2 rfl (fun k hk => ⟨rfl, fun x => kpP T 2147483647 (k.2.2.map (fun v => v.2.1)) x.1, ?_, fun u hu e => ?_⟩)
    · exact vkeep_filter (vord_pw (ho k hk)).1 (fun x hx => by have := (vord_pw (ho k hk)).2 x hx; rw [Int32.le_iff_toInt_le] at this; rw [Int32.lt_iff_toInt_lt] at hcc ⊢; omega)
    · rw [hh u]
      exact had_kp v hr hk hu e (fun x hx => (hT x hx).2)
  have e : kl.map (vacK (fun lo hi => T.any (lk lo hi))) = (kl.map (fun k => (k.1, k.2.1, vkeep (fun lo hi => T.any (lk lo hi)) 2147483647 k.2.2))).map (fun k => (k.1, k.2.1, vtrim (fun lo hi => T.any (lk lo hi)) k.2.2)) := by
    rw [List.map_map]; rfl
  refine VS_filter hv1 h2.2.2 e (fun k hk => ⟨rfl, fun x => !trP T (k.2.2.map (fun v => v.2.1)) x, ?_, fun u hu e => ?_⟩)
  · obtain ⟨k0, hk0, rfl⟩ := List.mem_map.mp hk
    refine vtrim_filter (fun x hx => (hT x hx).1) ?_
    dsimp only
    rw [vkeep_filter (vord_pw (ho k0 hk0)).1 (fun x hx => by have := (vord_pw (ho k0 hk0)).2 x hx; rw [Int32.le_iff_toInt_le] at this; rw [Int32.lt_iff_toInt_lt] at hcc ⊢; omega)]
    exact ((vord_pw (ho k0 hk0)).1.sublist (List.Sublist.map _ List.filter_sublist))
  · rw [tr_rel hv1 hk hl e]
-- commit
def addD (c : Int32) (o : Option Int64) : List (Int32 × Int64) := match o with
  | none => []
  | some ct => [(c, ct)]
def RD (c : Int32) (D : Int32 → Option Int64) (kl kl' : LK) : Prop := (∀ k', k' ∈ kl' → ∃ k, k ∈ kl ∧ k.2.1 = k'.2.1 ∧ k'.2.2.map (·.2) = addD c (D k.2.1) ++ k.2.2.map (·.2)) ∧ ∀ n, known kl' n ↔ known kl n
def dU (D : Int32 → Option Int64) (n : Int32) (ct : Int64) : Int32 → Option Int64 := fun m => match D m with
  | some x => some x
  | none => if n = m then some ct else none
theorem kset_known {n : Int32} {vs : LV} {kl : LK} (m : Int32) : known (kset n vs kl) m ↔ known kl m := by
  constructor
  · rintro ⟨k, hk, e⟩
    obtain ⟨k0, hk0, rfl⟩ := List.mem_map.mp hk
    refine ⟨k0, hk0, ?_⟩
    by_cases q : k0.2.1 = n
    · rw [if_pos q] at e; exact e
    · rw [if_neg q] at e; exact e
  · rintro ⟨k0, hk0, e⟩
    refine ⟨_, List.mem_map.mpr ⟨k0, hk0, rfl⟩, ?_⟩
    by_cases q : k0.2.1 = n
    · rw [if_pos q]; exact e
    · rw [if_neg q]; exact e
theorem RD_step {c : Int32} {D : Int32 → Option Int64} {kl k1 k2 : LK} {n : Int32} {ct : Int64} (hlt : ∀ k, k ∈ kl → ∀ x, x ∈ k.2.2 → x.2.1 ≠ c) (r : RD c D kl k1) (s : stepV c n ct k1 k2) : RD c (dU D n ct) kl k2 := by
  rcases s with ⟨h1, rfl⟩ | ⟨b, vs, h1, h2⟩
  · refine ⟨fun k' hk' => ?_, r.2⟩
    obtain ⟨k, hk, e1, e2⟩ := r.1 k' hk'
    refine ⟨k, hk, e1, ?_⟩
    have : dU D n ct k.2.1 = D k.2.1 := by
      unfold dU
      cases D k.2.1 with
      | some x => rfl
      | none => exact if_neg (fun z => kfind_none h1 ⟨k', hk', by rw [z, e1]⟩)
    rw [this]; exact e2
  · obtain ⟨hm, hn⟩ := kfind_some h1
    obtain ⟨k0, hk0, e01, e02⟩ := r.1 _ hm
    dsimp only at e01 e02 hn
    rcases h2 with ⟨x, t, rfl, hx, rfl⟩ | ⟨hne, q, rfl⟩
    · refine ⟨fun k' hk' => ?_, r.2⟩
      obtain ⟨k, hk, e1, e2⟩ := r.1 k' hk'
      refine ⟨k, hk, e1, ?_⟩
      have : dU D n ct k.2.1 = D k.2.1 := by
        unfold dU
        cases hD : D k.2.1 with
        | some x => rfl
        | none =>
          refine if_neg (fun z => ?_)
          rw [e01, z, hD, addD, List.nil_append, List.map_cons] at e02
          cases hv : k0.2.2 with
          | nil => rw [hv] at e02; cases e02
          | cons y u =>
            rw [hv, List.map_cons] at e02
            have : x.2 = y.2 := (List.cons.inj e02).1
            exact hlt k0 hk0 y (by rw [hv]; exact List.mem_cons_self ..) (by rw [← this]; exact hx)
      rw [this]; exact e2
    · have hD : D n = none := by
        cases hD : D n with
        | none => rfl
        | some y =>
          rw [e01, hD, addD, List.singleton_append] at e02
          cases vs with
          | nil => cases e02
          | cons x t =>
            rw [List.map_cons] at e02
            have : x.2 = (c, y) := (List.cons.inj e02).1
            exact absurd (by rw [this]) (hne x t rfl)
      refine ⟨fun k' hk' => ?_, fun m => (kset_known m).trans (r.2 m)⟩
      obtain ⟨k1', hk1, rfl⟩ := List.mem_map.mp hk'
      by_cases qe : k1'.2.1 = n
      · rw [if_pos qe]
        refine ⟨k0, hk0, by rw [e01]; exact qe.symm, ?_⟩
        dsimp only
        rw [List.map_cons, e02, e01, hD]
        unfold dU
        rw [hD, if_pos rfl]
        rfl
      · rw [if_neg qe]
        obtain ⟨k, hk, e1, e2⟩ := r.1 k1' hk1
        refine ⟨k, hk, e1, ?_⟩
        have : dU D n ct k.2.1 = D k.2.1 := by
          unfold dU
          cases D k.2.1 with
          | some x => rfl
          | none => exact if_neg (fun z => qe (by rw [z, e1]))
        rw [this]; exact e2
theorem RD_add {c : Int32} {kl : LK} (hlt : ∀ k, k ∈ kl → ∀ x, x ∈ k.2.2 → x.2.1 ≠ c) : ∀ {ws : LW} {D : Int32 → Option Int64} {k1 k2 : LK}, RD c D kl k1 → addRel c ws k1 k2 → RD c (fun m => match D m with | some x => some x | none => wcont (wdrop m ws)) kl k2
  | [], D, k1, k2, r, a => by
    rw [addRel] at a
    subst a
    have : (fun m => match D m with | some x => some x | none => wcont (wdrop m [])) = D := by funext m; cases D m <;> rfl
    rw [this]; exact r
  | (b, n, ct, kk) :: t, D, k1, k2, r, ⟨k3, s, a⟩ => by
    have h := RD_add hlt (RD_step hlt r s) a
    have : (fun m => match dU D n ct m with | some x => some x | none => wcont (wdrop m t)) = (fun m => match D m with | some x => some x | none => wcont (wdrop m ((b, n, ct, kk) :: t))) := by
      funext m
      unfold dU
      cases D m with
      | some x => rfl
      | none =>
        dsimp only
        rw [wdrop, wdrop, List.dropWhile_cons]
        by_cases e : n = m
        · rw [if_pos e, if_neg (by simp [e])]; rfl
        · rw [if_neg e, if_pos (by simp [e])]
    rw [this] at h
    exact h
theorem filter_one {o : Option Nat} : ∀ {c : Nat}, (∀ k, o = some k → k < c) → (List.range c).filter (fun v => decide (o = some v)) = o.toList
  | 0, h => by
    cases o with
    | none => rfl
    | some k => exact absurd (h k rfl) (Nat.not_lt_zero _)
  | c + 1, h => by
    rw [List.range_succ, List.filter_append, List.filter_cons, List.filter_nil]
    by_cases e : o = some c
    · subst e
      rw [if_pos (decide_eq_true rfl)]
      have : (List.range c).filter (fun v => decide (some c = some v)) = [] := by
        rw [List.filter_eq_nil_iff]
        intro v hv z
        have := List.mem_range.mp hv
        have := of_decide_eq_true z
        cases this
        omega
      rw [this]; rfl
    · rw [if_neg (fun z => e (of_decide_eq_true z)), List.append_nil]
      exact filter_one (fun k hk => by have := h k hk; have : k ≠ c := fun q => e (by rw [hk, q]); omega)
def nrow (ar : MA) (t : Nat) (ck : Int32) (v : Nat) : RW := (ar 6 (600 * t + v), ck, ar 7 (600 * t + v), ar 8 (600 * t + v))
theorem mCA_vl (ar : MA) (t c nv : Nat) (ck : Int32) : ∀ v, vlist (mCA ar t c nv ck v) (nv + cntN (pK1 ar t c) v) = vlist ar nv ++ ((List.range v).filter (pK1 ar t c)).map (nrow ar t ck)
  | 0 => by rw [mCA, cntN]; simp
  | v + 1 => by
    have ih := mCA_vl ar t c nv ck v
    rw [mCA, cntN, List.range_succ, List.filter_append, List.map_append, ← List.append_assoc, ← ih]
    by_cases e : pK1 ar t c v = true
    · rw [if_pos e, if_pos e, ← Nat.add_assoc, vlist_s]
      have hr : ∀ i, vrow (aU (aU (aU (aU (mCA ar t c nv ck v) 14 (upd (mCA ar t c nv ck v 14) (nv + cntN (pK1 ar t c) v) (ar 6 (600 * t + v)))) 15 (upd (mCA ar t c nv ck v 15) (nv + cntN (pK1 ar t c) v) ck)) 16 (upd (mCA ar t c nv ck v 16) (nv + cntN (pK1 ar t c) v) (ar 7 (600 * t + v)))) 17 (upd (mCA ar t c nv ck v 17) (nv + cntN (pK1 ar t c) v) (ar 8 (600 * t + v)))) i = if i = nv + cntN (pK1 ar t c) v then nrow ar t ck v else vrow (mCA ar t c nv ck v) i := by
        intro i
        simp (decide := true) only [vrow, aU_s, aU_n]
        by_cases q : i = nv + cntN (pK1 ar t c) v
        · rw [if_pos q, q, pk_us, pk_us, pk_us, pk_us]; rfl
        · rw [if_neg q, pk_un q, pk_un q, pk_un q, pk_un q]
      rw [hr, if_pos rfl]
      congr 1
      · refine List.map_congr_left (fun i hi => ?_)
        have := List.mem_range.mp hi
        rw [hr, if_neg (by omega)]
      · rw [List.filter_cons, if_pos e]; rfl
    · rw [if_neg e, if_neg e, Nat.add_zero, List.filter_cons, if_neg e]
      simp
theorem com_rel {kl kl' : LK} {ar ar' : MA} {t nv nv' : Nat} {ck c : Int32} {ws : LW} (v : VSim kl (vlist ar nv)) (ho : ∀ k ∈ kl, vord c k.2.2) (hc : c < ck) (hw : wRel ar t (known kl) ws) (ha : addRel ck ws kl kl') (hl : vlist ar' nv' = vlist ar nv ++ ((List.range ws.length).filter (pK1 ar t ws.length)).map (nrow ar t ck)) : VSim kl' (vlist ar' nv') := by
  have r := RD_add (D := fun _ => none) (c := ck) (fun k hk x hx => by
    have := (vord_pw (ho k hk)).2 x hx
    exact fun z => by rw [z] at this; exact absurd hc (Int32.not_lt.mpr this)) (⟨fun k' hk' => ⟨k', hk', rfl, rfl⟩, fun _ => Iff.rfl⟩ : RD ck (fun _ => none) kl kl) ha
  dsimp only at r
  rw [hl]
  refine ⟨fun k' hk' => ?_, fun x hx => ?_⟩
  · obtain ⟨k, hk, e1, e2⟩ := r.1 k' hk'
    rw [e2, v.1 k hk, ← e1, List.filter_append, List.map_append, List.reverse_append]
    congr 1
    have e3 : (((List.range ws.length).filter (pK1 ar t ws.length)).map (nrow ar t ck)).filter (fun r => decide (r.1 = k.2.1)) = (wOf ar t ws.length k.2.1).toList.map (nrow ar t ck) := by
      rw [List.filter_map, List.filter_filter, ← filter_one (o := wOf ar t ws.length k.2.1) (c := ws.length) (fun i hi => (lix_lt hi).1)]
      congr 1
      refine List.filter_congr (fun i _ => ?_)
      show (decide (ar 6 (600 * t + i) = k.2.1) && pK1 ar t ws.length i) = decide (wOf ar t ws.length k.2.1 = some i)
      rw [pK1, Bool.eq_iff_iff, Bool.and_eq_true, decide_eq_true_eq, decide_eq_true_eq, decide_eq_true_eq]
      constructor
      · rintro ⟨q1, q2⟩; rw [← q1]; exact q2
      · intro q
        have := of_decide_eq_true (lix_lt q).2
        exact ⟨this, by rw [this]; exact q⟩
    rw [e3]
    show addD ck (wcont (wdrop k.2.1 ws)) = _
    rw [wdrop_lix k.2.1 hw]
    cases wOf ar t ws.length k.2.1 with
    | none => rfl
    | some i => rfl
  · rw [List.mem_append] at hx
    rw [r.2]
    rcases hx with q | q
    · exact v.2 x q
    · obtain ⟨i, hi, rfl⟩ := List.mem_map.mp q
      have := (List.mem_filter.mp hi).2
      exact wRel_known hw (n := (nrow ar t ck i).1) (by intro z; have h5 := of_decide_eq_true this; rw [show ar 6 (600 * t + i) = (nrow ar t ck i).1 from rfl, z] at h5; cases h5)
