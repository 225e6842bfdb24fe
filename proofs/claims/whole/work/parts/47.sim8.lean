-- class and reference: commit
section JE
variable {l : Launch} {g : GG} {s ta m : Nat} {ad : Nat → Nat} {N : Nat}
variable {ck sf nt : Int32} {kl : LK} {tl : List CT} {iv : MI} {ar : MA} {nv : Nat}
theorem add_known {c : Int32} : ∀ {ws : LW} {k1 k2 : LK}, addRel c ws k1 k2 → ∀ n, known k1 n → known k2 n
  | [], k1, k2, a, n, h => by rw [addRel] at a; rw [a]; exact h
  | (b, n, ct, kk) :: t, k1, k2, ⟨k3, s, a⟩, m, h => by
    refine add_known a m ?_
    rcases s with ⟨_, rfl⟩ | ⟨b, vs, _, ⟨_, _, _, _, rfl⟩ | ⟨_, q, rfl⟩⟩
    · exact h
    · exact h
    · exact (kset_known m).mpr h
theorem lv01' {lv : Int32} (h : lv = 0 ∨ lv = 1) : decide (lv = 1) = !decide (lv = 0) := by rcases h with rfl | rfl <;> decide
theorem aft_rel (sm : Sim N ck sf nt kl tl iv ar nv) {i : Nat} {t : CT} (hu : tl[i]? = some t) (hs0 : ctS t = 0) : aft tl false t = anyN (aftU ar (wcF tl) (rcF tl) i) tl.length ∧ aft tl true t = anyN (badU ar (wcF tl) (rcF tl) i) tl.length := by
  have hb := sm.tx hu
  have hwc := wcF_t hu
  have hrc := rcF_t hu
  obtain ⟨a, lv, sn, se, sp, ha, ws, rs, ps⟩ := t
  obtain ⟨⟨a1, a2, a3, a4, a5, a6, a7, a8⟩, b1, b2, b3, b4, b5, b6, b7, b8, b9, b10, b11⟩ := hb
  have key : ∀ own j u, tl[j]? = some u → pAft sn rs own u = (cU ar i j && (behU ar (wcF tl) (rcF tl) i j && (!decide (ar 4 j = 0) || !own))) := by
    intro own j u hj
    have hb2 := sm.tx hj
    have hwj := wcF_t hj
    obtain ⟨a', lv', sn', se', sp', ha', ws', rs', ps'⟩ := u
    obtain ⟨⟨c1, c2, c3, c4, c5, c6, c7, c8⟩, d1, d2, d3, d4, d5, d6, d7, d8, d9, d10, d11⟩ := hb2
    show (decide (lv' = 1) && (decide (se' = 1) && decide (sn < sp')) && (!decide (ha' = 0) || !own) && rany rs ws') = _
    rw [rany_rel b10 d9, behU, later, cU, hwj, hrc, lv01' d1, c1, c3, c4, c5, a2]
    show _ = (!decide (j = i) && !decide (ar 0 j = 0) && (decide (ar 3 j = 1) && decide (ar 1 i < ar 2 j) && hrM ar i rs.length j ws'.length && (!decide (ar 4 j = 0) || !own)))
    by_cases e : j = i
    · subst e
      have : ar 3 j = 0 := by rw [← a3]; exact hs0
      rw [this]
      simp
    · rw [decide_eq_false e]
      cases decide (ar 0 j = 0) <;> cases decide (ar 3 j = 1) <;> cases decide (ar 1 i < ar 2 j) <;> cases decide (ar 4 j = 0) <;> cases own <;> cases hrM ar i rs.length j ws'.length <;> rfl
  constructor
  · refine tl_any (fun j u hj => ?_)
    show pAft sn rs false u = _
    rw [key false j u hj, aftU]; simp
  · refine tl_any (fun j u hj => ?_)
    show pAft sn rs true u = _
    rw [key true j u hj, badU]; simp
theorem bef_rel (sm : Sim N ck sf nt kl tl iv ar nv) (hd : (tl.map (·.1)).Nodup) {i : Nat} {t : CT} (hu : tl[i]? = some t) : bef tl t = anyN (befU ar (wcF tl) (rcF tl) i) tl.length := by
  have hb := sm.tx hu
  have hwc := wcF_t hu
  have hlt := (List.getElem?_eq_some_iff.mp hu).1
  obtain ⟨a, lv, sn, se, sp, ha, ws, rs, ps⟩ := t
  obtain ⟨⟨a1, a2, a3, a4, a5, a6, a7, a8⟩, b1, b2, b3, b4, b5, b6, b7, b8, b9, b10, b11⟩ := hb
  refine tl_any (fun j u hj => ?_)
  have hb2 := sm.tx hj
  have hrj := rcF_t hj
  have hne : (u.1 = a) ↔ j = i := by
    have h1 : (tl.map (·.1))[i]? = some a := by rw [List.getElem?_map, hu]; rfl
    have h2 : (tl.map (·.1))[j]? = some u.1 := by rw [List.getElem?_map, hj]; rfl
    constructor
    · intro e
      rw [e] at h2
      exact ((List.getElem?_inj (by rw [List.length_map]; exact hlt) hd).mp (h1.trans h2.symm)).symm
    · intro e
      rw [e, h1] at h2
      cases h2; rfl
  obtain ⟨a', lv', sn', se', sp', ha', ws', rs', ps'⟩ := u
  obtain ⟨⟨c1, c2, c3, c4, c5, c6, c7, c8⟩, d1, d2, d3, d4, d5, d6, d7, d8, d9, d10, d11⟩ := hb2
  show (!decide (a' = a) && decide (lv' = 1) && (decide (se' = 0) || (decide (se' = 1) && decide (sn < sp'))) && rany rs' ws) = _
  rw [rany_rel d10 b9, befU, later, cU, hwc, hrj, lv01' d1, c1, c3, c4, a2]
  show _ = (!decide (j = i) && !decide (ar 0 j = 0) && ((decide (ar 3 j = 0) || (decide (ar 3 j = 1) && decide (ar 1 i < ar 2 j))) && hrM ar j rs'.length i ws.length))
  rw [show decide (a' = a) = decide (j = i) from decide_eq_decide.mpr hne]
  cases decide (j = i) <;> cases decide (ar 0 j = 0) <;> cases decide (ar 3 j = 0) <;> cases decide (ar 3 j = 1) <;> cases decide (ar 1 i < ar 2 j) <;> cases hrM ar j rs'.length i ws.length <;> rfl
theorem uns_rel (sm : Sim N ck sf nt kl tl iv ar nv) (hd : (tl.map (·.1)).Nodup) {i : Nat} {t : CT} (hu : tl[i]? = some t) (hs0 : ctS t = 0) : unsf tl t = (!decide (ar 0 i = 0) && unsM ar (wcF tl) (rcF tl) tl.length i) ∧ aftS tl t = (!decide (ar 0 i = 0) && anyN (aftU ar (wcF tl) (rcF tl) i) tl.length) := by
  obtain ⟨h1, h2⟩ := aft_rel sm hu hs0
  have h3 := bef_rel sm hd hu
  have hb := sm.tx hu
  have hl : decide (ctL t = 1) = !decide (ar 0 i = 0) := by
    obtain ⟨a, lv, sn, se, sp, ha, ws, rs, ps⟩ := t
    obtain ⟨⟨a1, a2, a3, a4, a5, a6, a7, a8⟩, b1, b2⟩ := hb
    show decide (lv = 1) = _
    rw [lv01' b1, a1]
  have hbad : anyN (badU ar (wcF tl) (rcF tl) i) tl.length = true → anyN (aftU ar (wcF tl) (rcF tl) i) tl.length = true := by
    intro z
    obtain ⟨j, hj, e⟩ := anyN_iff.mp z
    refine anyN_iff.mpr ⟨j, hj, ?_⟩
    rw [badU, Bool.and_eq_true, Bool.and_eq_true] at e
    rw [aftU, e.1, e.2.1]; rfl
  rw [unsf, aftS, h1, h2, h3, hl, unsM]
  refine ⟨?_, rfl⟩
  revert hbad
  cases decide (ar 0 i = 0) <;> cases anyN (badU ar (wcF tl) (rcF tl) i) tl.length <;> cases anyN (aftU ar (wcF tl) (rcF tl) i) tl.length <;> cases anyN (befU ar (wcF tl) (rcF tl) i) tl.length <;> intro hbad <;> first | rfl | exact absurd (hbad rfl) (by decide)
theorem conf_rel {g : GG} {s0 ta : Nat} {h : Mp} (w : World g s0 ta h ck sf nt kl tl) (sm : Sim N ck sf nt kl tl iv ar nv) {i : Nat} {t : CT} (hu : tl[i]? = some t) : conf kl t = cfM ar nv i (wcF tl i) := by
  have hb := sm.tx hu
  rw [wcF_t hu]
  obtain ⟨a, lv, sn, se, sp, ha, ws, rs, ps⟩ := t
  obtain ⟨⟨a1, a2, a3, a4, a5, a6, a7, a8⟩, b1, b2, b3, b4, b5, b6, b7, b8, b9, b10, b11⟩ := hb
  show ws.any (pCon kl sn) = anyN (fun k => anyN (pCf ar i (ar 6 (600 * i + k))) nv) ws.length
  rw [a2]
  exact ws_any (q := fun n => anyN (pCf ar i n) nv) (fun x => con_rel sm.v w.hv x) b9
-- the arrays behind a commit
theorem mAft_k {wc rc : Nat → Nat} {n t k : Nat} (h : k ≠ 4) : mAft ar wc rc n t k = ar k := by
  rw [mAft]
  split
  · rfl
  · rw [mHad, aU_n _ _ h]
theorem mAft_4 {wc rc : Nat → Nat} {n t j : Nat} : mAft ar wc rc n t 4 j = if j = t ∧ ¬ ar 0 t = 0 then b01 (anyN (aftU ar wc rc t) n) else ar 4 j := by
  rw [mAft]
  by_cases e : ar 0 t = 0
  · rw [if_pos e, if_neg (fun z => z.2 e)]
  · rw [if_neg e, mHad, aU_s]
    by_cases q : j = t
    · rw [if_pos ⟨q, e⟩, q, pk_us]
    · rw [if_neg (fun z => q z.1), pk_un q]
theorem mCom_k {t c nv k : Nat} {x : Int32} (h : k < 14) (h2 : k ≠ 2) (h3 : k ≠ 3) (h9 : k ≠ 9) : mCom ar t c nv x k = ar k := by
  rw [mCom, mEnd_k h3 h9, mCA_k (by omega) (by omega) (by omega) (by omega), aU_n _ _ h2]
theorem mCom_2 {t c nv : Nat} {x : Int32} : mCom ar t c nv x 2 = upd (ar 2) t x := by
  rw [mCom, mEnd_k (by decide) (by decide), mCA_k (by decide) (by decide) (by decide) (by decide), aU_s]
theorem mCom_3 {t c nv : Nat} {x : Int32} : mCom ar t c nv x 3 = upd (ar 3) t 1 := by
  rw [mCom, mEnd_3, mCA_k (by decide) (by decide) (by decide) (by decide), aU_n _ _ (by decide)]
theorem mCom_9 {t c nv : Nat} {x : Int32} : mCom ar t c nv x 9 = upd (ar 9) t 0 := by
  rw [mCom, mEnd_9, mCA_k (by decide) (by decide) (by decide) (by decide), aU_n _ _ (by decide)]
theorem pK1_congr {ar ar' : MA} {t c : Nat} (h6 : ar' 6 = ar 6) : pK1 ar' t c = pK1 ar t c := by
  funext k
  unfold pK1
  rw [h6, wOf_congr (fun k _ => by rw [h6])]
theorem mCom_v {wc rc : Nat → Nat} {n t c nv : Nat} {x : Int32} : vlist (mCom (mAft ar wc rc n t) t c nv x) (nv + kOf ar t c) = vlist ar nv ++ ((List.range c).filter (pK1 ar t c)).map (nrow ar t x) := by
  have h := mCA_vl (aU (mAft ar wc rc n t) 2 (upd (mAft ar wc rc n t 2) t x)) t c nv x c
  have hk : ∀ k, k ≠ 2 → k ≠ 4 → aU (mAft ar wc rc n t) 2 (upd (mAft ar wc rc n t 2) t x) k = ar k := fun k h2 h4 => by rw [aU_n _ _ h2, mAft_k h4]
  have e1 := pK1_congr (t := t) (c := c) (hk 6 (by decide) (by decide))
  have e2 : nrow (aU (mAft ar wc rc n t) 2 (upd (mAft ar wc rc n t 2) t x)) t x = nrow ar t x := by
    funext v
    simp only [nrow, hk 6 (by decide) (by decide), hk 7 (by decide) (by decide), hk 8 (by decide) (by decide)]
  have e3 := vlist_congr (n := nv) (fun k h1 h2 => hk k (by omega) (by omega))
  rw [e1, e2, e3] at h
  rw [← h]
  exact vlist_congr (fun k h1 h2 => mEnd_k (by omega) (by omega))
theorem com_sim (hN : N < 512) {g : GG} {s0 ta : Nat} {h : Mp} (w : World g s0 ta h ck sf nt kl tl) (sm : Sim N ck sf nt kl tl iv ar nv) {i : Nat} {t : CT} (hi2 : i < 120) (hu : tl[i]? = some t) (hs0 : ctS t = 0) {kl' : LK} {iv' : MI} (ha : addRel (ck + 1) (ctW t) kl kl') (hiv : ivCom iv iv' (iv 1 + 1) (nv + kOf ar i (wcF tl i))) : Sim (N + 1) (ck + 1) sf nt kl' (tl.set i (comT (ck + 1) (aftS tl t) t)) iv' (mCom (mAft ar (wcF tl) (rcF tl) tl.length i) i (wcF tl i) nv (iv 1 + 1)) (nv + kOf ar i (wcF tl i)) := by
  obtain ⟨v0, v1, v2, v3, v4⟩ := hiv
  have haft := (uns_rel sm w.hd hu hs0).2
  have hb := sm.tx hu
  have hwc := wcF_t hu
  obtain ⟨c, s1, k, h1, h2, h3, e1, e2, e3⟩ := sm.ns
  have hlt : ck < ck + 1 := by rw [e1, nI_1]; exact nI_lt (by omega) (by omega)
  rw [sm.i1] at v1 ⊢
  have hvl := mCom_v (ar := ar) (wc := wcF tl) (rc := rcF tl) (n := tl.length) (t := i) (c := wcF tl i) (nv := nv) (x := ck + 1)
  have hkn := fun n => add_known ha n
  have hko : kOf ar i (wcF tl i) ≤ wcF tl i := cntN_le _ _
  have r17 : ∀ j, j < nv + kOf ar i (wcF tl i) → mCom (mAft ar (wcF tl) (rcF tl) tl.length i) i (wcF tl i) nv (ck + 1) 17 j = 0 ∨ mCom (mAft ar (wcF tl) (rcF tl) tl.length i) i (wcF tl i) nv (ck + 1) 17 j = 1 := by
    intro j hj
    have hm := (vlist_mem (ar := mCom (mAft ar (wcF tl) (rcF tl) tl.length i) i (wcF tl i) nv (ck + 1))).mpr ⟨j, hj, rfl⟩
    rw [hvl, List.mem_append] at hm
    rcases hm with q | q
    · obtain ⟨u, hu, e⟩ := vlist_mem.mp q
      have := congrArg (fun (r : RW) => r.2.2.2) e
      dsimp only [vrow] at this
      rw [← this]; exact sm.b17 u hu
    · obtain ⟨u, hu, e⟩ := List.mem_map.mp q
      have := congrArg (fun (r : RW) => r.2.2.2) e
      dsimp only [vrow, nrow] at this
      rw [← this]; exact sm.b8 _
  rw [hwc] at hvl hko r17 v4 ⊢
  obtain ⟨a, lv, sn, se, sp, ha0, ws, rs, ps⟩ := t
  obtain ⟨⟨a1, a2, a3, a4, a5, a6, a7, a8⟩, b1, b2, b3, b4, b5, b6, b7, b8, b9, b10, b11⟩ := hb
  rw [show ctW (a, lv, sn, se, sp, ha0, ws, rs, ps) = ws from rfl] at hvl hko r17 ha v4 ⊢
  have hse : se = 0 := hs0
  have mk : ∀ k, k < 14 → k ≠ 2 → k ≠ 3 → k ≠ 4 → k ≠ 9 → mCom (mAft ar (wcF tl) (rcF tl) tl.length i) i ws.length nv (ck + 1) k = ar k := fun k h14 h2 h3 h4 h9 => by rw [mCom_k h14 h2 h3 h9, mAft_k h4]
  have m4 : ∀ j, mCom (mAft ar (wcF tl) (rcF tl) tl.length i) i ws.length nv (ck + 1) 4 j = if j = i ∧ ¬ ar 0 i = 0 then b01 (anyN (aftU ar (wcF tl) (rcF tl) i) tl.length) else ar 4 j := fun j => by rw [mCom_k (by decide) (by decide) (by decide) (by decide), mAft_4]
  have cw : ∀ k : Nat, mCom (mAft ar (wcF tl) (rcF tl) tl.length i) i ws.length nv (ck + 1) 6 (600 * i + k) = ar 6 (600 * i + k) ∧ mCom (mAft ar (wcF tl) (rcF tl) tl.length i) i ws.length nv (ck + 1) 7 (600 * i + k) = ar 7 (600 * i + k) ∧ mCom (mAft ar (wcF tl) (rcF tl) tl.length i) i ws.length nv (ck + 1) 8 (600 * i + k) = ar 8 (600 * i + k) := fun k => by rw [mk 6 (by decide) (by decide) (by decide) (by decide) (by decide), mk 7 (by decide) (by decide) (by decide) (by decide) (by decide), mk 8 (by decide) (by decide) (by decide) (by decide) (by decide)]; exact ⟨rfl, rfl, rfl⟩
  refine sm.set' (by omega) hu v1 (v2.trans sm.i2) v3 v4 (Or.inr rfl) (fun j hj => ⟨fun k hk => ?_, fun k hk q hq => by rw [mk k (by omega) (by omega) (by omega) (by omega) (by omega)], fun q hq => by rw [mk 10 (by decide) (by decide) (by decide) (by decide) (by decide)]⟩) hkn (com_rel sm.v w.hv hlt b9 ha hvl) ?_ ?_ (by rw [mk 8 (by decide) (by decide) (by decide) (by decide) (by decide)]; exact sm.b8) r17
  · by_cases k2 : k = 2
    · rw [k2, mCom_2, pk_un hj, mAft_k (by decide)]
    · by_cases k3 : k = 3
      · rw [k3, mCom_3, pk_un hj, mAft_k (by decide)]
      · by_cases k9 : k = 9
        · rw [k9, mCom_9, pk_un hj, mAft_k (by decide)]
        · by_cases k4 : k = 4
          · rw [k4, m4, if_neg (fun z => hj z.1)]
          · rw [mk k (by omega) k2 k3 k4 k9]
  · refine ⟨⟨by rw [mk 0 (by decide) (by decide) (by decide) (by decide) (by decide)]; exact a1, by rw [mk 1 (by decide) (by decide) (by decide) (by decide) (by decide)]; exact a2, by rw [mCom_3, pk_us], by rw [mCom_2, pk_us], ?_, by rw [mk 5 (by decide) (by decide) (by decide) (by decide) (by decide)]; exact a6, by rw [mk 11 (by decide) (by decide) (by decide) (by decide) (by decide)]; exact a7, by rw [mCom_9, pk_us]; rfl⟩, b1, b01_or _, ?_, fun z => absurd z (by decide), fun _ => rfl, by omega, by omega, Nat.zero_le _, wRel_mono hkn (wRel_congr (fun k _ => cw k) b9), rRel_congr (fun k _ => by rw [mk 12 (by decide) (by decide) (by decide) (by decide) (by decide), mk 13 (by decide) (by decide) (by decide) (by decide) (by decide)]; exact ⟨rfl, rfl⟩) b10, trivial⟩
    · rw [m4, haft]
      by_cases e : ar 0 i = 0
      · rw [if_neg (fun z => z.2 e), decide_eq_true e, ← a5, b4 hse]; rfl
      · rw [if_pos ⟨rfl, e⟩, decide_eq_false e]; rfl
    · obtain ⟨x, hx, e⟩ := b3; exact ⟨x, by omega, e⟩
  · show nv + kOf ar i ws.length + (if (1 : Int32) = 0 then ws.length else 0) ≤ nv + (if se = 0 then ws.length else 0) + 1
    rw [if_neg (by decide), if_pos hse]
    omega
theorem s_commit (hN : N < 512) (t : Int32) : JS l g s ta m ad N T_S_commit T_M_commit kI eI cdI [.int t] := by
  rintro hc hm k0 ⟨ck, sf, nt, kl, tl, iv, ar, nv, w, wm, sm, rfl⟩
  obtain ⟨c, s1, k, h1, h2, h3, e1, e2, e3⟩ := sm.ns
  have hlt : ck < ck + 1 := by rw [e1, nI_1]; exact nI_lt (by omega) (by omega)
  have hM : ∀ u ∈ tl, (ctW u).length ≤ 512 := fun u hu => by
    obtain ⟨i, hi⟩ := List.getElem?_of_mem hu
    have := wcF_N sm hi
    rw [wcF_t hi] at this
    omega
  refine ⟨_, _, fun N0 => c_S_commit l g N0 hc t 512 hM hlt w, ?_, ?_⟩
  · rintro v h' ⟨r, rfl, u, i, rfl, hu, hs0, hcase⟩
    have hil := (List.getElem?_eq_some_iff.mp hu).1
    have := w.len
    have hst : ar 3 i = 0 := by rw [← ctS_a (sm.tx hu)]; exact hs0
    have hcf := conf_rel w sm hu
    have hun := (uns_rel sm w.hd hu hs0).1
    rcases hcase with ⟨q1, rfl, w'⟩ | ⟨q1, q2, rfl, w'⟩ | ⟨q1, q2, rfl, kl', ha, w'⟩
    · refine ⟨_, rfl, ⟨_, rfl⟩, _, fun N0 => c_M_commit_con l g N0 hm (MB_of w sm (by omega)) hil hst (by rw [← hcf]; exact q1) wm, ?_⟩
      rintro v h'' ⟨r, rfl, rfl, iv', wm', hi0, hi4⟩
      refine ⟨rfl, _, _, _, _, _, _, _, nv, w', wm', end_rel sm hN hu hs0 hi4 ?_ ?_ (Or.inl ?_) (fun k h3 h4 h9 => ?_), hi0⟩
      · rw [mRef, mEnd_3, aU_n _ _ (by decide)]
      · rw [mRef, mEnd_9, aU_n _ _ (by decide)]
      · rw [mRef, mEnd_k (by decide) (by decide), aU_s]
      · rw [mRef, mEnd_k h3 h9, aU_n _ _ h4]
    · rw [hun, Bool.and_eq_true, Bool.not_eq_true', decide_eq_false_iff_not] at q2
      refine ⟨_, rfl, ⟨_, rfl⟩, _, fun N0 => c_M_commit_uns l g N0 hm (MB_of w sm (by omega)) hil hst (by rw [← hcf]; exact q1) q2.1 q2.2 wm, ?_⟩
      rintro v h'' ⟨r, rfl, rfl, iv', wm', hi0, hi4⟩
      refine ⟨rfl, _, _, _, _, _, _, _, nv, w', wm', end_rel sm hN hu hs0 hi4 ?_ ?_ (Or.inl ?_) (fun k h3 h4 h9 => ?_), hi0⟩
      · rw [mRef, mEnd_3, aU_n _ _ (by decide)]
      · rw [mRef, mEnd_9, aU_n _ _ (by decide)]
      · rw [mRef, mEnd_k (by decide) (by decide), aU_s]
      · rw [mRef, mEnd_k h3 h9, aU_n _ _ h4]
    · have hwn := wcF_N sm hu
      have hop : nv + wcF tl i ≤ 3000 := by have := sm.n; omega
      refine ⟨_, rfl, ⟨_, rfl⟩, _, fun N0 => c_M_commit l g N0 hm (MB_of w sm (by omega)) hil hst (by rw [← hcf]; exact q1) (fun z => by rw [hun, decide_eq_false z, Bool.not_false, Bool.true_and] at q2; exact q2) hop (fun k _ => sm.b8 _) wm, ?_⟩
      rintro v h'' ⟨r, rfl, rfl, iv', wm', hiv⟩
      exact ⟨by rw [sm.i1], _, _, _, _, _, _, _, _, w', wm', com_sim hN w sm (by omega) hu hs0 ha hiv, hiv.1⟩
  · rintro E h' hx
    obtain ⟨o1, o2, o3⟩ := opn_x w.len sm hx
    obtain ⟨_, rfl⟩ := hx
    refine ⟨o3, o2, _, fun N0 => c_M_commit_no l g N0 hm t sm.i3 w.len (by rw [o1]; exact o2) wm, ?_⟩
    rintro v h'' ⟨r, rfl, wm'⟩
    exact ⟨⟨_, rfl, _, rfl⟩, _, _, _, _, _, _, _, nv, w, wm', sm.num (by omega) (fun i h1 _ => iU_n _ _ (by omega)), by rw [iU_s, o1]⟩
end JE
