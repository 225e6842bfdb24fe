-- class and reference: vacuum, flush, crash, told, at, versions, count, astray
section JF
variable {l : Launch} {g : GG} {s ta m : Nat} {ad : Nat → Nat} {N : Nat}
variable {ck sf nt : Int32} {kl : LK} {tl : List CT} {iv : MI} {ar : MA} {nv : Nat}
def cd0 (_ : String) : Int32 := 1
theorem s_flush (hN : N < 512) : JS l g s ta m ad N T_S_flush T_M_flush kI [] cd0 [] := by
  rintro hc hm k0 ⟨ck, sf, nt, kl, tl, iv, ar, nv, w, wm, sm, rfl⟩
  refine ⟨_, _, fun N0 => c_S_flush l g N0 hc w, ?_, fun E h' hx => hx.elim⟩
  rintro v h' ⟨r, rfl, rfl, w'⟩
  refine ⟨_, rfl, ⟨_, rfl⟩, _, fun N0 => c_M_flush l g N0 hm wm, ?_⟩
  rintro v h'' ⟨r, rfl, rfl, wm'⟩
  refine ⟨by rw [sm.i1, sm.i2], _, _, _, _, _, _, _, nv, w', wm', ?_, by simp (decide := true) only [iU_n, iU_s]⟩
  obtain ⟨c, q, k, h1, h2, h3, e1, e2, e3⟩ := sm.ns
  refine ⟨⟨?_, ?_, ?_, ?_⟩, ⟨c, c, k, by omega, Nat.le_refl _, by omega, e1, e1, e3⟩, fun i t ht => txS_row (by omega) (by omega) (fun _ z => z) (rowEq.refl ar i) (sm.tx ht), sm.z, by have := sm.n; omega, ⟨sm.b8, sm.b17⟩, sm.v⟩
  · simp (decide := true) only [iU_n]; exact sm.i1
  · rw [iU_s]; exact sm.i1
  · simp (decide := true) only [iU_n]; exact sm.i3
  · simp (decide := true) only [iU_n]; exact sm.i4
theorem s_astray (hN : N < 512) : JS l g s ta m ad N T_S_astray T_M_astray kI [] cd0 [] := by
  rintro hc hm k0 ⟨ck, sf, nt, kl, tl, iv, ar, nv, w, wm, sm, rfl⟩
  refine ⟨_, _, fun N0 => c_S_astray l g N0 hc w, ?_, fun E h' hx => hx.elim⟩
  rintro v h' ⟨r, rfl, rfl, rfl⟩
  refine ⟨_, rfl, ⟨_, rfl⟩, _, fun N0 => c_M_astray l g N0 hm wm, ?_⟩
  rintro v h'' ⟨r, rfl, rfl, wm'⟩
  exact ⟨rfl, _, _, _, _, _, _, _, nv, w, wm', sm.num (by omega) (fun i h1 _ => iU_n _ _ (by omega)), iU_s _ _ _⟩
theorem s_versions (hN : N < 512) (key : Int32) : JS l g s ta m ad N T_S_versions T_M_versions kI [] cd0 [.int key] := by
  rintro hc hm k0 ⟨ck, sf, nt, kl, tl, iv, ar, nv, w, wm, sm, rfl⟩
  refine ⟨_, _, fun N0 => c_S_versions l g N0 hc key w, ?_, fun E h' hx => hx.elim⟩
  rintro v h' ⟨r, rfl, rfl, rfl⟩
  refine ⟨_, rfl, ⟨_, rfl⟩, _, fun N0 => c_M_versions l g N0 hm key sm.i4 (by have := sm.n; omega) wm, ?_⟩
  rintro v h'' ⟨r, rfl, rfl, wm'⟩
  exact ⟨by rw [ver_rel sm.v], _, _, _, _, _, _, _, nv, w, wm', sm.num (by omega) (fun i h1 _ => iU_n _ _ (by omega)), iU_s _ _ _⟩
theorem s_at (hN : N < 512) (key sa : Int32) : JS l g s ta m ad N T_S_at T_M_at kI [] cd0 [.int key, .int sa] := by
  rintro hc hm k0 ⟨ck, sf, nt, kl, tl, iv, ar, nv, w, wm, sm, rfl⟩
  refine ⟨_, _, fun N0 => c_S_at l g N0 hc key sa w, ?_, fun E h' hx => hx.elim⟩
  rintro v h' ⟨r, rfl, rfl, rfl⟩
  refine ⟨_, rfl, ⟨_, rfl⟩, _, fun N0 => c_M_at l g N0 hm key sa sm.i4 (by have := sm.n; omega) (vrise_of sm.v w.hv) wm, ?_⟩
  rintro v h'' ⟨r, rfl, rfl, iv', wm', hi0, hi4⟩
  exact ⟨by rw [at_cont sm.v, sm.i1, sm.i2], _, _, _, _, _, _, _, nv, w, wm', sm.num (by omega) hi4, hi0⟩
theorem s_count (hN : N < 512) (what : Int32) : JS l g s ta m ad N T_S_count T_M_count kI [] cd0 [.int what] := by
  rintro hc hm k0 ⟨ck, sf, nt, kl, tl, iv, ar, nv, w, wm, sm, rfl⟩
  refine ⟨_, _, fun N0 => c_S_count l g N0 hc what w, ?_, fun E h' hx => hx.elim⟩
  rintro v h' ⟨r, rfl, rfl, rfl⟩
  refine ⟨_, rfl, ⟨_, rfl⟩, _, fun N0 => c_M_count l g N0 hm what sm.i3 w.len sm.i4 (by have := sm.n; omega) (vrise_of sm.v w.hv) wm, ?_⟩
  rintro v h'' ⟨r, rfl, rfl, wm'⟩
  refine ⟨?_, _, _, _, _, _, _, _, nv, w, wm', sm.num (by omega) (fun i h1 _ => iU_n _ _ (by omega)), iU_s _ _ _⟩
  have ho : tl.countP pOpen = cntN (pOp ar) tl.length := tl_cnt (fun i t ht => by
    have := ctS_a (sm.tx ht)
    obtain ⟨a, lv, sn, se, sp, ha, ws, rs, ps⟩ := t
    show decide (se = 0) = decide (ar 3 i = 0)
    rw [show se = ar 3 i from this])
  rw [countC, cntM, total_rel w.ho sm.v, has_rel w.ho sm.v w.hv, val_rel w.ho sm.v, ho, sm.i1, sm.i2]
theorem s_told (hN : N < 512) (t what : Int32) : JS l g s ta m ad N T_S_told T_M_told kI eT cdT [.int t, .int what] := by
  rintro hc hm k0 ⟨ck, sf, nt, kl, tl, iv, ar, nv, w, wm, sm, rfl⟩
  refine ⟨_, _, fun N0 => c_S_told l g N0 hc t what w, ?_, ?_⟩
  · rintro v h' ⟨r, rfl, ⟨u, hu, hw, rfl⟩, rfl⟩
    obtain ⟨i, rfl, -, hu⟩ := txAt_s hu
    have hlt := (List.getElem?_eq_some_iff.mp hu).1
    refine ⟨_, rfl, ⟨_, rfl⟩, _, fun N0 => c_M_told l g N0 hm what (MB_of w sm (by omega)) hlt hw.1 hw.2 wm, ?_⟩
    rintro v h'' ⟨r, rfl, rfl, wm'⟩
    refine ⟨?_, _, _, _, _, _, _, _, nv, w, wm', sm.num (by omega) (fun i h1 _ => iU_n _ _ (by omega)), iU_s _ _ _⟩
    have hb := sm.tx hu
    rw [wcF_t hu]
    obtain ⟨a, lv, sn, se, sp, ha, ws, rs, ps⟩ := u
    obtain ⟨⟨a1, a2, a3, a4, a5, a6, a7, a8⟩, b1, b2, b3, b4, b5, b6, b7, b8, b9, b10, b11⟩ := hb
    show some (Value.int (tldM ar i ws.length what)) = some (Value.int (if what = 0 then se else if what = 1 then lv else if what = 2 then sn else if what = 3 then sp else if what = 4 then wkeys ws else if what = 5 then cpcnt ps else b01 (!decide (ha = 0))))
    have e1 : bz (ar 0 i) = lv := by rw [← a1, bz]; rcases b1 with rfl | rfl <;> rfl
    have e2 : bz (ar 4 i) = b01 (!decide (ha = 0)) := by rw [← a5, bz]; rcases b2 with rfl | rfl <;> rfl
    rw [tldM, e1, e2, a2, a3, a4, wkeys_rel b9, cpcnt_rel b11, a8]
  · rintro E h' ⟨⟨rfl, hu⟩ | ⟨rfl, ⟨u, hu⟩, hw⟩, rfl⟩
    · have e : tldC tl.length t what = 1 := by rw [tldC, if_neg (by rw [txAt_n w.len hu]; decide)]
      refine ⟨by decide, by decide, _, fun N0 => c_M_told_no l g N0 hm t what sm.i3 (by rw [e]; decide) wm, ?_⟩
      rintro v h'' ⟨r, rfl, wm'⟩
      exact ⟨⟨_, rfl, _, rfl⟩, _, _, _, _, _, _, _, nv, w, wm', sm.num (by omega) (fun i h1 _ => iU_n _ _ (by omega)), by rw [iU_s, e]; rfl⟩
    · obtain ⟨i, rfl, -, hu⟩ := txAt_s hu
      have hlt := (List.getElem?_eq_some_iff.mp hu).1
      have e : tldC tl.length (nI i) what = 2 := by rw [tldC, if_pos (isTx_i (by have := w.len; omega) hlt), if_neg hw]
      refine ⟨by decide, by decide, _, fun N0 => c_M_told_no l g N0 hm (nI i) what sm.i3 (by rw [e]; decide) wm, ?_⟩
      rintro v h'' ⟨r, rfl, wm'⟩
      exact ⟨⟨_, rfl, _, rfl⟩, _, _, _, _, _, _, _, nv, w, wm', sm.num (by omega) (fun i h1 _ => iU_n _ _ (by omega)), by rw [iU_s, e]; rfl⟩
-- vacuum
theorem tx_open (sm : Sim N ck sf nt kl tl iv ar nv) (q : Int32 → Bool) : (ctNs tl).any q = anyN (fun i => decide (ar 3 i = 0) && q (ar 1 i)) tl.length := by
  rw [ctNs, List.any_map, List.any_filter]
  refine tl_any (fun i t ht => ?_)
  have hb := sm.tx ht
  obtain ⟨a, lv, sn, se, sp, ha, ws, rs, ps⟩ := t
  obtain ⟨⟨a1, a2, a3, a4, a5, a6, a7, a8⟩, b1⟩ := hb
  show (decide (se = 0) && q sn) = (decide (ar 3 i = 0) && q (ar 1 i))
  rw [a2, a3]
theorem vacN_rel {p : Int32 → Int32 → Bool} : ∀ {kl : LK}, (∀ k, k ∈ kl → (vac1 p k.2.2).length ≤ k.2.2.length) → vacN p kl + vtotal (kl.map (vacK p)) = vtotal kl
  | [], _ => rfl
  | (a, n, vs) :: t, h => by
    have h1 : (vac1 p vs).length ≤ vs.length := h (a, n, vs) (List.mem_cons_self ..)
    have ih := vacN_rel (fun k hk => h k (List.mem_cons_of_mem _ hk))
    rw [vacN, List.map_cons, vacK, vtotal, vtotal]
    dsimp only
    omega
theorem vac_known {p : Int32 → Int32 → Bool} {kl : LK} (n : Int32) (h : known kl n) : known (kl.map (vacK p)) n := by
  obtain ⟨k, hk, e⟩ := h
  exact ⟨vacK p k, List.mem_map.mpr ⟨k, hk, rfl⟩, e⟩
theorem vac_sorted {p : Int32 → Int32 → Bool} : ∀ {kl : LK}, ksorted kl → ksorted (kl.map (vacK p))
  | [], _ => trivial
  | (a, n, vs) :: t, ⟨h1, h2⟩ => ⟨fun x hx => by
      obtain ⟨k, hk, rfl⟩ := List.mem_map.mp hx
      exact h1 k hk, vac_sorted h2⟩
theorem cls_le {ar ar1 : MA} {p : Nat → Bool} {n j : Nat} (c : cls ar ar1 p n j) : j ≤ n := c.2.1
theorem s_vacuum (hN : N < 512) : JS l g s ta m ad N T_S_vacuum T_M_vacuum kI [] cd0 [] := by
  rintro hc hm k0 ⟨ck, sf, nt, kl, tl, iv, ar, nv, w, wm, sm, rfl⟩
  refine ⟨_, _, fun N0 => c_S_vacuum l g N0 hc w, ?_, fun E h' hx => hx.elim⟩
  rintro v h' ⟨r, rfl, rfl, w'⟩
  have hnv := sm.n
  refine ⟨_, rfl, ⟨_, rfl⟩, _, fun N0 => c_M_vacuum l g N0 hm sm.i3 w.len sm.i4 (by omega) (vrise_of sm.v w.hv) sm.b17 wm, ?_⟩
  rintro v h'' ⟨r, rfl, ar1, j1, ar2, j2, c1, c2, rfl, iv', wm', hi4, hi0, hi3⟩
  obtain ⟨c, q, k, h1, h2, h3, e1, e2, e3⟩ := sm.ns
  have b1 := c1.2.1
  have b2 := c2.2.1
  have hk1 : ∀ k, k < 14 → ar1 k = ar k := fun k hk => c1.1 k (Or.inl hk)
  have hk2 : ∀ k, k < 14 → ar2 k = ar k := fun k hk => (c2.1 k (Or.inl hk)).trans (hk1 k hk)
  have hT : ∀ x, x ∈ tmL ck sf tl → 0 ≤ x ∧ x < 2147483647 := by
    have gen : ∀ y : Nat, y ≤ 512 → (0 : Int32) ≤ nI y ∧ nI y < 2147483647 := fun y hy => ⟨Int32.not_lt.mp (nI_pos (by omega)), nI_lt (b := 2147483647) (by omega) (by decide)⟩
    intro x hx
    rcases List.mem_cons.mp hx with rfl | hx
    · rw [e1]; exact gen c (by omega)
    · rcases List.mem_cons.mp hx with rfl | hx
      · rw [e2]; exact gen q (by omega)
      · obtain ⟨t, ht, rfl⟩ := List.mem_map.mp hx
        obtain ⟨i, hi⟩ := List.getElem?_of_mem (List.mem_filter.mp ht).1
        have hb := sm.tx hi
        obtain ⟨a, lv, sn, se, sp, ha, ws, rs, ps⟩ := t
        obtain ⟨-, -, -, ⟨y, hy, e⟩, -⟩ := hb
        rw [show ctN (a, lv, sn, se, sp, ha, ws, rs, ps) = nI y from e]
        exact gen y (by omega)
  have hh : ∀ u, hadI iv ar tl.length nv u = (tmL ck sf tl).any (fun x => decide (vAt ar nv (ar 14 u) x = some u)) := fun u => by
    rw [tmL, List.any_cons, List.any_cons, tx_open sm, hadI, sm.i1, sm.i2, Bool.or_assoc]
    rfl
  have hl : ∀ x, lstB iv ar1 tl.length x = (tmL ck sf tl).all (fun y => decide (x ≤ y)) := fun x => by
    have e := tx_open sm (fun y => decide (y < x))
    rw [tmL, List.all_cons, List.all_cons, lstB, sm.i1, sm.i2, hk1 3 (by decide), hk1 1 (by decide), ← e, Bool.and_assoc, List.not_any_eq_all_not]
    congr 2
    congr 1
    funext y
    by_cases z : y < x
    · rw [decide_eq_true z, decide_eq_false (Int32.not_le.mpr z)]; rfl
    · rw [decide_eq_false z, decide_eq_true (Int32.not_lt.mp z)]; rfl
  have hv2 := vac_rel (p := look ck sf tl) (funext fun lo => funext fun hi => look_any ck sf tl lo hi) sm.v w.hv (by rw [e1]; exact nI_lt (b := 2147483647) (by omega) (by decide)) hT hh hl c1 c2
  have t1 := total_rel w.ho sm.v
  have t2 := total_rel (vac_sorted (p := look ck sf tl) w.ho) hv2
  have t3 := vacN_rel (p := look ck sf tl) (kl := kl) (fun k _ => Nat.le_trans (vtrim_le _ _) (vkeep_le _ _ _))
  refine ⟨by rw [show vacN (look ck sf tl) kl = nv - j2 by omega], _, _, _, _, _, _, _, j2, w', wm', ?_, hi0⟩
  refine ⟨⟨(hi3 1 (by decide) (by decide)).trans sm.i1, (hi3 2 (by decide) (by decide)).trans sm.i2, (hi3 3 (by decide) (by decide)).trans sm.i3, hi4⟩, ⟨c, q, k, by omega, h2, by omega, e1, e2, e3⟩, fun i t ht => txS_row (by omega) (by omega) (fun n hn => vac_known n hn) (rowEq_of hk2 i) (sm.tx ht), fun i h1 h2 => z0_row (rowEq_of hk2 i) (sm.z i h1 h2), by omega, ⟨by rw [hk2 8 (by decide)]; exact sm.b8, cls_17 c2 (cls_17 c1 sm.b17)⟩, hv2⟩
-- crash
theorem cra_open (x : Int32) : ∀ tl : List CT, openSum (tl.map (craT x)) = 0
  | [] => rfl
  | t :: l => by
    have ih := cra_open x l
    rw [List.map_cons, openSum, ih]
    obtain ⟨a, lv, sn, se, sp, ha, ws, rs, ps⟩ := t
    rw [craT]
    by_cases e : ctS (a, lv, sn, se, sp, ha, ws, rs, ps) = 0
    · rw [if_pos e]; rfl
    · rw [if_neg e]
      split
      · rfl
      · rw [opn1, if_neg e]
theorem s_crash (hN : N < 512) : JS l g s ta m ad N T_S_crash T_M_crash kI [] cd0 [] := by
  rintro hc hm k0 ⟨ck, sf, nt, kl, tl, iv, ar, nv, w, wm, sm, rfl⟩
  refine ⟨_, _, fun N0 => c_S_crash l g N0 hc w, ?_, fun E h' hx => hx.elim⟩
  rintro v h' ⟨r, rfl, rfl, w'⟩
  have hnv := sm.n
  refine ⟨_, rfl, ⟨_, rfl⟩, _, fun N0 => c_M_crash l g N0 hm (MB_of w sm (by omega)) sm.b17 wm, ?_⟩
  rintro v h'' ⟨r, rfl, rfl, ar1, ar2, j, iv', c1, c2, wm', i0, i1, i2, i3, i4⟩
  obtain ⟨c, q, k, h1, h2, h3, e1, e2, e3⟩ := sm.ns
  rw [sm.i2] at c1 c2 i1 i2
  obtain ⟨d1, d2, d3⟩ := c1
  have hv2 := crash_rel sm.v w.hv (fun u => by simp only [vrow, d1 14 (by decide) (by decide), d1 15 (by decide) (by decide), d1 16 (by decide) (by decide), d1 17 (by decide) (by decide)]) c2
  have hk2 : ∀ k, k < 14 → k ≠ 3 → k ≠ 9 → ar2 k = ar k := fun k hk h3 h9 => (c2.1 k (Or.inl hk)).trans (d1 k h3 h9)
  have m3 : ar2 3 = ar1 3 := c2.1 3 (Or.inl (by decide))
  have m9 : ar2 9 = ar1 9 := c2.1 9 (Or.inl (by decide))
  have hkn : ∀ n, known kl n → known (kl.map (craK sf)) n := fun n ⟨k, hk, e⟩ => ⟨craK sf k, List.mem_map.mpr ⟨k, hk, rfl⟩, e⟩
  have b2 := c2.2.1
  refine ⟨?_, _, _, _, _, _, _, _, j, w', wm', ?_, i0⟩
  · rw [sm.i2]
    congr 2
    refine congrArg nI (tl_cnt (fun i t ht => ?_)).symm
    have hb := sm.tx ht
    obtain ⟨a, lv, sn, se, sp, ha, ws, rs, ps⟩ := t
    obtain ⟨⟨a1, a2, a3, a4, a5, a6, a7, a8⟩, b1⟩ := hb
    show (decide (se = 1) && decide (sf < sp)) = (decide (ar 3 i = 1) && decide (sf < ar 2 i))
    rw [a3, a4]
  refine ⟨⟨i1, i2, ?_, i4⟩, ⟨q, q, k, by omega, Nat.le_refl _, by omega, e2, e2, e3⟩, fun i u hu => ?_, fun i hi hi2 => ?_, ?_, ⟨by rw [hk2 8 (by decide) (by decide) (by decide)]; exact sm.b8, cls_17 c2 (fun v hv => by rw [d1 17 (by decide) (by decide)]; exact sm.b17 v hv)⟩, hv2⟩
  · rw [i3, List.length_map]; exact sm.i3
  · rw [List.getElem?_map] at hu
    cases ht : tl[i]? with
    | none => rw [ht] at hu; cases hu
    | some t =>
      rw [ht] at hu
      cases hu
      have hlt := (List.getElem?_eq_some_iff.mp ht).1
      have hb := sm.tx ht
      obtain ⟨a, lv, sn, se, sp, ha, ws, rs, ps⟩ := t
      obtain ⟨⟨a1, a2, a3, a4, a5, a6, a7, a8⟩, b1, b2, ⟨x, hx, b3⟩, b4, b5, b6, b7, b8, b9, b10, b11⟩ := hb
      have cw : ∀ k : Nat, ar2 6 (600 * i + k) = ar 6 (600 * i + k) ∧ ar2 7 (600 * i + k) = ar 7 (600 * i + k) ∧ ar2 8 (600 * i + k) = ar 8 (600 * i + k) := fun k => by rw [hk2 6 (by decide) (by decide) (by decide), hk2 7 (by decide) (by decide) (by decide), hk2 8 (by decide) (by decide) (by decide)]; exact ⟨rfl, rfl, rfl⟩
      have s3 := d2 i
      have s9 := d3 i
      rw [if_pos hlt, crS, ← m3, ← a3] at s3
      rw [← m9, ← a3] at s9
      have fin : ∀ (se' : Int32), se' = ar2 3 i → se' ≠ 0 → ar2 9 i = 0 → txS ar2 i (N + 1) (known (kl.map (craK sf))) (a, lv, sn, se', sp, ha, ws, rs, []) := fun se' h3 hne h9 => ⟨⟨by rw [hk2 0 (by decide) (by decide) (by decide)]; exact a1, by rw [hk2 1 (by decide) (by decide) (by decide)]; exact a2, h3, by rw [hk2 2 (by decide) (by decide) (by decide)]; exact a4, by rw [hk2 4 (by decide) (by decide) (by decide)]; exact a5, by rw [hk2 5 (by decide) (by decide) (by decide)]; exact a6, by rw [hk2 11 (by decide) (by decide) (by decide)]; exact a7, h9⟩, b1, b2, ⟨x, by omega, b3⟩, fun z => absurd z hne, fun _ => rfl, by omega, by omega, Nat.zero_le _, wRel_mono hkn (wRel_congr (fun k _ => cw k) b9), rRel_congr (fun k _ => by rw [hk2 12 (by decide) (by decide) (by decide), hk2 13 (by decide) (by decide) (by decide)]; exact ⟨rfl, rfl⟩) b10, trivial⟩
      rw [craT]
      by_cases z0 : se = 0
      · rw [if_pos (show ctS (a, lv, sn, se, sp, ha, ws, rs, ps) = 0 from z0)]
        rw [if_pos z0] at s3
        rw [if_pos ⟨hlt, z0⟩] at s9
        exact fin 2 s3.symm (by decide) s9
      · rw [if_neg (show ¬ ctS (a, lv, sn, se, sp, ha, ws, rs, ps) = 0 from z0)]
        rw [if_neg z0] at s3
        rw [if_neg (fun y => z0 y.2)] at s9
        have hps := b5 z0
        subst hps
        have h90 : ar2 9 i = 0 := by rw [s9]; exact a8
        by_cases z1 : se = 1 ∧ sf < sp
        · rw [if_pos (show ctS (a, lv, sn, se, sp, ha, ws, rs, []) = 1 ∧ sf < sp from z1)]
          rw [if_pos (by rw [later, ← a3, ← a4, decide_eq_true z1.1, decide_eq_true z1.2]; rfl)] at s3
          exact fin 3 s3.symm (by decide) h90
        · rw [if_neg (show ¬ (ctS (a, lv, sn, se, sp, ha, ws, rs, []) = 1 ∧ sf < sp) from z1)]
          rw [if_neg (by
            rw [later, ← a3, ← a4, Bool.and_eq_true, decide_eq_true_eq, decide_eq_true_eq]
            exact z1)] at s3
          exact fin se s3.symm z0 h90
  · rw [List.length_map] at hi
    have hz := sm.z i hi hi2
    have s3 := d2 i
    have s9 := d3 i
    rw [if_neg (by omega)] at s3
    rw [if_neg (by omega)] at s9
    exact ⟨by rw [m3, s3]; exact hz.1, by rw [hk2 4 (by decide) (by decide) (by decide)]; exact hz.2.1, by rw [hk2 5 (by decide) (by decide) (by decide)]; exact hz.2.2.1, by rw [m9, s9]; exact hz.2.2.2.1, by rw [hk2 11 (by decide) (by decide) (by decide)]; exact hz.2.2.2.2⟩
  · rw [cra_open]
    omega
end JF
