-- class and reference, call by call: save, back, abort, commit
section JD
variable {l : Launch} {g : GG} {s ta m : Nat} {ad : Nat → Nat} {N : Nat}
variable {ck sf nt : Int32} {kl : LK} {tl : List CT} {iv : MI} {ar : MA} {nv : Nat}
theorem Sim.set' (s : Sim N ck sf nt kl tl iv ar nv) (hN : N ≤ 512) {iv' : MI} {ar' : MA} {kl' : LK} {ck' : Int32} {i nv' : Nat} {t t' : CT} (ht : tl[i]? = some t) (hi1 : iv' 1 = ck') (hi2 : iv' 2 = sf) (hi3 : iv' 3 = iv 3) (hi4 : iv' 4 = nI nv') (hn : ck' = ck ∨ ck' = ck + 1) (hr : ∀ j, j ≠ i → rowEq ar ar' j) (hk : ∀ n, known kl n → known kl' n) (hv : VSim kl' (vlist ar' nv')) (ht' : txS ar' i (N + 1) (known kl') t') (ho : nv' + opn1 t' ≤ nv + opn1 t + 1) (h8 : ∀ j, ar' 8 j = 0 ∨ ar' 8 j = 1) (h17 : ∀ j, j < nv' → ar' 17 j = 0 ∨ ar' 17 j = 1) : Sim (N + 1) ck' sf nt kl' (tl.set i t') iv' ar' nv' := by
  obtain ⟨c, q, k, h1, h2, h3, e1, e2, e3⟩ := s.ns
  have hi : i < tl.length := (List.getElem?_eq_some_iff.mp ht).1
  refine ⟨⟨hi1, hi2, ?_, hi4⟩, ?_, fun j u hu => ?_, fun j hj hj2 => ?_, ?_, ⟨h8, h17⟩, hv⟩
  · rw [List.length_set]; exact hi3.trans s.i3
  · rcases hn with rfl | rfl
    · exact ⟨c, q, k, by omega, h2, by omega, e1, e2, e3⟩
    · exact ⟨c + 1, q, k, by omega, by omega, by omega, by rw [e1]; exact nI_1 c, e2, e3⟩
  · by_cases e : j = i
    · subst e
      rw [List.getElem?_set_self hi] at hu
      cases hu
      exact ht'
    · rw [List.getElem?_set_ne (fun z => e z.symm)] at hu
      exact txS_row (by omega) hN hk (hr j e) (s.tx hu)
  · rw [List.length_set] at hj
    exact z0_row (hr j (by omega)) (s.z j hj hj2)
  · have := openSum_set (t' := t') ht
    have := s.n
    omega
-- save, back
theorem cpcnt_rel {i b : Nat} {P : Int32 → Prop} : ∀ {ps : CP}, pRel ar i P b ps → cpcnt ps = nI ps.length
  | [], _ => rfl
  | (_, n, _) :: t, h => by
    show n + 1 = nI (t.length + 1)
    rw [h.1, nI_1]
theorem cpdrop_some {i : Nat} {P : Int32 → Prop} {pl : Int32} {x : Nat × Int32 × LW} {ps' : CP} : ∀ {b : Nat} {ps : CP}, pRel ar i P b ps → cpdrop pl ps = x :: ps' → pRel ar i P b (x :: ps') ∧ ps'.length < ps.length ∧ x.2.1 = pl
  | _, [], _, h => by cases h
  | b, (a, n, wl) :: t, h, e => by
    rw [cpdrop, List.dropWhile_cons] at e
    by_cases q : n = pl
    · rw [if_neg (by simp [q])] at e
      cases e
      exact ⟨h, by simp, q⟩
    · rw [if_pos (by simp [q])] at e
      have ih := cpdrop_some h.2.2.2.2 e
      exact ⟨pRel_b h.2.2.1 ih.1, by rw [List.length_cons]; omega, ih.2.2⟩
theorem cpdrop_none {i : Nat} {P : Int32 → Prop} {pl : Int32} : ∀ {b : Nat} {ps : CP}, pRel ar i P b ps → cpdrop pl ps = [] → ∀ q, q < ps.length → pl ≠ nI q
  | _, [], _, _, q, hq => absurd hq (Nat.not_lt_zero _)
  | b, (a, n, wl) :: t, h, e, q, hq => by
    rw [cpdrop, List.dropWhile_cons] at e
    by_cases z : n = pl
    · rw [if_neg (by simp [z])] at e; cases e
    · rw [if_pos (by simp [z])] at e
      by_cases w : q = t.length
      · subst w; rw [← h.1]; exact fun y => z y.symm
      · exact cpdrop_none h.2.2.2.2 e q (by rw [List.length_cons] at hq; omega)
theorem s_save (hN : N < 512) (t : Int32) : JS l g s ta m ad N T_S_save T_M_save kI eI cdI [.int t] := by
  rintro hc hm k0 ⟨ck, sf, nt, kl, tl, iv, ar, nv, w, wm, sm, rfl⟩
  refine ⟨_, _, fun N0 => c_S_save l g N0 hc t w, ?_, ?_⟩
  · rintro v h' ⟨r, rfl, u, i, rfl, hu, hs0, hcp, rfl, q, w'⟩
    have hlt := (List.getElem?_eq_some_iff.mp hu).1
    have := w.len
    have hb := sm.tx hu
    have hst : ar 3 i = 0 := by rw [← ctS_a (sm.tx hu)]; exact hs0
    have hpc := pcF_t hu
    have hwc := wcF_t hu
    obtain ⟨a, lv, sn, se, sp, ha, ws, rs, ps⟩ := u
    obtain ⟨⟨a1, a2, a3, a4, a5, a6, a7, a8⟩, b1, b2, b3, b4, b5, b6, b7, b8, b9, b10, b11⟩ := hb
    rw [show ctP (a, lv, sn, se, sp, ha, ws, rs, ps) = ps from rfl] at hcp hpc ⊢
    rw [show ctW (a, lv, sn, se, sp, ha, ws, rs, ps) = ws from rfl] at hwc
    rw [cpcnt_rel b11] at hcp ⊢
    have hp20 : ps.length < 20 := (nI_ltI (b := 20) (by omega) (by decide)).mp hcp
    refine ⟨_, rfl, ⟨_, rfl⟩, _, fun N0 => c_M_save l g N0 hm (MB_of w sm (by omega)) hlt hst (by rw [hpc]; exact hp20) wm, ?_⟩
    rintro v h'' ⟨r, rfl, rfl, iv', wm', hi0, hi4⟩
    rw [hpc, hwc] at wm'
    refine ⟨by rw [hpc], _, _, _, _, _, _, _, nv, w', wm', ?_, hi0⟩
    have e9 : mSave ar i ps.length ws.length 9 = upd (ar 9) i (nI (ps.length + 1)) := by simp (decide := true) only [mSave, aU_s, aU_n]
    have e10 : mSave ar i ps.length ws.length 10 = upd (ar 10) (20 * i + ps.length) (nI ws.length) := by simp (decide := true) only [mSave, aU_s, aU_n]
    have mk : ∀ k, k ≠ 9 → k ≠ 10 → mSave ar i ps.length ws.length k = ar k := fun k h1 h2 => by rw [mSave, aU_n _ _ h1, aU_n _ _ h2]
    refine sm.set (by omega) hu hi4 (Or.inl rfl) (fun j hj => ?_) (fun _ z => z) (by rw [vlist_congr (fun k h1 h2 => mk k (by omega) (by omega))]; exact sm.v) ?_ (Nat.le_succ _) (by rw [mk 8 (by decide) (by decide)]; exact sm.b8) (mk 17 (by decide) (by decide))
    · exact rowEq_1 (rowEq_10 (rowEq.refl ar j) (fun x hx => pk_un (by omega))) (by omega) (pk_un (by omega))
    · have cw : ∀ k : Nat, mSave ar i ps.length ws.length 6 (600 * i + k) = ar 6 (600 * i + k) ∧ mSave ar i ps.length ws.length 7 (600 * i + k) = ar 7 (600 * i + k) ∧ mSave ar i ps.length ws.length 8 (600 * i + k) = ar 8 (600 * i + k) := fun k => by rw [mk 6 (by decide) (by decide), mk 7 (by decide) (by decide), mk 8 (by decide) (by decide)]; exact ⟨rfl, rfl, rfl⟩
      refine ⟨⟨by rw [mk 0 (by decide) (by decide)]; exact a1, by rw [mk 1 (by decide) (by decide)]; exact a2, by rw [mk 3 (by decide) (by decide)]; exact a3, by rw [mk 2 (by decide) (by decide)]; exact a4, by rw [mk 4 (by decide) (by decide)]; exact a5, by rw [mk 5 (by decide) (by decide)]; exact a6, by rw [mk 11 (by decide) (by decide)]; exact a7, by rw [e9, pk_us]; rfl⟩, b1, b2, ?_, b4, fun z => absurd (show se = 0 from hs0) z, by omega, by omega, by rw [List.length_cons]; omega, wRel_congr (fun k _ => cw k) b9, rRel_congr (fun k _ => by rw [mk 12 (by decide) (by decide), mk 13 (by decide) (by decide)]; exact ⟨rfl, rfl⟩) b10, ⟨cpcnt_rel b11, by rw [e10, pk_us], Nat.le_refl _, wRel_congr (fun k _ => cw k) b9, ?_⟩⟩
      · obtain ⟨x, hx, e⟩ := b3; exact ⟨x, by omega, e⟩
      · exact pRel_congr (fun k _ => cw k) (fun k hk => by rw [e10]; exact pk_un (by omega)) b11
  · rintro E h' (hx | ⟨rfl, ⟨u, hu, hs0, hcp⟩, rfl⟩)
    · obtain ⟨o1, o2, o3⟩ := opn_x w.len sm hx
      obtain ⟨_, rfl⟩ := hx
      refine ⟨o3, o2, _, fun N0 => c_M_save_no l g N0 hm t sm.i3 w.len (by rw [o1]; exact o2) wm, ?_⟩
      rintro v h'' ⟨r, rfl, wm'⟩
      exact ⟨⟨_, rfl, _, rfl⟩, _, _, _, _, _, _, _, nv, w, wm', sm.num (by omega) (fun i h1 _ => iU_n _ _ (by omega)), by rw [iU_s, o1]⟩
    · obtain ⟨i, rfl, -, hu⟩ := txAt_s hu
      have hlt := (List.getElem?_eq_some_iff.mp hu).1
      have hb := sm.tx hu
      have hpc := pcF_t hu
      have hst : ar 3 i = 0 := by rw [← ctS_a (sm.tx hu)]; exact hs0
      have hp20 : pcF tl i = 20 := by
        rw [hpc]
        obtain ⟨a, lv, sn, se, sp, ha, ws, rs, ps⟩ := u
        obtain ⟨⟨a1, a2, a3, a4, a5, a6, a7, a8⟩, b1, b2, b3, b4, b5, b6, b7, b8, b9, b10, b11⟩ := hb
        rw [show ctP (a, lv, sn, se, sp, ha, ws, rs, ps) = ps from rfl, cpcnt_rel b11] at hcp
        show ps.length = 20
        have : ¬ ps.length < 20 := fun z => hcp (nI_lt (b := 20) z (by decide))
        omega
      refine ⟨by decide, by decide, _, fun N0 => c_M_save_full l g N0 hm (MB_of w sm (by omega)) hlt hst hp20 wm, ?_⟩
      rintro v h'' ⟨r, rfl, iv', wm', hi0, hi4⟩
      exact ⟨⟨_, rfl, _, rfl⟩, _, _, _, _, _, _, _, nv, w, wm', sm.num (by omega) hi4, hi0⟩
theorem s_back (hN : N < 512) (t pl : Int32) : JS l g s ta m ad N T_S_back T_M_back kI eJ cdI [.int t, .int pl] := by
  rintro hc hm k0 ⟨ck, sf, nt, kl, tl, iv, ar, nv, w, wm, sm, rfl⟩
  refine ⟨_, _, fun N0 => c_S_back l g N0 hc t pl w, ?_, ?_⟩
  · rintro v h' ⟨r, rfl, u, i, b, wl, ps', rfl, hu, hs0, hcd, rfl, w'⟩
    have hlt := (List.getElem?_eq_some_iff.mp hu).1
    have := w.len
    have hb := sm.tx hu
    have hst : ar 3 i = 0 := by rw [← ctS_a (sm.tx hu)]; exact hs0
    have hpc := pcF_t hu
    have hwc := wcF_t hu
    obtain ⟨a, lv, sn, se, sp, ha, ws, rs, ps⟩ := u
    obtain ⟨⟨a1, a2, a3, a4, a5, a6, a7, a8⟩, b1, b2, b3, b4, b5, b6, b7, b8, b9, b10, b11⟩ := hb
    rw [show ctP (a, lv, sn, se, sp, ha, ws, rs, ps) = ps from rfl] at hcd hpc
    obtain ⟨d1, d2, d3⟩ := cpdrop_some b11 hcd
    obtain ⟨p1, p2, p3, p4, p5⟩ := d1
    subst p1
    refine ⟨_, rfl, ⟨_, rfl⟩, _, fun N0 => c_M_back l g N0 hm (p := ps'.length) (q := wl.length) (MB_of w sm (by omega)) hlt hst (by rw [hpc]; exact d2) p2 (by omega) wm, ?_⟩
    rintro v h'' ⟨r, rfl, rfl, iv', wm', hi0, hi4⟩
    refine ⟨by rw [wkeys_rel p4], _, _, _, _, _, _, _, nv, w', wm', ?_, hi0⟩
    have e9 : mBack ar i ps'.length wl.length 9 = upd (ar 9) i (nI (ps'.length + 1)) := by simp (decide := true) only [mBack, aU_s, aU_n]
    have e5 : mBack ar i ps'.length wl.length 5 = upd (ar 5) i (nI wl.length) := by simp (decide := true) only [mBack, aU_s, aU_n]
    have mk : ∀ k, k ≠ 5 → k ≠ 9 → mBack ar i ps'.length wl.length k = ar k := fun k h1 h2 => by rw [mBack, aU_n _ _ h2, aU_n _ _ h1]
    have cw : ∀ k : Nat, mBack ar i ps'.length wl.length 6 (600 * i + k) = ar 6 (600 * i + k) ∧ mBack ar i ps'.length wl.length 7 (600 * i + k) = ar 7 (600 * i + k) ∧ mBack ar i ps'.length wl.length 8 (600 * i + k) = ar 8 (600 * i + k) := fun k => by rw [mk 6 (by decide) (by decide), mk 7 (by decide) (by decide), mk 8 (by decide) (by decide)]; exact ⟨rfl, rfl, rfl⟩
    refine sm.set (by omega) hu hi4 (Or.inl rfl) (fun j hj => ?_) (fun _ z => z) (by rw [vlist_congr (fun k h1 h2 => mk k (by omega) (by omega))]; exact sm.v) ?_ ?_ (by rw [mk 8 (by decide) (by decide)]; exact sm.b8) (mk 17 (by decide) (by decide))
    · exact rowEq_1 (rowEq_1 (rowEq.refl ar j) (by omega) (pk_un (by omega))) (by omega) (pk_un (by omega))
    · refine ⟨⟨by rw [mk 0 (by decide) (by decide)]; exact a1, by rw [mk 1 (by decide) (by decide)]; exact a2, by rw [mk 3 (by decide) (by decide)]; exact a3, by rw [mk 2 (by decide) (by decide)]; exact a4, by rw [mk 4 (by decide) (by decide)]; exact a5, by rw [e5, pk_us], by rw [mk 11 (by decide) (by decide)]; exact a7, by rw [e9, pk_us]; rfl⟩, b1, b2, ?_, b4, fun z => absurd (show se = 0 from hs0) z, by omega, by omega, by rw [List.length_cons]; omega, wRel_congr (fun k _ => cw k) p4, rRel_congr (fun k _ => by rw [mk 12 (by decide) (by decide), mk 13 (by decide) (by decide)]; exact ⟨rfl, rfl⟩) b10, ⟨rfl, by rw [mk 10 (by decide) (by decide)]; exact p2, Nat.le_refl _, wRel_congr (fun k _ => cw k) p4, pRel_congr (fun k _ => cw k) (fun k _ => by rw [mk 10 (by decide) (by decide)]) p5⟩⟩
      obtain ⟨x, hx, e⟩ := b3; exact ⟨x, by omega, e⟩
    · show (if se = 0 then wl.length else 0) ≤ (if se = 0 then ws.length else 0) + 1
      rw [if_pos (show se = 0 from hs0), if_pos (show se = 0 from hs0)]
      omega
  · rintro E h' (hx | ⟨rfl, ⟨u, hu, hs0, hcd⟩, rfl⟩)
    · obtain ⟨o1, o2, o3⟩ := opn_x w.len sm hx
      obtain ⟨_, rfl⟩ := hx
      refine ⟨eJ_of o3, o2, _, fun N0 => c_M_back_no l g N0 hm t pl sm.i3 w.len (by rw [o1]; exact o2) wm, ?_⟩
      rintro v h'' ⟨r, rfl, wm'⟩
      exact ⟨⟨_, rfl, _, rfl⟩, _, _, _, _, _, _, _, nv, w, wm', sm.num (by omega) (fun i h1 _ => iU_n _ _ (by omega)), by rw [iU_s, o1]⟩
    · obtain ⟨i, rfl, -, hu⟩ := txAt_s hu
      have hlt := (List.getElem?_eq_some_iff.mp hu).1
      have hb := sm.tx hu
      have hpc := pcF_t hu
      have hst : ar 3 i = 0 := by rw [← ctS_a (sm.tx hu)]; exact hs0
      have hno : ¬ ∃ q, q < pcF tl i ∧ pl = nI q := by
        rw [hpc]
        obtain ⟨a, lv, sn, se, sp, ha, ws, rs, ps⟩ := u
        rintro ⟨q, h1, h2⟩
        exact cpdrop_none hb.2.2.2.2.2.2.2.2.2.2.2 hcd q h1 h2
      refine ⟨by decide, by decide, _, fun N0 => c_M_back_none l g N0 hm pl (MB_of w sm (by omega)) hlt hst hno wm, ?_⟩
      rintro v h'' ⟨r, rfl, iv', wm', hi0, hi4⟩
      exact ⟨⟨_, rfl, _, rfl⟩, _, _, _, _, _, _, _, nv, w, wm', sm.num (by omega) hi4, hi0⟩
-- a transaction ends without a commit
theorem end_rel (sm : Sim N ck sf nt kl tl iv ar nv) (hN : N < 512) {iv' : MI} {ar' : MA} {i : Nat} {t : CT} (hu : tl[i]? = some t) (hs0 : ctS t = 0) (h : ∀ i, 1 ≤ i → i ≤ 4 → iv' i = iv i) (h3 : ar' 3 = upd (ar 3) i 2) (h9 : ar' 9 = upd (ar 9) i 0) (h4 : ar' 4 = upd (ar 4) i 0 ∨ ar' 4 = ar 4) (hk : ∀ k, k ≠ 3 → k ≠ 4 → k ≠ 9 → ar' k = ar k) : Sim (N + 1) ck sf nt kl (tl.set i (endT 2 t)) iv' ar' nv := by
  have hb := sm.tx hu
  obtain ⟨a, lv, sn, se, sp, ha, ws, rs, ps⟩ := t
  obtain ⟨⟨a1, a2, a3, a4, a5, a6, a7, a8⟩, b1, b2, b3, b4, b5, b6, b7, b8, b9, b10, b11⟩ := hb
  have hse : se = 0 := hs0
  have h4' : ∀ j, ar' 4 j = ar 4 j := fun j => by
    rcases h4 with e | e
    · rw [e]
      by_cases q : j = i
      · rw [q, pk_us, ← a5, b4 hse]
      · rw [pk_un q]
    · rw [e]
  have mk : ∀ k, k ≠ 3 → k ≠ 9 → ∀ j, ar' k j = ar k j := fun k k3 k9 j => by
    by_cases q : k = 4
    · rw [q]; exact h4' j
    · rw [hk k k3 q k9]
  refine sm.set (by omega) hu h (Or.inl rfl) (fun j hj => ⟨fun k hk1 => ?_, fun k hk1 q hq => mk k (by omega) (by omega) _, fun q hq => mk 10 (by decide) (by decide) _⟩) (fun _ z => z) (by rw [vlist_congr (fun k h1 h2 => hk k (by omega) (by omega) (by omega))]; exact sm.v) ?_ ?_ (fun j => by rw [mk 8 (by decide) (by decide)]; exact sm.b8 j) (hk 17 (by decide) (by decide) (by decide))
  · by_cases k3 : k = 3
    · rw [k3, h3, pk_un hj]
    · by_cases k9 : k = 9
      · rw [k9, h9, pk_un hj]
      · exact mk k k3 k9 j
  · refine ⟨⟨by rw [mk 0 (by decide) (by decide)]; exact a1, by rw [mk 1 (by decide) (by decide)]; exact a2, by rw [h3, pk_us], by rw [mk 2 (by decide) (by decide)]; exact a4, by rw [h4']; exact a5, by rw [mk 5 (by decide) (by decide)]; exact a6, by rw [mk 11 (by decide) (by decide)]; exact a7, by rw [h9, pk_us]; rfl⟩, b1, b2, ?_, fun _ => b4 hse, fun _ => rfl, by omega, by omega, Nat.zero_le _, wRel_congr (fun k _ => ⟨mk 6 (by decide) (by decide) _, mk 7 (by decide) (by decide) _, mk 8 (by decide) (by decide) _⟩) b9, rRel_congr (fun k _ => ⟨mk 12 (by decide) (by decide) _, mk 13 (by decide) (by decide) _⟩) b10, trivial⟩
    obtain ⟨x, hx, e⟩ := b3; exact ⟨x, by omega, e⟩
  · show (if (2 : Int32) = 0 then ws.length else 0) ≤ _
    rw [if_neg (by decide)]
    exact Nat.zero_le _
theorem mEnd_3 (ar : MA) (t : Nat) (x : Int32) : mEnd ar t x 3 = upd (ar 3) t x := by simp (decide := true) only [mEnd, aU_s, aU_n]
theorem mEnd_9 (ar : MA) (t : Nat) (x : Int32) : mEnd ar t x 9 = upd (ar 9) t 0 := by simp (decide := true) only [mEnd, aU_s, aU_n]
theorem mEnd_k {ar : MA} {t : Nat} {x : Int32} {k : Nat} (h3 : k ≠ 3) (h9 : k ≠ 9) : mEnd ar t x k = ar k := by rw [mEnd, aU_n _ _ h9, aU_n _ _ h3]
theorem s_abort (hN : N < 512) (t : Int32) : JS l g s ta m ad N T_S_abort T_M_abort kI eI cdI [.int t] := by
  rintro hc hm k0 ⟨ck, sf, nt, kl, tl, iv, ar, nv, w, wm, sm, rfl⟩
  refine ⟨_, _, fun N0 => c_S_abort l g N0 hc t w, ?_, ?_⟩
  · rintro v h' ⟨r, rfl, u, i, rfl, hu, hs0, rfl, w'⟩
    have hlt := (List.getElem?_eq_some_iff.mp hu).1
    have hst : ar 3 i = 0 := by rw [← ctS_a (sm.tx hu)]; exact hs0
    have hwk : wkeys (ctW u) = nI (kOf ar i (wcF tl i)) := by
      rw [wcF_t hu]
      have hb := sm.tx hu
      obtain ⟨a, lv, sn, se, sp, ha, ws, rs, ps⟩ := u
      exact wkeys_rel hb.2.2.2.2.2.2.2.2.2.1
    refine ⟨_, rfl, ⟨_, rfl⟩, _, fun N0 => c_M_abort l g N0 hm (MB_of w sm (by omega)) hlt hst wm, ?_⟩
    rintro v h'' ⟨r, rfl, rfl, wm'⟩
    exact ⟨by rw [hwk], _, _, _, _, _, _, _, nv, w', wm', end_rel sm hN hu hs0 (fun i h1 _ => iU_n _ _ (by omega)) (mEnd_3 _ _ _) (mEnd_9 _ _ _) (Or.inr (mEnd_k (by decide) (by decide))) (fun k h3 h4 h9 => mEnd_k h3 h9), iU_s _ _ _⟩
  · rintro E h' hx
    obtain ⟨o1, o2, o3⟩ := opn_x w.len sm hx
    obtain ⟨_, rfl⟩ := hx
    refine ⟨o3, o2, _, fun N0 => c_M_abort_no l g N0 hm t sm.i3 w.len (by rw [o1]; exact o2) wm, ?_⟩
    rintro v h'' ⟨r, rfl, wm'⟩
    exact ⟨⟨_, rfl, _, rfl⟩, _, _, _, _, _, _, _, nv, w, wm', sm.num (by omega) (fun i h1 _ => iU_n _ _ (by omega)), by rw [iU_s, o1]⟩
end JD
