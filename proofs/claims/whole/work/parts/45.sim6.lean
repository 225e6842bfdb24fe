-- class and reference, call by call: write, erase, sum, key
theorem placed_known {n : Int32} {kl kl' : LK} (h : placed n kl kl') : known kl' n ∧ ∀ m, known kl m → known kl' m := by
  rcases h with ⟨h1, rfl⟩ | ⟨h1, q, rfl⟩
  · refine ⟨?_, fun _ z => z⟩
    cases h2 : kfind n kl' with
    | none => exact absurd h2 h1
    | some k => exact ⟨k, (kfind_some h2).1, (kfind_some h2).2⟩
  · exact ⟨⟨_, kins_mem.mpr (Or.inl rfl), rfl⟩, fun m ⟨k, hk, e⟩ => ⟨k, kins_mem.mpr (Or.inr hk), e⟩⟩
theorem placed_v {n : Int32} {kl kl' : LK} {rl : List RW} (h : placed n kl kl') (v : VSim kl rl) : VSim kl' rl := by
  refine ⟨fun k hk => ?_, fun r hr => (placed_known h).2 _ (v.2 r hr)⟩
  rcases h with ⟨h1, rfl⟩ | ⟨h1, q, rfl⟩
  · exact v.1 k hk
  · rcases kins_mem.mp hk with rfl | hk
    · have : rl.filter (fun r => decide (r.1 = n)) = [] := by
        rw [List.filter_eq_nil_iff]
        intro r hr z
        exact kfind_none h1 (by rw [← of_decide_eq_true z]; exact v.2 r hr)
      dsimp only
      rw [this]; rfl
    · exact v.1 k hk
section JC
variable {l : Launch} {g : GG} {s ta m : Nat} {ad : Nat → Nat} {N : Nat}
theorem put_rel (hN : N < 512) {ck sf nt : Int32} {kl kl' : LK} {tl : List CT} {iv iv' : MI} {ar : MA} {nv i q : Nat} {t : CT} {key v e : Int32} {ct : Int64} (sm : Sim N ck sf nt kl tl iv ar nv) (hi2 : i < 120) (ht : tl[i]? = some t) (h0 : ctS t = 0) (hp : placed key kl kl') (hct : ct = ctn v e) (he : e = 0 ∨ e = 1) (h : ∀ i, 1 ≤ i → i ≤ 4 → iv' i = iv i) : putK key (ctW t) = nI (kOf (mPut ar i (wcF tl i) key v e) i (wcF tl i + 1)) ∧ Sim (N + 1) ck sf (nt + 1) kl' (tl.set i (putT key ct q t)) iv' (mPut ar i (wcF tl i) key v e) nv := by
  have hb := sm.tx ht
  rw [wcF_t ht]
  obtain ⟨a, lv, sn, se, sp, ha, ws, rs, ps⟩ := t
  obtain ⟨⟨a1, a2, a3, a4, a5, a6, a7, a8⟩, b1, b2, b3, b4, b5, b6, b7, b8, b9, b10, b11⟩ := hb
  rw [show ctW (a, lv, sn, se, sp, ha, ws, rs, ps) = ws from rfl]
  have e5 : mPut ar i ws.length key v e 5 = upd (ar 5) i (nI (ws.length + 1)) := by simp (decide := true) only [mPut, aU_s, aU_n]
  have e6 : mPut ar i ws.length key v e 6 = upd (ar 6) (600 * i + ws.length) key := by simp (decide := true) only [mPut, aU_s, aU_n]
  have e7 : mPut ar i ws.length key v e 7 = upd (ar 7) (600 * i + ws.length) v := by simp (decide := true) only [mPut, aU_s, aU_n]
  have e8 : mPut ar i ws.length key v e 8 = upd (ar 8) (600 * i + ws.length) e := by simp (decide := true) only [mPut, aU_s, aU_n]
  have mk : ∀ k, k < 5 ∨ 8 < k → mPut ar i ws.length key v e k = ar k := fun k hk => by rw [mPut, aU_n _ _ (by omega), aU_n _ _ (by omega), aU_n _ _ (by omega), aU_n _ _ (by omega)]
  have c6 : ∀ k, k < ws.length → mPut ar i ws.length key v e 6 (600 * i + k) = ar 6 (600 * i + k) ∧ mPut ar i ws.length key v e 7 (600 * i + k) = ar 7 (600 * i + k) ∧ mPut ar i ws.length key v e 8 (600 * i + k) = ar 8 (600 * i + k) := fun k hk => by
    rw [e6, e7, e8]
    exact ⟨pk_un (by omega), pk_un (by omega), pk_un (by omega)⟩
  obtain ⟨pk1, pk2⟩ := placed_known hp
  have hput : putK key ws = nI (kOf (mPut ar i ws.length key v e) i (ws.length + 1)) := by
    rw [kOf_s, kOf_congr (fun k hk => (c6 k hk).1), wOf_congr (fun k hk => (c6 k hk).1), e6, pk_us, putK, wkeys_rel b9]
    by_cases hw : wOf ar i ws.length key = none
    · rw [if_pos ((wdrop_nil b9).mpr hw), if_pos hw, nI_1]
    · rw [if_neg (fun z => hw ((wdrop_nil b9).mp z)), if_neg hw]
  refine ⟨hput, sm.set (by omega) ht h (Or.inr rfl) (fun j hj => ?_) pk2 (by rw [vlist_congr (fun k h1 h2 => mk k (by omega))]; exact placed_v hp sm.v) ?_ ?_ ?_ (mk 17 (by omega))⟩
  · exact rowEq_1 (rowEq_6 (rowEq_6 (rowEq_6 (rowEq.refl ar j) (by omega) (fun x hx => pk_un (by omega))) (by omega) (fun x hx => pk_un (by omega))) (by omega) (fun x hx => pk_un (by omega))) (by omega) (pk_un (by omega))
  · refine ⟨⟨by rw [mk 0 (by omega)]; exact a1, by rw [mk 1 (by omega)]; exact a2, by rw [mk 3 (by omega)]; exact a3, by rw [mk 2 (by omega)]; exact a4, by rw [mk 4 (by omega)]; exact a5, by rw [e5, pk_us]; rfl, by rw [mk 11 (by omega)]; exact a7, by rw [mk 9 (by omega)]; exact a8⟩, b1, b2, ?_, b4, b5, by simp only [List.length_cons]; omega, by omega, b8, ⟨by rw [e6, pk_us], by rw [e7, e8, pk_us, pk_us]; exact hct, hput, pk1, ?_⟩, ?_, ?_⟩
    · obtain ⟨x, hx, e⟩ := b3; exact ⟨x, by omega, e⟩
    · exact wRel_mono pk2 (wRel_congr c6 b9)
    · exact rRel_congr (fun k _ => by rw [mk 12 (by omega), mk 13 (by omega)]; exact ⟨rfl, rfl⟩) b10
    · exact pRel_mono pk2 (pRel_b (Nat.le_succ _) (pRel_congr c6 (fun k _ => by rw [mk 10 (by omega)]) b11))
  · show opn1 (a, lv, sn, se, sp, ha, _ :: ws, rs, ps) ≤ opn1 (a, lv, sn, se, sp, ha, ws, rs, ps) + 1
    have h0' : se = 0 := h0
    show (if se = 0 then ws.length + 1 else 0) ≤ (if se = 0 then ws.length else 0) + 1
    rw [if_pos h0', if_pos h0']
    exact Nat.le_refl _
  · intro j
    rw [e8]
    by_cases q : j = 600 * i + ws.length
    · rw [q, pk_us]; exact he
    · rw [pk_un q]; exact sm.b8 j
theorem wcF_N {ck sf nt : Int32} {kl : LK} {tl : List CT} {iv : MI} {ar : MA} {nv i : Nat} {t : CT} (sm : Sim N ck sf nt kl tl iv ar nv) (ht : tl[i]? = some t) : wcF tl i ≤ N := by
  have hb := sm.tx ht
  rw [wcF_t ht]
  obtain ⟨a, lv, sn, se, sp, ha, ws, rs, ps⟩ := t
  exact hb.2.2.2.2.2.2.1
theorem s_write (hN : N < 512) (t key x : Int32) : JS l g s ta m ad N T_S_write T_M_write kI eI cdI [.int t, .int key, .int x] := by
  rintro hc hm k0 ⟨ck, sf, nt, kl, tl, iv, ar, nv, w, wm, sm, rfl⟩
  obtain ⟨c, s0, k, h1, h2, h3, e1, e2, e3⟩ := sm.ns
  have hnt : nt < 512 := by rw [e3]; exact nI_lt (b := 512) (by omega) (by decide)
  refine ⟨_, _, fun N0 => c_S_write l g N0 hc t key x hnt w, ?_, ?_⟩
  · rintro v h' ⟨r, rfl, u, i, rfl, hu, hs0, rfl, kl', q, hpl, w'⟩
    have hlt := (List.getElem?_eq_some_iff.mp hu).1
    have := w.len
    have := wcF_N sm hu
    refine ⟨_, rfl, ⟨_, rfl⟩, _, fun N0 => c_M_write l g N0 hm key x (MB_of w sm (by omega)) hlt (by rw [← ctS_a (sm.tx hu)]; exact hs0) (by omega) wm, ?_⟩
    rintro v h'' ⟨r, rfl, rfl, wm'⟩
    have hr := put_rel (q := q) (v := x) (e := 0) (iv' := iU iv 0 0) hN sm (by omega) hu hs0 hpl (show x.toInt64 = ctn x 0 from rfl) (Or.inl rfl) (fun i h1 _ => iU_n _ _ (by omega))
    exact ⟨by rw [hr.1], _, _, _, _, _, _, _, nv, w', wm', hr.2, iU_s _ _ _⟩
  · rintro E h' hx
    obtain ⟨o1, o2, o3⟩ := opn_x w.len sm hx
    obtain ⟨_, rfl⟩ := hx
    refine ⟨o3, o2, _, fun N0 => c_M_write_no l g N0 hm t key x sm.i3 w.len (by rw [o1]; exact o2) wm, ?_⟩
    rintro v h'' ⟨r, rfl, wm'⟩
    exact ⟨⟨_, rfl, _, rfl⟩, _, _, _, _, _, _, _, nv, w, wm', sm.num (by omega) (fun i h1 _ => iU_n _ _ (by omega)), by rw [iU_s, o1]⟩
theorem s_erase (hN : N < 512) (t key : Int32) : JS l g s ta m ad N T_S_erase T_M_erase kI eI cdI [.int t, .int key] := by
  rintro hc hm k0 ⟨ck, sf, nt, kl, tl, iv, ar, nv, w, wm, sm, rfl⟩
  obtain ⟨c, s0, k, h1, h2, h3, e1, e2, e3⟩ := sm.ns
  have hnt : nt < 512 := by rw [e3]; exact nI_lt (b := 512) (by omega) (by decide)
  refine ⟨_, _, fun N0 => c_S_erase l g N0 hc t key hnt w, ?_, ?_⟩
  · rintro v h' ⟨r, rfl, u, i, rfl, hu, hs0, rfl, kl', q, hpl, w'⟩
    have hlt := (List.getElem?_eq_some_iff.mp hu).1
    have := w.len
    have := wcF_N sm hu
    refine ⟨_, rfl, ⟨_, rfl⟩, _, fun N0 => c_M_erase l g N0 hm key (MB_of w sm (by omega)) hlt (by rw [← ctS_a (sm.tx hu)]; exact hs0) (by omega) wm, ?_⟩
    rintro v h'' ⟨r, rfl, rfl, wm'⟩
    have hr := put_rel (q := q) (v := 0) (e := 1) (iv' := iU iv 0 0) hN sm (by omega) hu hs0 hpl (show (4294967296 : Int64) = ctn 0 1 from rfl) (Or.inr rfl) (fun i h1 _ => iU_n _ _ (by omega))
    exact ⟨by rw [hr.1], _, _, _, _, _, _, _, nv, w', wm', hr.2, iU_s _ _ _⟩
  · rintro E h' hx
    obtain ⟨o1, o2, o3⟩ := opn_x w.len sm hx
    obtain ⟨_, rfl⟩ := hx
    refine ⟨o3, o2, _, fun N0 => c_M_erase_no l g N0 hm t key sm.i3 w.len (by rw [o1]; exact o2) wm, ?_⟩
    rintro v h'' ⟨r, rfl, wm'⟩
    exact ⟨⟨_, rfl, _, rfl⟩, _, _, _, _, _, _, _, nv, w, wm', sm.num (by omega) (fun i h1 _ => iU_n _ _ (by omega)), by rw [iU_s, o1]⟩
-- sum, key
def seeL (sn : Int32) (ws : LW) (lo : Int32) (kl : LK) : List Int32 := (kl.filter (pSee sn ws lo)).map (fun k => k.2.1)
theorem ksorted_pw : ∀ {kl : LK}, ksorted kl → (kl.map (fun k => k.2.1)).Pairwise (· < ·)
  | [], _ => List.Pairwise.nil
  | (a, n, vs) :: t, ⟨h1, h2⟩ => by
    rw [List.map_cons]
    refine List.pairwise_cons.mpr ⟨fun b hb => ?_, ksorted_pw h2⟩
    obtain ⟨k, hk, rfl⟩ := List.mem_map.mp hb
    exact h1 k hk
theorem seeL_pw {sn : Int32} {ws : LW} {lo : Int32} {kl : LK} (h : ksorted kl) : (seeL sn ws lo kl).Pairwise (· < ·) := (ksorted_pw h).sublist (List.Sublist.map _ List.filter_sublist)
theorem ksum_hi {sn : Int32} {ws : LW} {lo hi : Int32} {acc : Int64} : ∀ {kl : LK}, (∀ k, k ∈ kl → ¬ k.2.1 ≤ hi) → ksum sn ws lo hi acc kl = acc
  | [], _ => rfl
  | (a, n, vs) :: t, h => by
    rw [ksum, if_neg (fun z => h _ (List.mem_cons_self ..) z.2)]
    exact ksum_hi (fun k hk => h k (List.mem_cons_of_mem _ hk))
theorem ksum_rel {sn : Int32} {ws : LW} {lo hi : Int32} {cM : Int32 → Int64} : ∀ {kl : LK} {acc : Int64}, ksorted kl → (∀ k, k ∈ kl → seenC sn ws k.2.1 k.2.2 = cM k.2.1) → ksum sn ws lo hi acc kl = sumR (fun n => voz (cM n)) hi acc (seeL sn ws lo kl)
  | [], _, _, _ => rfl
  | (a, n, vs) :: t, acc, ⟨h1, h2⟩, h => by
    have hh : seenC sn ws n vs = cM n := h _ (List.mem_cons_self ..)
    have ih := fun acc => ksum_rel (lo := lo) (hi := hi) (acc := acc) h2 (fun k hk => h k (List.mem_cons_of_mem _ hk))
    rw [ksum, seeL, List.filter_cons]
    by_cases e1 : lo ≤ n
    · by_cases e2 : cM n = 4294967296
      · have hp : pSee sn ws lo (a, n, vs) = false := by rw [pSee]; dsimp only; rw [hh, decide_eq_true e2]; simp
        rw [if_neg (show ¬ pSee sn ws lo (a, n, vs) = true by rw [hp]; decide), hh, e2, show (voz 4294967296).toInt64 = 0 from rfl, Int64.add_zero, ite_self]
        exact ih acc
      · have hp : pSee sn ws lo (a, n, vs) = true := by rw [pSee]; dsimp only; rw [hh, decide_eq_false e2, decide_eq_true e1]; rfl
        rw [if_pos hp, List.map_cons, sumR, hh]
        by_cases e3 : n ≤ hi
        · rw [if_pos ⟨e1, e3⟩, if_pos e3]
          exact ih _
        · rw [if_neg (fun z => e3 z.2), if_neg e3]
          refine ksum_hi (fun k hk z => ?_)
          exact e3 (Int32.le_trans (Int32.le_of_lt (h1 k hk)) z)
    · have hp : pSee sn ws lo (a, n, vs) = false := by rw [pSee]; dsimp only; rw [decide_eq_false e1]; rfl
      rw [if_neg (show ¬ pSee sn ws lo (a, n, vs) = true by rw [hp]; decide), if_neg (fun z => e1 z.1)]
      exact ih acc
theorem seeL_mem {ck sf nt : Int32} {kl : LK} {tl : List CT} {iv : MI} {ar : MA} {nv i : Nat} {ws : LW} (sm : Sim N ck sf nt kl tl iv ar nv) (hw : wRel ar i (known kl) ws) (lo n : Int32) : (seenM ar nv i ws.length n = true ∧ lo.toInt64 ≤ n.toInt64) ↔ n ∈ seeL (ar 1 i) ws lo kl := by
  rw [seenM_cont, Bool.not_eq_true', decide_eq_false_iff_not, seeL, List.mem_map]
  have hle : lo.toInt64 ≤ n.toInt64 ↔ lo ≤ n := by rw [l6_le, l6_i, l6_i, Int32.le_iff_toInt_le]
  rw [hle]
  constructor
  · rintro ⟨h1, h2⟩
    have hk : known kl n := Classical.byContradiction (fun z => h1 (contM_known sm.v hw z))
    obtain ⟨k, hk, rfl⟩ := hk
    refine ⟨k, List.mem_filter.mpr ⟨hk, ?_⟩, rfl⟩
    rw [pSee, seenC_cont sm.v hw hk, decide_eq_false h1, decide_eq_true h2]; rfl
  · rintro ⟨k, hk, rfl⟩
    obtain ⟨hk, hp⟩ := List.mem_filter.mp hk
    rw [pSee, seenC_cont sm.v hw hk, Bool.and_eq_true, Bool.not_eq_true', decide_eq_true_eq, decide_eq_false_iff_not] at hp
    exact ⟨hp.2, hp.1⟩
theorem s_sum (hN : N < 512) (t lo hi : Int32) : JS l g s ta m ad N T_S_sum T_M_sum kL eI cdI [.int t, .int lo, .int hi] := by
  rintro hc hm k0 ⟨ck, sf, nt, kl, tl, iv, ar, nv, w, wm, sm, rfl⟩
  obtain ⟨c, s0, k, h1, h2, h3, e1, e2, e3⟩ := sm.ns
  have hnt : nt < 512 := by rw [e3]; exact nI_lt (b := 512) (by omega) (by decide)
  refine ⟨_, _, fun N0 => c_S_sum l g N0 hc t lo hi hnt w, ?_, ?_⟩
  · rintro v h' ⟨r, rfl, u, i, ⟨rfl, hu, hs0, nt', tl', hrel, w'⟩, rfl⟩
    have hlt := (List.getElem?_eq_some_iff.mp hu).1
    have := w.len
    have hb := (sm.tx hu)
    have hwc := wcF_t hu
    have hst : ar 3 i = 0 := by rw [← ctS_a (sm.tx hu)]; exact hs0
    have hsum : ctSum kl lo hi u = sumR (valM ar nv i (wcF tl i)) hi 0 (seeL (ar 1 i) (ctW u) lo kl) := by
      rw [hwc]
      obtain ⟨a, lv, sn, se, sp, ha, ws, rs, ps⟩ := u
      obtain ⟨⟨a1, a2, a3, a4, a5, a6, a7, a8⟩, b1, b2, b3, b4, b5, b6, b7, b8, b9, b10, b11⟩ := hb
      show ksum sn ws lo hi 0 kl = sumR (valM ar nv i ws.length) hi 0 (seeL (ar 1 i) ws lo kl)
      rw [a2, ksum_rel (cM := contM ar nv i ws.length) w.ho (fun k hk => seenC_cont sm.v b9 hk)]
      congr 1
      funext n
      exact (valM_cont ar nv i ws.length n).symm
    have hw9 : wRel ar i (known kl) (ctW u) := by
      obtain ⟨a, lv, sn, se, sp, ha, ws, rs, ps⟩ := u
      exact hb.2.2.2.2.2.2.2.2.2.1
    refine ⟨_, rfl, ⟨_, rfl⟩, _, fun N0 => c_M_sum l g N0 hm lo hi (seeL_pw (ws := ctW u) (sn := ar 1 i) (lo := lo) w.ho) (by rw [hwc]; exact seeL_mem sm hw9 lo) (MB_of w sm (by omega)) hlt hst wm, ?_⟩
    rintro v h'' ⟨r, rfl, rfl, iv', wm', hi0, hi4⟩
    exact ⟨by rw [hsum], _, _, _, _, _, _, _, nv, w', wm', note_rel (hN := hN) sm (by omega) hu hrel hi4, hi0⟩
  · rintro E h' hx
    obtain ⟨o1, o2, o3⟩ := opn_x w.len sm hx
    obtain ⟨_, rfl⟩ := hx
    refine ⟨o3, o2, _, fun N0 => c_M_sum_no l g N0 hm t lo hi sm.i3 w.len (by rw [o1]; exact o2) wm, ?_⟩
    rintro v h'' ⟨r, rfl, wm'⟩
    exact ⟨⟨_, rfl, _, rfl⟩, _, _, _, _, _, _, _, nv, w, wm', sm.num (by omega) (fun i h1 _ => iU_n _ _ (by omega)), by rw [iU_s, o1]⟩
theorem key_rel {sn : Int32} {ws : LW} {lo : Int32} {kl : LK} (j : Nat) : keyAns ((kl.filter (pSee sn ws lo))[j]?) = nthK (seeL sn ws lo kl) j ∧ keyHi ((kl.filter (pSee sn ws lo))[j]?) = nthH (seeL sn ws lo kl) j := by
  rw [nthK, nthH, seeL, List.getElem?_map]
  cases (kl.filter (pSee sn ws lo))[j]? with
  | none => exact ⟨rfl, rfl⟩
  | some k => exact ⟨rfl, rfl⟩
theorem s_key (hN : N < 512) (t lo j : Int32) : JS l g s ta m ad N T_S_key T_M_key kL eJ cdI [.int t, .int lo, .int j] := by
  rintro hc hm k0 ⟨ck, sf, nt, kl, tl, iv, ar, nv, w, wm, sm, rfl⟩
  obtain ⟨c, s0, k, h1, h2, h3, e1, e2, e3⟩ := sm.ns
  have hnt : nt < 512 := by rw [e3]; exact nI_lt (b := 512) (by omega) (by decide)
  refine ⟨_, _, fun N0 => c_S_key l g N0 hc t lo j hnt w, ?_, ?_⟩
  · rintro v h' ⟨r, rfl, hj, u, i, ⟨rfl, hu, hs0, nt', tl', hrel, w'⟩, rfl⟩
    obtain ⟨jn, hjn, rfl⟩ := nI_of hj
    rw [nI_clamp hjn] at hrel ⊢
    have hlt := (List.getElem?_eq_some_iff.mp hu).1
    have := w.len
    have hb := (sm.tx hu)
    have hwc := wcF_t hu
    have hst : ar 3 i = 0 := by rw [← ctS_a (sm.tx hu)]; exact hs0
    have hkey : keyAns (ctKey kl lo jn u) = nthK (seeL (ar 1 i) (ctW u) lo kl) jn ∧ keyHi (ctKey kl lo jn u) = nthH (seeL (ar 1 i) (ctW u) lo kl) jn := by
      obtain ⟨a, lv, sn, se, sp, ha, ws, rs, ps⟩ := u
      obtain ⟨⟨a1, a2, a3, a4, a5, a6, a7, a8⟩, b1, b2, b3, b4, b5, b6, b7, b8, b9, b10, b11⟩ := hb
      rw [← a2]
      exact key_rel jn
    have hw9 : wRel ar i (known kl) (ctW u) := by
      obtain ⟨a, lv, sn, se, sp, ha, ws, rs, ps⟩ := u
      exact hb.2.2.2.2.2.2.2.2.2.1
    rw [hkey.2] at hrel
    rw [hkey.1]
    refine ⟨_, rfl, ⟨_, rfl⟩, _, fun N0 => c_M_key l g N0 hm lo hjn (seeL_pw (ws := ctW u) (sn := ar 1 i) (lo := lo) w.ho) (by rw [hwc]; exact seeL_mem sm hw9 lo) (MB_of w sm (by omega)) hlt hst wm, ?_⟩
    rintro v h'' ⟨r, rfl, rfl, iv', wm', hi0, hi4⟩
    exact ⟨rfl, _, _, _, _, _, _, _, nv, w', wm', note_rel (hN := hN) sm (by omega) hu hrel hi4, hi0⟩
  · rintro E h' (hx | ⟨rfl, ⟨u, hu, hs0⟩, hj, rfl⟩)
    · obtain ⟨o1, o2, o3⟩ := opn_x w.len sm hx
      obtain ⟨_, rfl⟩ := hx
      refine ⟨eJ_of o3, o2, _, fun N0 => c_M_key_no l g N0 hm t lo j sm.i3 w.len (by rw [o1]; exact o2) wm, ?_⟩
      rintro v h'' ⟨r, rfl, wm'⟩
      exact ⟨⟨_, rfl, _, rfl⟩, _, _, _, _, _, _, _, nv, w, wm', sm.num (by omega) (fun i h1 _ => iU_n _ _ (by omega)), by rw [iU_s, o1]⟩
    · obtain ⟨i, rfl, -, hu⟩ := txAt_s hu
      have hlt := (List.getElem?_eq_some_iff.mp hu).1
      refine ⟨by decide, by decide, _, fun N0 => c_M_key_neg l g N0 hm lo j sm.i3 w.len hlt (by rw [← ctS_a (sm.tx hu)]; exact hs0) hj wm, ?_⟩
      rintro v h'' ⟨r, rfl, iv', wm', hi0, hi4⟩
      exact ⟨⟨_, rfl, _, rfl⟩, _, _, _, _, _, _, _, nv, w, wm', sm.num (by omega) hi4, hi0⟩
end JC
