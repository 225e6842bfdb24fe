-- class and reference, call by call: begin, read, found, write, erase
abbrev T_S_begin : CtP := (y_S_begin, b_S_begin, 3, (some .int), 6, 90, 1, 8)
abbrev T_S_read : CtP := (y_S_read, b_S_read, 4, (some .int), 8, 134, 3, 15)
abbrev T_S_found : CtP := (y_S_found, b_S_found, 4, (some .boolean), 8, 134, 3, 15)
abbrev T_S_write : CtP := (y_S_write, b_S_write, 4, (some .int), 8, 135, 4, 19)
abbrev T_S_erase : CtP := (y_S_erase, b_S_erase, 3, (some .int), 8, 135, 4, 19)
abbrev T_S_sum : CtP := (y_S_sum, b_S_sum, 8, (some .long), 8, 134, 3, 15)
abbrev T_S_key : CtP := (y_S_key, b_S_key, 6, (some .long), 8, 134, 3, 18)
abbrev T_S_save : CtP := (y_S_save, b_S_save, 4, (some .int), 8, 134, 3, 18)
abbrev T_S_back : CtP := (y_S_back, b_S_back, 5, (some .int), 8, 134, 3, 18)
abbrev T_S_commit : CtP := (y_S_commit, b_S_commit, 4, (some .int), 8, 134, 514, 1548)
abbrev T_S_abort : CtP := (y_S_abort, b_S_abort, 3, (some .int), 8, 134, 2, 12)
abbrev T_S_vacuum : CtP := (y_S_vacuum, b_S_vacuum, 3, (some .int), 2, 51, 0, 0)
abbrev T_S_flush : CtP := (y_S_flush, b_S_flush, 2, (some .int), 0, 0, 0, 0)
abbrev T_S_crash : CtP := (y_S_crash, b_S_crash, 6, (some .int), 1, 22, 0, 0)
abbrev T_S_told : CtP := (y_S_told, b_S_told, 4, (some .int), 7, 112, 2, 12)
abbrev T_S_at : CtP := (y_S_at, b_S_at, 4, (some .int), 2, 45, 0, 0)
abbrev T_S_versions : CtP := (y_S_versions, b_S_versions, 3, (some .int), 2, 45, 0, 0)
abbrev T_S_count : CtP := (y_S_count, b_S_count, 2, (some .int), 3, 66, 0, 0)
abbrev T_S_astray : CtP := (y_S_astray, b_S_astray, 3, (some .int), 1, 22, 0, 0)
abbrev T_M_begin : CtP := (y_M_begin, b_M_begin, 2, (some .int), 0, 0, 0, 0)
abbrev T_M_read : CtP := (y_M_read, b_M_read, 3, (some .int), 3, 71, 0, 0)
abbrev T_M_found : CtP := (y_M_found, b_M_found, 3, (some .boolean), 3, 71, 0, 0)
abbrev T_M_write : CtP := (y_M_write, b_M_write, 4, (some .int), 3, 71, 0, 0)
abbrev T_M_erase : CtP := (y_M_erase, b_M_erase, 3, (some .int), 3, 71, 0, 0)
abbrev T_M_sum : CtP := (y_M_sum, b_M_sum, 8, (some .long), 4, 99, 0, 0)
abbrev T_M_key : CtP := (y_M_key, b_M_key, 7, (some .long), 4, 99, 0, 0)
abbrev T_M_save : CtP := (y_M_save, b_M_save, 2, (some .int), 2, 42, 0, 0)
abbrev T_M_back : CtP := (y_M_back, b_M_back, 3, (some .int), 2, 47, 0, 0)
abbrev T_M_commit : CtP := (y_M_commit, b_M_commit, 4, (some .int), 3, 69, 0, 0)
abbrev T_M_abort : CtP := (y_M_abort, b_M_abort, 2, (some .int), 3, 69, 0, 0)
abbrev T_M_vacuum : CtP := (y_M_vacuum, b_M_vacuum, 5, (some .int), 2, 48, 0, 0)
abbrev T_M_flush : CtP := (y_M_flush, b_M_flush, 2, (some .int), 0, 0, 0, 0)
abbrev T_M_crash : CtP := (y_M_crash, b_M_crash, 4, (some .int), 3, 69, 0, 0)
abbrev T_M_told : CtP := (y_M_told, b_M_told, 3, (some .int), 2, 47, 0, 0)
abbrev T_M_at : CtP := (y_M_at, b_M_at, 3, (some .int), 2, 48, 0, 0)
abbrev T_M_versions : CtP := (y_M_versions, b_M_versions, 4, (some .int), 0, 0, 0, 0)
abbrev T_M_count : CtP := (y_M_count, b_M_count, 6, (some .int), 1, 25, 0, 0)
abbrev T_M_astray : CtP := (y_M_astray, b_M_astray, 1, (some .int), 0, 0, 0, 0)
def cdB (E : String) : Int32 := if E = "java/lang/IllegalArgumentException" then 1 else 2
def cdI (E : String) : Int32 := if E = "java/lang/IndexOutOfBoundsException" then 1 else if E = "java/lang/IllegalStateException" then 2 else 3
def cdT (E : String) : Int32 := if E = "java/lang/IndexOutOfBoundsException" then 1 else 2
section RE
variable {ar ar1 : MA} {i k : Nat} {f : Nat → Int32}
theorem rowEq_1 (r : rowEq ar ar1 i) (hk : k < 6 ∨ k = 9 ∨ k = 11) (h : f i = ar k i) : rowEq ar (aU ar1 k f) i := by
  refine ⟨fun j hj => ?_, fun j hj q hq => by rw [aU_n _ _ (by omega)]; exact r.2.1 j hj q hq, fun q hq => by rw [aU_n _ _ (by omega)]; exact r.2.2 q hq⟩
  by_cases e : j = k
  · subst e; rw [aU_s]; exact h
  · rw [aU_n _ _ e]; exact r.1 j hj
theorem rowEq_6 (r : rowEq ar ar1 i) (hk : k = 6 ∨ k = 7 ∨ k = 8 ∨ k = 12 ∨ k = 13) (h : ∀ q, q < 600 → f (600 * i + q) = ar k (600 * i + q)) : rowEq ar (aU ar1 k f) i := by
  refine ⟨fun j hj => by rw [aU_n _ _ (by omega)]; exact r.1 j hj, fun j hj q hq => ?_, fun q hq => by rw [aU_n _ _ (by omega)]; exact r.2.2 q hq⟩
  by_cases e : j = k
  · subst e; rw [aU_s]; exact h q hq
  · rw [aU_n _ _ e]; exact r.2.1 j hj q hq
theorem rowEq_10 (r : rowEq ar ar1 i) (h : ∀ q, q < 20 → f (20 * i + q) = ar 10 (20 * i + q)) : rowEq ar (aU ar1 10 f) i :=
  ⟨fun j hj => by rw [aU_n _ _ (by omega)]; exact r.1 j hj, fun j hj q hq => by rw [aU_n _ _ (by omega)]; exact r.2.1 j hj q hq, fun q hq => by rw [aU_s]; exact h q hq⟩
end RE
theorem vlist_congr {ar ar' : MA} {n : Nat} (h : ∀ k, 14 ≤ k → k ≤ 17 → ar' k = ar k) : vlist ar' n = vlist ar n := by
  have : vrow ar' = vrow ar := by funext v; simp only [vrow, h 14 (by decide) (by decide), h 15 (by decide) (by decide), h 16 (by decide) (by decide), h 17 (by decide) (by decide)]
  rw [vlist, this]; rfl
theorem txAt_n {tl : List CT} {n : Int32} (hl : tl.length ≤ 120) (h : txAt tl n = none) : isTx tl.length n = false := by
  rw [Bool.eq_false_iff]
  intro z
  obtain ⟨i, hi, rfl⟩ := isTx_t (by omega) z
  rw [txAt, if_neg (nI_pos (by omega)), nI_clamp (by omega), List.getElem?_eq_getElem hi] at h
  cases h
theorem ctS_a {ar : MA} {i N : Nat} {P : Int32 → Prop} {t : CT} (h : txS ar i N P t) : ctS t = ar 3 i := by
  obtain ⟨a, lv, sn, se, sp, ha, ws, rs, ps⟩ := t
  exact h.1.2.2.1
/-- what isOpen notes where the class throws -/
theorem opn_x {N : Nat} {ck sf nt : Int32} {kl : LK} {tl : List CT} {iv : MI} {ar : MA} {nv : Nat} {n : Int32} {h h' : Mp} {E : String} (hl : tl.length ≤ 120) (s : Sim N ck sf nt kl tl iv ar nv) (hx : oXp tl n h E h') : opn tl.length (ar 3) n = cdI E ∧ cdI E ≠ 0 ∧ E ∈ eI := by
  rcases hx.1 with ⟨rfl, e⟩ | ⟨rfl, t, e, hs⟩
  · exact ⟨by rw [opn, if_neg (by rw [txAt_n hl e]; decide)]; rfl, by decide, List.mem_cons_self⟩
  · obtain ⟨i, rfl, -, hi⟩ := txAt_s e
    have hlt := (List.getElem?_eq_some_iff.mp hi).1
    refine ⟨?_, by decide, List.mem_cons_of_mem _ List.mem_cons_self⟩
    rw [opn, if_pos (isTx_i (by omega) hlt), nI_clamp (by omega), if_neg (by rw [← ctS_a (s.tx hi)]; exact hs)]
    rfl
section JB
variable {l : Launch} {g : GG} {s ta m : Nat} {ad : Nat → Nat} {N : Nat}
theorem s_begin (hN : N < 512) (lv : Int32) : JS l g s ta m ad N T_S_begin T_M_begin kI eB cdB [.int lv] := by
  rintro hc hm k0 ⟨ck, sf, nt, kl, tl, iv, ar, nv, w, wm, sm, rfl⟩
  refine ⟨_, _, fun N0 => c_S_begin l g N0 hc lv w, ?_, ?_⟩
  · rintro v h' ⟨r, rfl, hb, hlt, rfl, q, w'⟩
    refine ⟨_, rfl, ⟨_, rfl⟩, _, fun N0 => c_M_begin l g N0 hm lv sm.i3 hlt hb wm, ?_⟩
    rintro v h'' ⟨r, rfl, rfl, wm'⟩
    refine ⟨rfl, _, _, _, _, _, _, _, nv, w', wm', ?_, by simp (decide := true) only [iU_n, iU_s]⟩
    obtain ⟨c, s0, k, h1, h2, h3, e1, e2, e3⟩ := sm.ns
    have hro : ∀ j, j ≠ tl.length → rowEq ar (mBeg iv ar tl.length lv) j := fun j hj => rowEq_1 (rowEq_1 (rowEq_1 (rowEq.refl ar j) (by omega) (pk_un hj)) (by omega) (pk_un hj)) (by omega) (pk_un hj)
    have hz := sm.z tl.length (Nat.le_refl _) hlt
    have a0 : mBeg iv ar tl.length lv 0 tl.length = lv := by simp (decide := true) only [mBeg, aU_n, aU_s, pk_us]
    have a1 : mBeg iv ar tl.length lv 1 tl.length = iv 1 := by simp (decide := true) only [mBeg, aU_n, aU_s, pk_us]
    have a2 : mBeg iv ar tl.length lv 2 tl.length = -1 := by simp (decide := true) only [mBeg, aU_n, aU_s, pk_us]
    have a3 : ∀ k, 3 ≤ k → mBeg iv ar tl.length lv k = ar k := fun k hk => by rw [mBeg, aU_n _ _ (by omega), aU_n _ _ (by omega), aU_n _ _ (by omega)]
    refine ⟨⟨?_, ?_, ?_, ?_⟩, ⟨c, s0, k, by omega, h2, by omega, e1, e2, e3⟩, fun i t ht => ?_, fun i hi hi2 => ?_, ?_, ⟨by rw [a3 8 (by decide)]; exact sm.b8, by rw [a3 17 (by decide)]; exact sm.b17⟩, ?_⟩
    · simp (decide := true) only [iU_n]; exact sm.i1
    · simp (decide := true) only [iU_n]; exact sm.i2
    · rw [iU_s]; simp
    · simp (decide := true) only [iU_n]; exact sm.i4
    · by_cases e : i < tl.length
      · rw [List.getElem?_append_left e] at ht
        exact txS_row (by omega) (by omega) (fun _ z => z) (hro i (by omega)) (sm.tx ht)
      · have e2 : i = tl.length := by
          have := (List.getElem?_eq_some_iff.mp ht).1
          rw [List.length_append, List.length_singleton] at this
          omega
        subst e2
        rw [List.getElem?_append_right (Nat.le_refl _), Nat.sub_self] at ht
        cases ht
        exact ⟨⟨a0.symm, by rw [a1]; exact sm.i1.symm, by rw [a3 3 (by decide)]; exact hz.1.symm, a2.symm, by rw [a3 4 (by decide)]; exact hz.2.1.symm, by rw [a3 5 (by decide)]; exact hz.2.2.1, by rw [a3 11 (by decide)]; exact hz.2.2.2.2, by rw [a3 9 (by decide)]; exact hz.2.2.2.1⟩, hb, Or.inl rfl, ⟨c, by omega, e1⟩, fun _ => rfl, fun _ => rfl, Nat.zero_le _, Nat.zero_le _, Nat.zero_le _, trivial, trivial, trivial⟩
    · rw [List.length_append, List.length_singleton] at hi
      exact z0_row (hro i (by omega)) (sm.z i (by omega) hi2)
    · rw [openSum_app, show opn1 (q, lv, ck, 0, -1, 0, [], [], []) = 0 from rfl]
      have := sm.n
      omega
    · rw [vlist_congr (fun k h14 _ => a3 k (by omega))]
      exact sm.v
  · rintro E h' ⟨⟨rfl, hb⟩ | ⟨rfl, hb, hlen⟩, rfl⟩
    · have hbe : beg tl.length lv = 1 := by rw [beg, if_neg hb]
      refine ⟨by decide, by decide, _, fun N0 => c_M_begin_no l g N0 hm lv sm.i3 w.len (by rw [hbe]; decide) wm, ?_⟩
      rintro v h'' ⟨r, rfl, wm'⟩
      exact ⟨⟨_, rfl, _, rfl⟩, _, _, _, _, _, _, _, _, w, wm', sm.num (by omega) (fun i h1 _ => iU_n _ _ (by omega)), by rw [iU_s, hbe]; rfl⟩
    · have hbe : beg tl.length lv = 2 := by rw [beg, if_pos hb, if_pos hlen]
      refine ⟨by decide, by decide, _, fun N0 => c_M_begin_no l g N0 hm lv sm.i3 w.len (by rw [hbe]; decide) wm, ?_⟩
      rintro v h'' ⟨r, rfl, wm'⟩
      exact ⟨⟨_, rfl, _, rfl⟩, _, _, _, _, _, _, _, _, w, wm', sm.num (by omega) (fun i h1 _ => iU_n _ _ (by omega)), by rw [iU_s, hbe]; rfl⟩
/-- a range is noted, or none: both sides -/
theorem note_rel {hN : N < 512} {ck sf nt nt' : Int32} {kl : LK} {tl tl' : List CT} {iv iv' : MI} {ar : MA} {nv i : Nat} {t : CT} {lo hi : Int32} (sm : Sim N ck sf nt kl tl iv ar nv) (hi2 : i < 120) (ht : tl[i]? = some t) (hr : noteRel lo hi i t nt tl nt' tl') (h : ∀ i, 1 ≤ i → i ≤ 4 → iv' i = iv i) : Sim (N + 1) ck sf nt' kl tl' iv' (mNt ar i (rcF tl i) lo hi) nv := by
  have hs := sm.tx ht
  have hb := hs
  obtain ⟨a, lv, sn, se, sp, ha, ws, rs, ps⟩ := t
  obtain ⟨⟨a1, a2, a3, a4, a5, a6, a7, a8⟩, b1, b2, b3, b4, b5, b6, b7, b8, b9, b10, b11⟩ := hb
  rcases hr with ⟨⟨hl, hle⟩, rfl, q, rfl⟩ | ⟨hno, rfl, rfl⟩
  · have hc : rcF tl i = rs.length := rcF_t ht
    have e : mNt ar i rs.length lo hi = mNote ar i rs.length lo hi := by
      rw [mNt, if_neg]
      rintro (z | z)
      · rw [← a1, hl] at z; exact absurd z (by decide)
      · exact z hle
    rw [hc, e]
    have m11 : mNote ar i rs.length lo hi 11 i = nI (rs.length + 1) := by simp (decide := true) only [mNote, aU_s, aU_n, pk_us]
    have m12 : mNote ar i rs.length lo hi 12 (600 * i + rs.length) = lo := by simp (decide := true) only [mNote, aU_s, aU_n, pk_us]
    have m13 : mNote ar i rs.length lo hi 13 (600 * i + rs.length) = hi := by simp (decide := true) only [mNote, aU_s, aU_n, pk_us]
    have mk : ∀ k, k ≠ 11 → k ≠ 12 → k ≠ 13 → mNote ar i rs.length lo hi k = ar k := fun k h1 h2 h3 => by rw [mNote, aU_n _ _ h1, aU_n _ _ h3, aU_n _ _ h2]
    refine sm.set (by omega) ht h (Or.inr rfl) (fun j hj => ?_) (fun _ z => z) (by rw [vlist_congr (fun k h1 h2 => mk k (by omega) (by omega) (by omega))]; exact sm.v) ?_ (Nat.le_succ _) (by rw [mk 8 (by decide) (by decide) (by decide)]; exact sm.b8) (mk 17 (by decide) (by decide) (by decide))
    · exact rowEq_1 (rowEq_6 (rowEq_6 (rowEq.refl ar j) (by omega) (fun x hx => pk_un (by omega))) (by omega) (fun x hx => pk_un (by omega))) (by omega) (pk_un (by omega))
    · refine ⟨⟨by rw [mk 0 (by decide) (by decide) (by decide)]; exact a1, by rw [mk 1 (by decide) (by decide) (by decide)]; exact a2, by rw [mk 3 (by decide) (by decide) (by decide)]; exact a3, by rw [mk 2 (by decide) (by decide) (by decide)]; exact a4, by rw [mk 4 (by decide) (by decide) (by decide)]; exact a5, by rw [mk 5 (by decide) (by decide) (by decide)]; exact a6, m11, by rw [mk 9 (by decide) (by decide) (by decide)]; exact a8⟩, b1, b2, ?_, b4, b5, by omega, by simp only [List.length_cons]; omega, b8, ?_, ⟨m12.symm, m13.symm, ?_⟩, ?_⟩
      · obtain ⟨x, hx, e⟩ := b3; exact ⟨x, by omega, e⟩
      · exact wRel_congr (fun k _ => by rw [mk 6 (by decide) (by decide) (by decide), mk 7 (by decide) (by decide) (by decide), mk 8 (by decide) (by decide) (by decide)]; exact ⟨rfl, rfl, rfl⟩) b9
      · refine rRel_congr (fun k hk => ?_) b10
        have e12 : mNote ar i rs.length lo hi 12 = upd (ar 12) (600 * i + rs.length) lo := by simp (decide := true) only [mNote, aU_s, aU_n]
        have e13 : mNote ar i rs.length lo hi 13 = upd (ar 13) (600 * i + rs.length) hi := by simp (decide := true) only [mNote, aU_s, aU_n]
        rw [e12, e13]
        exact ⟨pk_un (by omega), pk_un (by omega)⟩
      · exact pRel_congr (fun k _ => by rw [mk 6 (by decide) (by decide) (by decide), mk 7 (by decide) (by decide) (by decide), mk 8 (by decide) (by decide) (by decide)]; exact ⟨rfl, rfl, rfl⟩) (fun k _ => by rw [mk 10 (by decide) (by decide) (by decide)]) b11
  · have e : mNt ar i (rcF tl' i) lo hi = ar := by
      rw [mNt, if_pos]
      rcases b1 with z | z
      · exact Or.inl (by rw [← a1]; exact z)
      · exact Or.inr (fun q => hno ⟨z, q⟩)
    rw [e]
    exact sm.num (by omega) h
theorem seenT_cont {ck sf nt : Int32} {kl : LK} {tl : List CT} {iv : MI} {ar : MA} {nv i : Nat} {t : CT} (sm : Sim N ck sf nt kl tl iv ar nv) (ht : tl[i]? = some t) (key : Int32) : seenT kl key t = contM ar nv i (wcF tl i) key := by
  have hs := sm.tx ht
  rw [wcF_t ht]
  obtain ⟨a, lv, sn, se, sp, ha, ws, rs, ps⟩ := t
  obtain ⟨⟨a1, a2, a3, a4, a5, a6, a7, a8⟩, b1, b2, b3, b4, b5, b6, b7, b8, b9, b10, b11⟩ := hs
  show (match kfind key kl with | none => (4294967296 : Int64) | some (_, m, vs) => seenC sn ws m vs) = contM ar nv i ws.length key
  cases h : kfind key kl with
  | none => exact (contM_known sm.v b9 (kfind_none h)).symm
  | some k =>
    obtain ⟨h1, h2⟩ := kfind_some h
    have := seenC_cont sm.v b9 h1
    rw [← a2, h2] at this
    obtain ⟨a, m, vs⟩ := k
    dsimp only at h2 this ⊢
    rw [h2]
    exact this
theorem s_read (hN : N < 512) (t key : Int32) : JS l g s ta m ad N T_S_read T_M_read kI eI cdI [.int t, .int key] := by
  rintro hc hm k0 ⟨ck, sf, nt, kl, tl, iv, ar, nv, w, wm, sm, rfl⟩
  obtain ⟨c, s0, k, h1, h2, h3, e1, e2, e3⟩ := sm.ns
  have hnt : nt < 512 := by rw [e3]; exact nI_lt (b := 512) (by omega) (by decide)
  refine ⟨_, _, fun N0 => c_S_read l g N0 hc t key hnt w, ?_, ?_⟩
  · rintro v h' ⟨r, rfl, u, i, ⟨rfl, hu, hs0, nt', tl', hrel, w'⟩, rfl⟩
    have hlt := (List.getElem?_eq_some_iff.mp hu).1
    have := w.len
    refine ⟨_, rfl, ⟨_, rfl⟩, _, fun N0 => c_M_read l g N0 hm key (MB_of w sm (by omega)) hlt (by rw [← ctS_a (sm.tx hu)]; exact hs0) wm, ?_⟩
    rintro v h'' ⟨r, rfl, rfl, iv', wm', hi0, hi4⟩
    exact ⟨by rw [seenT_cont sm hu, valM_cont], _, _, _, _, _, _, _, nv, w', wm', note_rel (hN := hN) sm (by omega) hu hrel hi4, hi0⟩
  · rintro E h' hx
    obtain ⟨o1, o2, o3⟩ := opn_x w.len sm hx
    obtain ⟨_, rfl⟩ := hx
    refine ⟨o3, o2, _, fun N0 => c_M_read_no l g N0 hm t key sm.i3 w.len (by rw [o1]; exact o2) wm, ?_⟩
    rintro v h'' ⟨r, rfl, wm'⟩
    exact ⟨⟨_, rfl, _, rfl⟩, _, _, _, _, _, _, _, nv, w, wm', sm.num (by omega) (fun i h1 _ => iU_n _ _ (by omega)), by rw [iU_s, o1]⟩
theorem s_found (hN : N < 512) (t key : Int32) : JS l g s ta m ad N T_S_found T_M_found kZ eI cdI [.int t, .int key] := by
  rintro hc hm k0 ⟨ck, sf, nt, kl, tl, iv, ar, nv, w, wm, sm, rfl⟩
  obtain ⟨c, s0, k, h1, h2, h3, e1, e2, e3⟩ := sm.ns
  have hnt : nt < 512 := by rw [e3]; exact nI_lt (b := 512) (by omega) (by decide)
  refine ⟨_, _, fun N0 => c_S_found l g N0 hc t key hnt w, ?_, ?_⟩
  · rintro v h' ⟨r, rfl, u, i, ⟨rfl, hu, hs0, nt', tl', hrel, w'⟩, rfl⟩
    have hlt := (List.getElem?_eq_some_iff.mp hu).1
    have := w.len
    refine ⟨_, rfl, ⟨_, rfl⟩, _, fun N0 => c_M_found l g N0 hm key (MB_of w sm (by omega)) hlt (by rw [← ctS_a (sm.tx hu)]; exact hs0) wm, ?_⟩
    rintro v h'' ⟨r, rfl, rfl, iv', wm', hi0, hi4⟩
    exact ⟨by rw [seenT_cont sm hu, seenM_cont], _, _, _, _, _, _, _, nv, w', wm', note_rel (hN := hN) sm (by omega) hu hrel hi4, hi0⟩
  · rintro E h' hx
    obtain ⟨o1, o2, o3⟩ := opn_x w.len sm hx
    obtain ⟨_, rfl⟩ := hx
    refine ⟨o3, o2, _, fun N0 => c_M_found_no l g N0 hm t key sm.i3 w.len (by rw [o1]; exact o2) wm, ?_⟩
    rintro v h'' ⟨r, rfl, hr, wm'⟩
    exact ⟨⟨_, rfl, hr⟩, _, _, _, _, _, _, _, nv, w, wm', sm.num (by omega) (fun i h1 _ => iU_n _ _ (by omega)), by rw [iU_s, o1]⟩
end JB
