-- the law's start
theorem lw_arr {args : Array Value} {s : State} {ty : FieldType} (h : (Cond.arrayClass ty).before args s = true) : ∃ cA : ClassId, ArrOfT s cA ty ∧ s.vm.findClass ("[" ++ ty.toString) = some cA := by
  obtain ⟨cA, k, comp, h1, h2, h3⟩ := Cond.arrayClass_spec h
  exact ⟨cA, fun n z => ⟨fun k h => (by cases h), k, h2, comp, h3⟩, h1⟩
theorem lw_arq {args : Array Value} {s : State} {n : String} (h : (Cond.arrayOver (.object n)).before args s = true) : ∃ cA : ClassId, ArrOfT s cA (.object n) ∧ va_RA s cA (.object n) := by
  obtain ⟨comp, cA, k, h0, -, h2, h3, h1⟩ := Cond.arrayOver_spec h
  exact ⟨cA, fun n z => ⟨fun k h => (by cases h), k, h2, comp, h3⟩, k, comp, h2, h3, h0, h1⟩
theorem lw_tb {args : Array Value} {s : State} (h0 : ∀ w ∈ lw_tbl, w.before args s = true) (i : Nat) {w : Cond} (h : tables_1[i]? = some w) : w.before args s = true := h0 w (List.mem_append_right _ (List.mem_of_getElem? h))
theorem lw_K {args : Array Value} {s : State} (tb0 : ∀ w ∈ lw_tbl, w.before args s = true) (hts : ∀ w ∈ TT, w.before args s = true) : ∃ g : GG, va_K g.1 CL (tysG g) s := by
  obtain ⟨c0, i0, h0⟩ := u_known (C := R_Key) (T := F_Key) (N := 3) hts i_Key (hts _ k_360)
  obtain ⟨c1, i1, h1⟩ := u_known (C := R_Place) (T := F_Place) (N := 3) hts i_Place (hts _ k_446)
  obtain ⟨c2, i2, h2⟩ := u_known (C := R_Range) (T := F_Range) (N := 3) hts i_Range (hts _ k_312)
  obtain ⟨c3, i3, h3⟩ := u_known (C := R_Tx) (T := F_Tx) (N := 8) hts i_Tx (hts _ k_232)
  obtain ⟨c4, i4, h4⟩ := u_known (C := R_Ver) (T := F_Ver) (N := 3) hts i_Ver (hts _ k_512)
  obtain ⟨c5, i5, h5⟩ := u_known (C := R_Wr) (T := F_Wr) (N := 4) hts i_Wr (hts _ k_383)
  obtain ⟨c6, i6, h6⟩ := u_known (C := R_S) (T := F_S) (N := 6) hts i_S (hts _ k_16)
  obtain ⟨c7, i7, h7⟩ := u_known (C := R_M) (T := F_M) (N := 26) hts i_M (hts _ k_549)
  obtain ⟨a0, b0, d0⟩ := lw_arr (hts _ k_635)
  obtain ⟨a1, b1, d1⟩ := lw_arr (hts _ k_790)
  obtain ⟨a2, b2, d2⟩ := lw_arr (hts _ k_634)
  obtain ⟨a3, b3, d3⟩ := lw_arq (n := R_Tx) (lw_tb tb0 24 (by decide +kernel))
  refine ⟨((fun k => match k with | 0 => c0 | 1 => c1 | 2 => c2 | 3 => c3 | 4 => c4 | 5 => c5 | 6 => c6 | _ => c7, fun k => match k with | 0 => i0 | 1 => i1 | 2 => i2 | 3 => i3 | 4 => i4 | 5 => i5 | 6 => i6 | _ => i7), fun k => match k with | 0 => a0 | 1 => a1 | 2 => a2 | _ => a3), fun k q hq => ?_, fun k q hq => ?_⟩
  · match k, hq with
    | 0, hq => cases hq; exact h0
    | 1, hq => cases hq; exact h1
    | 2, hq => cases hq; exact h2
    | 3, hq => cases hq; exact h3
    | 4, hq => cases hq; exact h4
    | 5, hq => cases hq; exact h5
    | 6, hq => cases hq; exact h6
    | 7, hq => cases hq; exact h7
    | k + 8, hq => simp [CL] at hq
  · match k, hq with
    | 0, hq => cases hq; exact ⟨b0, d0⟩
    | 1, hq => cases hq; exact ⟨b1, d1⟩
    | 2, hq => cases hq; exact ⟨b2, d2⟩
    | 3, hq => cases hq; exact ⟨b3, d3⟩
    | k + 4, hq => simp [tysG] at hq
theorem lw_TZ {args : Array Value} {s : State} (l : Launch) (hst : l.stackTraces = false) {cS : ClassId} (hS : s.vm.findClass "SnapshotStore" = some cS) (h0 : ∀ w ∈ lw_tbl, w.before args s = true) (hts : ∀ w ∈ TT, w.before args s = true) (hgv : (Jvm.Cond.and given_1 narrow_1).before args s = true) : TZ l (fun q => s.heap.size ≤ q) s s.heap := by
  have fl := flat_of_before _ hgv
  refine ⟨hst, vx_Zqof (lw_tb h0 175 (by decide +kernel)) (hts _ k_3) (fl _ (by decide +kernel)) (fun a h => Nat.not_le.mpr h), vx_Zqof (lw_tb h0 177 (by decide +kernel)) (hts _ k_3) (fl _ (by decide +kernel)) (fun a h => Nat.not_le.mpr h), fun k q hq => ?_, va_AO.of (lw_tb h0 24 (by decide +kernel)), fun E hE => ?_, fun E hE F hF hne => ?_, fun x hx => ?_⟩
  · have key : ∀ (i : Nat) (tx : String), (Cond.stringRef "SnapshotStore" i tx).before args s = true → ∃ sa, vk_R "SnapshotStore" i tx sa s := fun i tx hm => by
      obtain ⟨-, -, -, a, -, -, -, -, -, h⟩ := Cond.stringRef_spec hS hm
      exact ⟨a, vk_R.of hm h⟩
    match k, hq with
    | 0, hq => cases hq; exact key _ _ (lw_tb h0 189 (by decide +kernel))
    | 1, hq => cases hq; exact key _ _ (lw_tb h0 225 (by decide +kernel))
    | 2, hq => cases hq; exact key _ _ (lw_tb h0 294 (by decide +kernel))
    | 3, hq => cases hq; exact key _ _ (lw_tb h0 301 (by decide +kernel))
    | 4, hq => cases hq; exact key _ _ (lw_tb h0 310 (by decide +kernel))
    | 5, hq => cases hq; exact key _ _ (lw_tb h0 428 (by decide +kernel))
    | 6, hq => cases hq; exact key _ _ (lw_tb h0 444 (by decide +kernel))
    | 7, hq => cases hq; exact key _ _ (lw_tb h0 475 (by decide +kernel))
    | 8, hq => cases hq; exact key _ _ (lw_tb h0 547 (by decide +kernel))
    | k + 9, hq => simp [strs] at hq
  · simp only [exNames, List.mem_cons, List.not_mem_nil, or_false] at hE
    rcases hE with rfl | rfl | rfl
    · exact va_Nw.of rfl (lw_tb h0 150 (by decide +kernel))
    · exact va_Nw.of rfl (lw_tb h0 218 (by decide +kernel))
    · exact va_Nw.of rfl (lw_tb h0 287 (by decide +kernel))
  · simp only [exNames, List.mem_cons, List.not_mem_nil, or_false] at hE hF
    rcases hE with rfl | rfl | rfl <;> rcases hF with rfl | rfl | rfl <;> first | exact absurd rfl hne | exact va_Nc.of (fl _ (by decide +kernel))
  · simp only [dcls, List.mem_cons, List.not_mem_nil, or_false] at hx
    rcases hx with rfl | rfl | rfl | rfl | rfl | rfl
    · exact va_Nw.of rfl (lw_tb h0 151 (by decide +kernel))
    · exact va_Nw.of rfl (lw_tb h0 152 (by decide +kernel))
    · exact va_Nw.of rfl (lw_tb h0 153 (by decide +kernel))
    · exact va_Nw.of rfl (lw_tb h0 154 (by decide +kernel))
    · exact va_Nw.of rfl (lw_tb h0 155 (by decide +kernel))
    · exact va_Nw.of rfl (lw_tb h0 156 (by decide +kernel))
theorem mUp_sg {h : Mp} {q : Nat} {e : va_E} : mUp h q e = jn (sg q e) h := by
  funext x
  by_cases z : x = q
  · rw [z, mUp_s, jn_l (sg_s q e)]
  · rw [mUp_n _ _ z, jn_r (sg_n z)]
theorem sg_dj1 {h : Mp} {q : Nat} {e : va_E} (hq : h q = none) : dj (sg q e) h := fun x hx => by
  by_cases z : x = q
  · rw [z]; exact hq
  · exact absurd (sg_n z) hx
theorem Sim_0 : Sim 0 0 0 0 [] [] (fun _ => 0) (fun _ _ => 0) 0 := by
  refine ⟨⟨rfl, rfl, rfl, rfl⟩, ⟨0, 0, 0, Nat.le_refl _, Nat.le_refl _, Nat.le_refl _, rfl, rfl, rfl⟩, fun i t ht => (by cases ht), fun i _ _ => ⟨rfl, rfl, rfl, rfl, rfl⟩, Nat.le_refl _, ⟨fun _ => Or.inl rfl, fun _ _ => Or.inl rfl⟩, fun k hk => (by cases hk), fun r hr => (by cases hr)⟩
theorem lw_go {K : Cx} {g : GG} {N0 : Nat → Prop} {Q : State → Prop} {rt : Option FieldType} {nm : String} {ex : List ExceptionTableEntry} {b L : Nat} {xs : Nat → Int32} (X : Fx K g N0 code 8 "SnapshotStoreLaw" room_1 rt nm ex) (scr : va_X b L xs (Ks K) (Ks K).heap ∧ L ≤ 2048) (hbl : b < (Ks K).heap.size) (hbA : ¬ N0 b) (hend : ∀ (h : Mp) (cells slots : Nat) (lv : List (Option Value)), cells ≤ 601024 → slots ≤ 7293034 → V K g N0 8 Q h cells slots 1098 lv []) : V K g N0 8 Q (fun _ => none) 0 0 0 [some (va_rf (some b)), none, none, none, none, none, none, none] [] := by
  refine nw_L_8 X (by show 0 + 1 ≤ 601024; omega) (by show 0 + 6 ≤ 7293034; omega) d_law_0 (fun s hs0 => ?_)
  refine V_dup X d_law_3 (by first | rfl | exact rf_cat _) ?_
  refine cl_L_56 X (c_S_init (Kl K) g N0 _ (mUp_s _ _ _)) d_law_4 ⟨by decide, by decide⟩ (by simp only [List.map, rf_cat, List.sum_cons, List.sum_nil]; decide) ⟨(by show 0 + 1 + 1 ≤ 601024; omega), (by show 0 + 6 + 120 ≤ 7293034; omega)⟩ (fun hc hw => ?_)
  obtain ⟨ta, w⟩ := hw
  refine as_1 X d_law_7 rfl (by first | exact okp_n | exact okp_i | exact okp_r) ?_
  refine nw_L_57 X (by show 0 + 1 + 1 + 1 ≤ 601024; omega) (by show 0 + 6 + 120 + 26 ≤ 7293034; omega) d_law_8 (fun m hm0 => ?_)
  refine V_dup X d_law_11 (by first | rfl | exact rf_cat _) ?_
  rw [mUp_sg]
  refine V_initF (y := y_M_init) (b' := b_M_init) (As := []) X (sg_dj1 hm0) (fun N1 => c_M_init (Kl K) g N1 _ (sg_s _ _)) k_550 k_551 k_2 k_552 rfl (n := 0) (by decide +kernel) rfl ⟨by decide, by decide⟩ (by simp only [List.map, rf_cat, List.sum_cons, List.sum_nil]; decide) ⟨(by show 0 + 1 + 1 + 1 + 19 ≤ 601024; omega), (by show 0 + 6 + 120 + 26 + 378360 ≤ 7293034; omega)⟩ d_law_12 (fun hm hw dm => ?_)
  obtain ⟨ad, wm⟩ := hw
  refine as_2 X d_law_15 rfl (by first | exact okp_n | exact okp_i | exact okp_r) ?_
  refine V_iconst (v := 1) X d_law_16 (by decide) ?_
  refine V_newL (N := 1) X k_790 rfl (by decide) (by show 0 + 1 + 1 + 1 + 19 + 1 ≤ 601024; omega) (by show 0 + 6 + 120 + 26 + 378360 + 1 ≤ 7293034; omega) d_law_17 (fun o ho => ?_)
  have hmo : hm o = none := by
    cases z : hm o with
    | none => rfl
    | some x => rw [jn_l z] at ho; cases ho
  have hco : hc o = none := by rw [jn_r hmo] at ho; exact ho
  have dO : dj hc (sg o (cO g (fun _ => 0))) := (sg_dj1 hco).symm
  have dO2 : dj (sg o (cO g (fun _ => 0))) hm := sg_dj1 hmo
  have dx : dj (jn hc (sg o (cO g (fun _ => 0)))) hm := dj_l dm.symm dO2
  have em : mUp (jn hm hc) o (cO g (fun _ => 0)) = jn (jn hc (sg o (cO g (fun _ => 0)))) hm := by
    rw [jn_comm dm, mUp_sg, ← jn_assoc, jn_comm dO.symm]
  rw [em]
  refine as_3 X d_law_19 rfl (by first | exact okp_n | exact okp_i | exact okp_r) ?_
  refine V_iconst (v := 0) X d_law_20 (by decide) ?_
  refine is_4 X d_law_21 rfl (by first | exact okp_n | exact okp_i | exact okp_r) ?_
  exact lw_loop X scr hbl hbA hend 512 0 hc hm (fun _ => 0) 0 none none none _ _ rfl ⟨0, 0, 0, [], [], _, _, 0, w, wm, Sim_0, rfl⟩ dO dx (by omega) (by omega)
theorem whole_start {p : Program} {e : Env} {s : State} {m : MethodId} {below : List Frame} {meth : Method} {c : Code} (l : Launch) (hst : l.stackTraces = false) {b L : Nat} {xs : Nat → Int32} (hL : L ≤ 2048) (C0 : lw_At p s m meth c b L xs) : W p l e room_1 s m #[Value.ref b] below meth c s.heap [] 0 0 (lw_Z below #[Value.ref b] s) (entryFrame m ([Value.ref b] : List Value).toArray 8) := by
  obtain ⟨hx, hb, hr, hml, hown, hts, hX, hbl, hlocks, hgv⟩ := C0
  have htT : ∀ w ∈ TT, w.before #[Value.ref b] s = true := fun w hw => hts w (List.mem_filter.mp hw).1
  obtain ⟨g, hK⟩ := lw_K hts htT
  have hcS : s.vm.findClass "SnapshotStore" = some (g.1.1 6) := (hK.1 6 (R_S, F_S, 6) rfl).2.1
  have hZ := lw_TZ l hst hcS hts htT hgv
  have X : Fx (p, l, e, room_1, s, m, #[Value.ref b], below, meth, c) g (fun q => s.heap.size ≤ q) code 8 "SnapshotStoreLaw" room_1 ret meth.name c.exceptionTable.toList := ⟨hx, hb, hml, hown, htT, hK, hlocks, fun _ h => h, hZ, rfl, hr, rfl, rfl⟩
  have hend : ∀ (h : Mp) (cells slots : Nat) (lv : List (Option Value)), cells ≤ 601024 → slots ≤ 7293034 → V (p, l, e, room_1, s, m, #[Value.ref b], below, meth, c) g (fun q => s.heap.size ≤ q) 8 (lw_Z below #[Value.ref b] s) h cells slots 1098 lv [] := by
    intro h cells slots lv hc hs H locs ls hM hS hl
    refine lv_iconst (v := 1) hx hb d_law_1098 (by decide) ?_
    refine va_forget (fun q hq => hS.2.2 q hq) ?_
    refine W.widen (k := 601024) (n := 7293034) hc hs ?_
    exact lw_ret hx hb hr hlocks d_law_1099
  have hgo := lw_go X ⟨hX, hL⟩ hbl (Nat.not_le.mpr hbl) hend
  have hl := lv_entry [Value.ref b] (n := 8) (by simp [lg_sl, Value.category])
  rw [lg_entry_eq]
  refine hgo s.heap [] _ ⟨[], fun k q h => (by simp at h), ⟨fun i j p q h => (by simp at h), fun k q h => (by simp at h)⟩, fun a e => ⟨fun h => (by cases h), fun h => (by cases h)⟩⟩ va_S.rf (lH_of hl (fun i v hi => ?_))
  match i, hi with
  | 0, hi => cases hi; simp [lv_args]; rfl
  | 1, hi => cases hi
  | 2, hi => cases hi
  | 3, hi => cases hi
  | 4, hi => cases hi
  | 5, hi => cases hi
  | 6, hi => cases hi
  | 7, hi => cases hi
  | i + 8, hi => simp at hi
