-- the law's helpers
def l64 (v : Value) : Int64 := match v with
  | .int r => r.toInt64
  | .long r => r
  | _ => 0
abbrev cO (g : GG) (f : Nat → Int64) : va_E := .inl (g.2 1, 1, .inr (.inl f))
def hPost (g : GG) (o : Nat) (post : Option Value → Mp → Prop) (xp : String → Mp → Prop) (cd : String → Int32) : Int32 → Mp → Prop := fun k h' => ∃ hc' f', dj hc' (sg o (cO g f')) ∧ h' = jn hc' (sg o (cO g f')) ∧ ((k = 0 ∧ ∃ x, post (some x) hc' ∧ f' 0 = l64 x) ∨ ∃ E, xp E hc' ∧ k = cd E)
theorem jn_o {a : Mp} {o : Nat} {e : va_E} (d : dj a (sg o e)) : jn a (sg o e) o = some e := by
  have ho : a o = none := by
    cases z : a o with
    | none => rfl
    | some x =>
      have := d o (by rw [z]; intro y; cases y)
      rw [sg_s] at this; cases this
  rw [jn_r ho, sg_s]
theorem h_begin (l : Launch) (g : GG) (N0 : Nat → Prop) {hc : Mp} {s o : Nat} {fs : List Value} {f : Nat → Int64} {post : Option Value → Mp → Prop} {xp : String → Mp → Prop} (p0 : Int32) (hC : ∀ N1, CtT l T_S_begin g N1 hc (va_rf (some s) :: [.int p0]) post xp) (hs : hc s = some (.inr (6, fs))) (hk : ∀ v h', post v h' → ∃ x, v = some x ∧ kI x) (he : ∀ E h', xp E h' → E ∈ eB) (d : dj hc (sg o (cO g f))) : CtH l y_L_begin b_L_begin 4 (some .int) [(0, 9, 12, 13), (0, 9, 15, 15)] 7 112 1 8 g N0 (jn hc (sg o (cO g f))) [va_rf (some s), .int p0, va_rf (some o)] (pI (hPost g o post xp cdB)) nox := by
  refine CtH_of "SnapshotStoreLaw" "begin" [some (va_rf (some s)), some (.int p0), some (va_rf (some o)), none] (by decide) rfl rfl (by simp [lg_sl, rf_cat, cat_i, cat_l]) (by simp [toL, lv_args, rf_cat, cat_i, cat_l]) (fun K hl X => ?_)
  subst hl
  refine al_2 X d_L_begin_0 ?_
  refine V_iconst (v := 0) X d_L_begin_1 (by decide) ?_
  refine al_0 X d_L_begin_2 ?_
  refine il_1 X d_L_begin_3 ?_
  refine V_contF (runVF (y := y_S_begin) (b' := b_S_begin) (nL' := 3) (ret' := (some .int)) (fr := 6) (lo := 90) (mc := 1) (ms := 8) (As := [.int p0]) X d hC k_144 k_145 k_146 k_1 k_147 (n := 1) (by decide +kernel) (ci := 6) rfl rfl hs (by refine ⟨?_, ?_⟩ <;> first | decide | (dsimp only; first | done | omega)) (by first | decide | (simp only [List.map, rf_cat, cat_i, cat_l, List.sum_cons, List.sum_nil]; first | done | decide | omega)) ⟨(by first | omega | decide | (dsimp only; first | done | omega)), (by first | omega | decide | (dsimp only; first | done | omega))⟩ d_L_begin_4) (fun E a' hx dx => ?_) (fun v a' hp dx => ?_)
  · have hE := he E a' hx
    simp only [eB, List.mem_cons, List.not_mem_nil, or_false] at hE
    rcases hE with rfl | rfl
    · refine V_catch X [] ⟨0, 9, 12, 13⟩ [⟨0, 9, 15, 15⟩] rfl (fun z hz => by cases hz) (by decide) (by decide) (by decide) k_142 (fun q => ?_)
      refine as_3 X d_L_begin_12 rfl (by first | exact okp_n | exact okp_i | exact okp_r) ?_
      refine V_iconst (v := 1) X d_L_begin_13 (by decide) ?_
      refine V_iret X rfl d_L_begin_14 (by first | omega | decide | (dsimp only; first | done | omega)) (by first | omega | decide | (dsimp only; first | done | omega)) ?_
      exact ⟨_, rfl, a', f, dx, rfl, Or.inr ⟨_, hx, rfl⟩⟩
    · refine V_catch X [⟨0, 9, 12, 13⟩] ⟨0, 9, 15, 15⟩ [] rfl (fun z hz => by
        simp only [List.mem_cons, List.not_mem_nil, or_false] at hz
        rcases hz with rfl
        · exact ⟨by decide, "java/lang/IllegalArgumentException", k_142, by decide, by decide⟩) (by decide) (by decide) (by decide) k_143 (fun q => ?_)
      refine as_3 X d_L_begin_15 rfl (by first | exact okp_n | exact okp_i | exact okp_r) ?_
      refine V_iconst (v := 2) X d_L_begin_16 (by decide) ?_
      refine V_iret X rfl d_L_begin_17 (by first | omega | decide | (dsimp only; first | done | omega)) (by first | omega | decide | (dsimp only; first | done | omega)) ?_
      exact ⟨_, rfl, a', f, dx, rfl, Or.inr ⟨_, hx, rfl⟩⟩
  · obtain ⟨x, rfl, r, rfl⟩ := hk v a' hp
    refine V_i2l X d_L_begin_7 ?_
    refine V_last (j := 0) X (jn_o dx) rfl (by decide) (by decide) d_L_begin_8 ?_
    rw [mUp_jn dx]
    refine V_goto (tgt := 18) X d_L_begin_9 (by decide) ?_
    refine V_iconst (v := 0) X d_L_begin_18 (by decide) ?_
    refine V_iret X rfl d_L_begin_19 (by first | omega | decide | (dsimp only; first | done | omega)) (by first | omega | decide | (dsimp only; first | done | omega)) ?_
    exact ⟨_, rfl, a', _, sg_dj dx, rfl, Or.inl ⟨rfl, _, hp, rfl⟩⟩
theorem h_read (l : Launch) (g : GG) (N0 : Nat → Prop) {hc : Mp} {s o : Nat} {fs : List Value} {f : Nat → Int64} {post : Option Value → Mp → Prop} {xp : String → Mp → Prop} (p0 p1 : Int32) (hC : ∀ N1, CtT l T_S_read g N1 hc (va_rf (some s) :: [.int p0, .int p1]) post xp) (hs : hc s = some (.inr (6, fs))) (hk : ∀ v h', post v h' → ∃ x, v = some x ∧ kI x) (he : ∀ E h', xp E h' → E ∈ eI) (d : dj hc (sg o (cO g f))) : CtH l y_L_read b_L_read 5 (some .int) [(0, 10, 13, 21), (0, 10, 17, 15)] 9 157 3 15 g N0 (jn hc (sg o (cO g f))) [va_rf (some s), .int p0, .int p1, va_rf (some o)] (pI (hPost g o post xp cdI)) nox := by
  refine CtH_of "SnapshotStoreLaw" "read" [some (va_rf (some s)), some (.int p0), some (.int p1), some (va_rf (some o)), none] (by decide) rfl rfl (by simp [lg_sl, rf_cat, cat_i, cat_l]) (by simp [toL, lv_args, rf_cat, cat_i, cat_l]) (fun K hl X => ?_)
  subst hl
  refine al_3 X d_L_read_0 ?_
  refine V_iconst (v := 0) X d_L_read_1 (by decide) ?_
  refine al_0 X d_L_read_2 ?_
  refine il_1 X d_L_read_3 ?_
  refine il_2 X d_L_read_4 ?_
  refine V_contF (runVF (y := y_S_read) (b' := b_S_read) (nL' := 4) (ret' := (some .int)) (fr := 8) (lo := 134) (mc := 3) (ms := 15) (As := [.int p0, .int p1]) X d hC k_273 k_274 k_275 k_1 k_276 (n := 2) (by decide +kernel) (ci := 6) rfl rfl hs (by refine ⟨?_, ?_⟩ <;> first | decide | (dsimp only; first | done | omega)) (by first | decide | (simp only [List.map, rf_cat, cat_i, cat_l, List.sum_cons, List.sum_nil]; first | done | decide | omega)) ⟨(by first | omega | decide | (dsimp only; first | done | omega)), (by first | omega | decide | (dsimp only; first | done | omega))⟩ d_L_read_5) (fun E a' hx dx => ?_) (fun v a' hp dx => ?_)
  · have hE := he E a' hx
    simp only [eI, List.mem_cons, List.not_mem_nil, or_false] at hE
    rcases hE with rfl | rfl
    · refine V_catch X [] ⟨0, 10, 13, 21⟩ [⟨0, 10, 17, 15⟩] rfl (fun z hz => by cases hz) (by decide) (by decide) (by decide) k_272 (fun q => ?_)
      refine as_4 X d_L_read_13 rfl (by first | exact okp_n | exact okp_i | exact okp_r) ?_
      refine V_iconst (v := 1) X d_L_read_15 (by decide) ?_
      refine V_iret X rfl d_L_read_16 (by first | omega | decide | (dsimp only; first | done | omega)) (by first | omega | decide | (dsimp only; first | done | omega)) ?_
      exact ⟨_, rfl, a', f, dx, rfl, Or.inr ⟨_, hx, rfl⟩⟩
    · refine V_catch X [⟨0, 10, 13, 21⟩] ⟨0, 10, 17, 15⟩ [] rfl (fun z hz => by
        simp only [List.mem_cons, List.not_mem_nil, or_false] at hz
        rcases hz with rfl
        · exact ⟨by decide, "java/lang/IndexOutOfBoundsException", k_272, by decide, by decide⟩) (by decide) (by decide) (by decide) k_143 (fun q => ?_)
      refine as_4 X d_L_read_17 rfl (by first | exact okp_n | exact okp_i | exact okp_r) ?_
      refine V_iconst (v := 2) X d_L_read_19 (by decide) ?_
      refine V_iret X rfl d_L_read_20 (by first | omega | decide | (dsimp only; first | done | omega)) (by first | omega | decide | (dsimp only; first | done | omega)) ?_
      exact ⟨_, rfl, a', f, dx, rfl, Or.inr ⟨_, hx, rfl⟩⟩
  · obtain ⟨x, rfl, r, rfl⟩ := hk v a' hp
    refine V_i2l X d_L_read_8 ?_
    refine V_last (j := 0) X (jn_o dx) rfl (by decide) (by decide) d_L_read_9 ?_
    rw [mUp_jn dx]
    refine V_goto (tgt := 21) X d_L_read_10 (by decide) ?_
    refine V_iconst (v := 0) X d_L_read_21 (by decide) ?_
    refine V_iret X rfl d_L_read_22 (by first | omega | decide | (dsimp only; first | done | omega)) (by first | omega | decide | (dsimp only; first | done | omega)) ?_
    exact ⟨_, rfl, a', _, sg_dj dx, rfl, Or.inl ⟨rfl, _, hp, rfl⟩⟩
theorem h_found (l : Launch) (g : GG) (N0 : Nat → Prop) {hc : Mp} {s o : Nat} {fs : List Value} {f : Nat → Int64} {post : Option Value → Mp → Prop} {xp : String → Mp → Prop} (p0 p1 : Int32) (hC : ∀ N1, CtT l T_S_found g N1 hc (va_rf (some s) :: [.int p0, .int p1]) post xp) (hs : hc s = some (.inr (6, fs))) (hk : ∀ v h', post v h' → ∃ x, v = some x ∧ kZ x) (he : ∀ E h', xp E h' → E ∈ eI) (d : dj hc (sg o (cO g f))) : CtH l y_L_found b_L_found 5 (some .int) [(0, 17, 20, 21), (0, 17, 24, 15)] 9 157 3 15 g N0 (jn hc (sg o (cO g f))) [va_rf (some s), .int p0, .int p1, va_rf (some o)] (pI (hPost g o post xp cdI)) nox := by
  refine CtH_of "SnapshotStoreLaw" "found" [some (va_rf (some s)), some (.int p0), some (.int p1), some (va_rf (some o)), none] (by decide) rfl rfl (by simp [lg_sl, rf_cat, cat_i, cat_l]) (by simp [toL, lv_args, rf_cat, cat_i, cat_l]) (fun K hl X => ?_)
  subst hl
  refine al_3 X d_L_found_0 ?_
  refine V_iconst (v := 0) X d_L_found_1 (by decide) ?_
  refine al_0 X d_L_found_2 ?_
  refine il_1 X d_L_found_3 ?_
  refine il_2 X d_L_found_4 ?_
  refine V_contF (runVF (y := y_S_found) (b' := b_S_found) (nL' := 4) (ret' := (some .boolean)) (fr := 8) (lo := 134) (mc := 3) (ms := 15) (As := [.int p0, .int p1]) X d hC k_340 k_341 k_342 k_1 k_343 (n := 2) (by decide +kernel) (ci := 6) rfl rfl hs (by refine ⟨?_, ?_⟩ <;> first | decide | (dsimp only; first | done | omega)) (by first | decide | (simp only [List.map, rf_cat, cat_i, cat_l, List.sum_cons, List.sum_nil]; first | done | decide | omega)) ⟨(by first | omega | decide | (dsimp only; first | done | omega)), (by first | omega | decide | (dsimp only; first | done | omega))⟩ d_L_found_5) (fun E a' hx dx => ?_) (fun v a' hp dx => ?_)
  · have hE := he E a' hx
    simp only [eI, List.mem_cons, List.not_mem_nil, or_false] at hE
    rcases hE with rfl | rfl
    · refine V_catch X [] ⟨0, 17, 20, 21⟩ [⟨0, 17, 24, 15⟩] rfl (fun z hz => by cases hz) (by decide) (by decide) (by decide) k_272 (fun q => ?_)
      refine as_4 X d_L_found_20 rfl (by first | exact okp_n | exact okp_i | exact okp_r) ?_
      refine V_iconst (v := 1) X d_L_found_22 (by decide) ?_
      refine V_iret X rfl d_L_found_23 (by first | omega | decide | (dsimp only; first | done | omega)) (by first | omega | decide | (dsimp only; first | done | omega)) ?_
      exact ⟨_, rfl, a', f, dx, rfl, Or.inr ⟨_, hx, rfl⟩⟩
    · refine V_catch X [⟨0, 17, 20, 21⟩] ⟨0, 17, 24, 15⟩ [] rfl (fun z hz => by
        simp only [List.mem_cons, List.not_mem_nil, or_false] at hz
        rcases hz with rfl
        · exact ⟨by decide, "java/lang/IndexOutOfBoundsException", k_272, by decide, by decide⟩) (by decide) (by decide) (by decide) k_143 (fun q => ?_)
      refine as_4 X d_L_found_24 rfl (by first | exact okp_n | exact okp_i | exact okp_r) ?_
      refine V_iconst (v := 2) X d_L_found_26 (by decide) ?_
      refine V_iret X rfl d_L_found_27 (by first | omega | decide | (dsimp only; first | done | omega)) (by first | omega | decide | (dsimp only; first | done | omega)) ?_
      exact ⟨_, rfl, a', f, dx, rfl, Or.inr ⟨_, hx, rfl⟩⟩
  · obtain ⟨x, rfl, r, rfl⟩ := hk v a' hp
    refine V_if_eq (tgt := 15) X d_L_found_8 (by decide) (fun c_8 => ?_) (fun c_8 => ?_)
    · refine V_lconst (v := 0) X d_L_found_15 (by decide) ?_
      refine V_last (j := 0) X (jn_o dx) rfl (by decide) (by decide) d_L_found_16 ?_
      rw [mUp_jn dx]
      refine V_goto (tgt := 28) X d_L_found_17 (by decide) ?_
      refine V_iconst (v := 0) X d_L_found_28 (by decide) ?_
      refine V_iret X rfl d_L_found_29 (by first | omega | decide | (dsimp only; first | done | omega)) (by first | omega | decide | (dsimp only; first | done | omega)) ?_
      exact ⟨_, rfl, a', _, sg_dj dx, rfl, Or.inl ⟨rfl, _, hp, (by rw [b01_f c_8]; rfl)⟩⟩
    · refine V_lconst (v := 1) X d_L_found_11 (by decide) ?_
      refine V_goto (tgt := 16) X d_L_found_12 (by decide) ?_
      refine V_last (j := 0) X (jn_o dx) rfl (by decide) (by decide) d_L_found_16 ?_
      rw [mUp_jn dx]
      refine V_goto (tgt := 28) X d_L_found_17 (by decide) ?_
      refine V_iconst (v := 0) X d_L_found_28 (by decide) ?_
      refine V_iret X rfl d_L_found_29 (by first | omega | decide | (dsimp only; first | done | omega)) (by first | omega | decide | (dsimp only; first | done | omega)) ?_
      exact ⟨_, rfl, a', _, sg_dj dx, rfl, Or.inl ⟨rfl, _, hp, (by rw [b01_t c_8]; rfl)⟩⟩
theorem h_write (l : Launch) (g : GG) (N0 : Nat → Prop) {hc : Mp} {s o : Nat} {fs : List Value} {f : Nat → Int64} {post : Option Value → Mp → Prop} {xp : String → Mp → Prop} (p0 p1 p2 : Int32) (hC : ∀ N1, CtT l T_S_write g N1 hc (va_rf (some s) :: [.int p0, .int p1, .int p2]) post xp) (hs : hc s = some (.inr (6, fs))) (hk : ∀ v h', post v h' → ∃ x, v = some x ∧ kI x) (he : ∀ E h', xp E h' → E ∈ eI) (d : dj hc (sg o (cO g f))) : CtH l y_L_write b_L_write 6 (some .int) [(0, 12, 15, 21), (0, 12, 19, 15)] 9 158 4 19 g N0 (jn hc (sg o (cO g f))) [va_rf (some s), .int p0, .int p1, .int p2, va_rf (some o)] (pI (hPost g o post xp cdI)) nox := by
  refine CtH_of "SnapshotStoreLaw" "write" [some (va_rf (some s)), some (.int p0), some (.int p1), some (.int p2), some (va_rf (some o)), none] (by decide) rfl rfl (by simp [lg_sl, rf_cat, cat_i, cat_l]) (by simp [toL, lv_args, rf_cat, cat_i, cat_l]) (fun K hl X => ?_)
  subst hl
  refine al_4 X d_L_write_0 ?_
  refine V_iconst (v := 0) X d_L_write_2 (by decide) ?_
  refine al_0 X d_L_write_3 ?_
  refine il_1 X d_L_write_4 ?_
  refine il_2 X d_L_write_5 ?_
  refine il_3 X d_L_write_6 ?_
  refine V_contF (runVF (y := y_S_write) (b' := b_S_write) (nL' := 4) (ret' := (some .int)) (fr := 8) (lo := 135) (mc := 4) (ms := 19) (As := [.int p0, .int p1, .int p2]) X d hC k_347 k_348 k_349 k_1 k_350 (n := 3) (by decide +kernel) (ci := 6) rfl rfl hs (by refine ⟨?_, ?_⟩ <;> first | decide | (dsimp only; first | done | omega)) (by first | decide | (simp only [List.map, rf_cat, cat_i, cat_l, List.sum_cons, List.sum_nil]; first | done | decide | omega)) ⟨(by first | omega | decide | (dsimp only; first | done | omega)), (by first | omega | decide | (dsimp only; first | done | omega))⟩ d_L_write_7) (fun E a' hx dx => ?_) (fun v a' hp dx => ?_)
  · have hE := he E a' hx
    simp only [eI, List.mem_cons, List.not_mem_nil, or_false] at hE
    rcases hE with rfl | rfl
    · refine V_catch X [] ⟨0, 12, 15, 21⟩ [⟨0, 12, 19, 15⟩] rfl (fun z hz => by cases hz) (by decide) (by decide) (by decide) k_272 (fun q => ?_)
      refine as_5 X d_L_write_15 rfl (by first | exact okp_n | exact okp_i | exact okp_r) ?_
      refine V_iconst (v := 1) X d_L_write_17 (by decide) ?_
      refine V_iret X rfl d_L_write_18 (by first | omega | decide | (dsimp only; first | done | omega)) (by first | omega | decide | (dsimp only; first | done | omega)) ?_
      exact ⟨_, rfl, a', f, dx, rfl, Or.inr ⟨_, hx, rfl⟩⟩
    · refine V_catch X [⟨0, 12, 15, 21⟩] ⟨0, 12, 19, 15⟩ [] rfl (fun z hz => by
        simp only [List.mem_cons, List.not_mem_nil, or_false] at hz
        rcases hz with rfl
        · exact ⟨by decide, "java/lang/IndexOutOfBoundsException", k_272, by decide, by decide⟩) (by decide) (by decide) (by decide) k_143 (fun q => ?_)
      refine as_5 X d_L_write_19 rfl (by first | exact okp_n | exact okp_i | exact okp_r) ?_
      refine V_iconst (v := 2) X d_L_write_21 (by decide) ?_
      refine V_iret X rfl d_L_write_22 (by first | omega | decide | (dsimp only; first | done | omega)) (by first | omega | decide | (dsimp only; first | done | omega)) ?_
      exact ⟨_, rfl, a', f, dx, rfl, Or.inr ⟨_, hx, rfl⟩⟩
  · obtain ⟨x, rfl, r, rfl⟩ := hk v a' hp
    refine V_i2l X d_L_write_10 ?_
    refine V_last (j := 0) X (jn_o dx) rfl (by decide) (by decide) d_L_write_11 ?_
    rw [mUp_jn dx]
    refine V_goto (tgt := 23) X d_L_write_12 (by decide) ?_
    refine V_iconst (v := 0) X d_L_write_23 (by decide) ?_
    refine V_iret X rfl d_L_write_24 (by first | omega | decide | (dsimp only; first | done | omega)) (by first | omega | decide | (dsimp only; first | done | omega)) ?_
    exact ⟨_, rfl, a', _, sg_dj dx, rfl, Or.inl ⟨rfl, _, hp, rfl⟩⟩
theorem h_erase (l : Launch) (g : GG) (N0 : Nat → Prop) {hc : Mp} {s o : Nat} {fs : List Value} {f : Nat → Int64} {post : Option Value → Mp → Prop} {xp : String → Mp → Prop} (p0 p1 : Int32) (hC : ∀ N1, CtT l T_S_erase g N1 hc (va_rf (some s) :: [.int p0, .int p1]) post xp) (hs : hc s = some (.inr (6, fs))) (hk : ∀ v h', post v h' → ∃ x, v = some x ∧ kI x) (he : ∀ E h', xp E h' → E ∈ eI) (d : dj hc (sg o (cO g f))) : CtH l y_L_erase b_L_erase 5 (some .int) [(0, 10, 13, 21), (0, 10, 17, 15)] 9 157 4 19 g N0 (jn hc (sg o (cO g f))) [va_rf (some s), .int p0, .int p1, va_rf (some o)] (pI (hPost g o post xp cdI)) nox := by
  refine CtH_of "SnapshotStoreLaw" "erase" [some (va_rf (some s)), some (.int p0), some (.int p1), some (va_rf (some o)), none] (by decide) rfl rfl (by simp [lg_sl, rf_cat, cat_i, cat_l]) (by simp [toL, lv_args, rf_cat, cat_i, cat_l]) (fun K hl X => ?_)
  subst hl
  refine al_3 X d_L_erase_0 ?_
  refine V_iconst (v := 0) X d_L_erase_1 (by decide) ?_
  refine al_0 X d_L_erase_2 ?_
  refine il_1 X d_L_erase_3 ?_
  refine il_2 X d_L_erase_4 ?_
  refine V_contF (runVF (y := y_S_erase) (b' := b_S_erase) (nL' := 3) (ret' := (some .int)) (fr := 8) (lo := 135) (mc := 4) (ms := 19) (As := [.int p0, .int p1]) X d hC k_410 k_411 k_412 k_1 k_413 (n := 2) (by decide +kernel) (ci := 6) rfl rfl hs (by refine ⟨?_, ?_⟩ <;> first | decide | (dsimp only; first | done | omega)) (by first | decide | (simp only [List.map, rf_cat, cat_i, cat_l, List.sum_cons, List.sum_nil]; first | done | decide | omega)) ⟨(by first | omega | decide | (dsimp only; first | done | omega)), (by first | omega | decide | (dsimp only; first | done | omega))⟩ d_L_erase_5) (fun E a' hx dx => ?_) (fun v a' hp dx => ?_)
  · have hE := he E a' hx
    simp only [eI, List.mem_cons, List.not_mem_nil, or_false] at hE
    rcases hE with rfl | rfl
    · refine V_catch X [] ⟨0, 10, 13, 21⟩ [⟨0, 10, 17, 15⟩] rfl (fun z hz => by cases hz) (by decide) (by decide) (by decide) k_272 (fun q => ?_)
      refine as_4 X d_L_erase_13 rfl (by first | exact okp_n | exact okp_i | exact okp_r) ?_
      refine V_iconst (v := 1) X d_L_erase_15 (by decide) ?_
      refine V_iret X rfl d_L_erase_16 (by first | omega | decide | (dsimp only; first | done | omega)) (by first | omega | decide | (dsimp only; first | done | omega)) ?_
      exact ⟨_, rfl, a', f, dx, rfl, Or.inr ⟨_, hx, rfl⟩⟩
    · refine V_catch X [⟨0, 10, 13, 21⟩] ⟨0, 10, 17, 15⟩ [] rfl (fun z hz => by
        simp only [List.mem_cons, List.not_mem_nil, or_false] at hz
        rcases hz with rfl
        · exact ⟨by decide, "java/lang/IndexOutOfBoundsException", k_272, by decide, by decide⟩) (by decide) (by decide) (by decide) k_143 (fun q => ?_)
      refine as_4 X d_L_erase_17 rfl (by first | exact okp_n | exact okp_i | exact okp_r) ?_
      refine V_iconst (v := 2) X d_L_erase_19 (by decide) ?_
      refine V_iret X rfl d_L_erase_20 (by first | omega | decide | (dsimp only; first | done | omega)) (by first | omega | decide | (dsimp only; first | done | omega)) ?_
      exact ⟨_, rfl, a', f, dx, rfl, Or.inr ⟨_, hx, rfl⟩⟩
  · obtain ⟨x, rfl, r, rfl⟩ := hk v a' hp
    refine V_i2l X d_L_erase_8 ?_
    refine V_last (j := 0) X (jn_o dx) rfl (by decide) (by decide) d_L_erase_9 ?_
    rw [mUp_jn dx]
    refine V_goto (tgt := 21) X d_L_erase_10 (by decide) ?_
    refine V_iconst (v := 0) X d_L_erase_21 (by decide) ?_
    refine V_iret X rfl d_L_erase_22 (by first | omega | decide | (dsimp only; first | done | omega)) (by first | omega | decide | (dsimp only; first | done | omega)) ?_
    exact ⟨_, rfl, a', _, sg_dj dx, rfl, Or.inl ⟨rfl, _, hp, rfl⟩⟩
theorem h_sum (l : Launch) (g : GG) (N0 : Nat → Prop) {hc : Mp} {s o : Nat} {fs : List Value} {f : Nat → Int64} {post : Option Value → Mp → Prop} {xp : String → Mp → Prop} (p0 p1 p2 : Int32) (hC : ∀ N1, CtT l T_S_sum g N1 hc (va_rf (some s) :: [.int p0, .int p1, .int p2]) post xp) (hs : hc s = some (.inr (6, fs))) (hk : ∀ v h', post v h' → ∃ x, v = some x ∧ kL x) (he : ∀ E h', xp E h' → E ∈ eI) (d : dj hc (sg o (cO g f))) : CtH l y_L_sum b_L_sum 6 (some .int) [(0, 11, 14, 21), (0, 11, 18, 15)] 9 161 3 15 g N0 (jn hc (sg o (cO g f))) [va_rf (some s), .int p0, .int p1, .int p2, va_rf (some o)] (pI (hPost g o post xp cdI)) nox := by
  refine CtH_of "SnapshotStoreLaw" "sum" [some (va_rf (some s)), some (.int p0), some (.int p1), some (.int p2), some (va_rf (some o)), none] (by decide) rfl rfl (by simp [lg_sl, rf_cat, cat_i, cat_l]) (by simp [toL, lv_args, rf_cat, cat_i, cat_l]) (fun K hl X => ?_)
  subst hl
  refine al_4 X d_L_sum_0 ?_
  refine V_iconst (v := 0) X d_L_sum_2 (by decide) ?_
  refine al_0 X d_L_sum_3 ?_
  refine il_1 X d_L_sum_4 ?_
  refine il_2 X d_L_sum_5 ?_
  refine il_3 X d_L_sum_6 ?_
  refine V_contF (runVF (y := y_S_sum) (b' := b_S_sum) (nL' := 8) (ret' := (some .long)) (fr := 8) (lo := 134) (mc := 3) (ms := 15) (As := [.int p0, .int p1, .int p2]) X d hC k_417 k_418 k_419 k_1 k_420 (n := 3) (by decide +kernel) (ci := 6) rfl rfl hs (by refine ⟨?_, ?_⟩ <;> first | decide | (dsimp only; first | done | omega)) (by first | decide | (simp only [List.map, rf_cat, cat_i, cat_l, List.sum_cons, List.sum_nil]; first | done | decide | omega)) ⟨(by first | omega | decide | (dsimp only; first | done | omega)), (by first | omega | decide | (dsimp only; first | done | omega))⟩ d_L_sum_7) (fun E a' hx dx => ?_) (fun v a' hp dx => ?_)
  · have hE := he E a' hx
    simp only [eI, List.mem_cons, List.not_mem_nil, or_false] at hE
    rcases hE with rfl | rfl
    · refine V_catch X [] ⟨0, 11, 14, 21⟩ [⟨0, 11, 18, 15⟩] rfl (fun z hz => by cases hz) (by decide) (by decide) (by decide) k_272 (fun q => ?_)
      refine as_5 X d_L_sum_14 rfl (by first | exact okp_n | exact okp_i | exact okp_r) ?_
      refine V_iconst (v := 1) X d_L_sum_16 (by decide) ?_
      refine V_iret X rfl d_L_sum_17 (by first | omega | decide | (dsimp only; first | done | omega)) (by first | omega | decide | (dsimp only; first | done | omega)) ?_
      exact ⟨_, rfl, a', f, dx, rfl, Or.inr ⟨_, hx, rfl⟩⟩
    · refine V_catch X [⟨0, 11, 14, 21⟩] ⟨0, 11, 18, 15⟩ [] rfl (fun z hz => by
        simp only [List.mem_cons, List.not_mem_nil, or_false] at hz
        rcases hz with rfl
        · exact ⟨by decide, "java/lang/IndexOutOfBoundsException", k_272, by decide, by decide⟩) (by decide) (by decide) (by decide) k_143 (fun q => ?_)
      refine as_5 X d_L_sum_18 rfl (by first | exact okp_n | exact okp_i | exact okp_r) ?_
      refine V_iconst (v := 2) X d_L_sum_20 (by decide) ?_
      refine V_iret X rfl d_L_sum_21 (by first | omega | decide | (dsimp only; first | done | omega)) (by first | omega | decide | (dsimp only; first | done | omega)) ?_
      exact ⟨_, rfl, a', f, dx, rfl, Or.inr ⟨_, hx, rfl⟩⟩
  · obtain ⟨x, rfl, r, rfl⟩ := hk v a' hp
    refine V_last (j := 0) X (jn_o dx) rfl (by decide) (by decide) d_L_sum_10 ?_
    rw [mUp_jn dx]
    refine V_goto (tgt := 22) X d_L_sum_11 (by decide) ?_
    refine V_iconst (v := 0) X d_L_sum_22 (by decide) ?_
    refine V_iret X rfl d_L_sum_23 (by first | omega | decide | (dsimp only; first | done | omega)) (by first | omega | decide | (dsimp only; first | done | omega)) ?_
    exact ⟨_, rfl, a', _, sg_dj dx, rfl, Or.inl ⟨rfl, _, hp, rfl⟩⟩
theorem h_key (l : Launch) (g : GG) (N0 : Nat → Prop) {hc : Mp} {s o : Nat} {fs : List Value} {f : Nat → Int64} {post : Option Value → Mp → Prop} {xp : String → Mp → Prop} (p0 p1 p2 : Int32) (hC : ∀ N1, CtT l T_S_key g N1 hc (va_rf (some s) :: [.int p0, .int p1, .int p2]) post xp) (hs : hc s = some (.inr (6, fs))) (hk : ∀ v h', post v h' → ∃ x, v = some x ∧ kL x) (he : ∀ E h', xp E h' → E ∈ eJ) (d : dj hc (sg o (cO g f))) : CtH l y_L_key b_L_key 6 (some .int) [(0, 11, 14, 21), (0, 11, 18, 15), (0, 11, 22, 13)] 9 159 3 18 g N0 (jn hc (sg o (cO g f))) [va_rf (some s), .int p0, .int p1, .int p2, va_rf (some o)] (pI (hPost g o post xp cdI)) nox := by
  refine CtH_of "SnapshotStoreLaw" "key" [some (va_rf (some s)), some (.int p0), some (.int p1), some (.int p2), some (va_rf (some o)), none] (by decide) rfl rfl (by simp [lg_sl, rf_cat, cat_i, cat_l]) (by simp [toL, lv_args, rf_cat, cat_i, cat_l]) (fun K hl X => ?_)
  subst hl
  refine al_4 X d_L_key_0 ?_
  refine V_iconst (v := 0) X d_L_key_2 (by decide) ?_
  refine al_0 X d_L_key_3 ?_
  refine il_1 X d_L_key_4 ?_
  refine il_2 X d_L_key_5 ?_
  refine il_3 X d_L_key_6 ?_
  refine V_contF (runVF (y := y_S_key) (b' := b_S_key) (nL' := 6) (ret' := (some .long)) (fr := 8) (lo := 134) (mc := 3) (ms := 18) (As := [.int p0, .int p1, .int p2]) X d hC k_424 k_425 k_426 k_1 k_427 (n := 3) (by decide +kernel) (ci := 6) rfl rfl hs (by refine ⟨?_, ?_⟩ <;> first | decide | (dsimp only; first | done | omega)) (by first | decide | (simp only [List.map, rf_cat, cat_i, cat_l, List.sum_cons, List.sum_nil]; first | done | decide | omega)) ⟨(by first | omega | decide | (dsimp only; first | done | omega)), (by first | omega | decide | (dsimp only; first | done | omega))⟩ d_L_key_7) (fun E a' hx dx => ?_) (fun v a' hp dx => ?_)
  · have hE := he E a' hx
    simp only [eJ, List.mem_cons, List.not_mem_nil, or_false] at hE
    rcases hE with rfl | rfl | rfl
    · refine V_catch X [] ⟨0, 11, 14, 21⟩ [⟨0, 11, 18, 15⟩, ⟨0, 11, 22, 13⟩] rfl (fun z hz => by cases hz) (by decide) (by decide) (by decide) k_272 (fun q => ?_)
      refine as_5 X d_L_key_14 rfl (by first | exact okp_n | exact okp_i | exact okp_r) ?_
      refine V_iconst (v := 1) X d_L_key_16 (by decide) ?_
      refine V_iret X rfl d_L_key_17 (by first | omega | decide | (dsimp only; first | done | omega)) (by first | omega | decide | (dsimp only; first | done | omega)) ?_
      exact ⟨_, rfl, a', f, dx, rfl, Or.inr ⟨_, hx, rfl⟩⟩
    · refine V_catch X [⟨0, 11, 14, 21⟩] ⟨0, 11, 18, 15⟩ [⟨0, 11, 22, 13⟩] rfl (fun z hz => by
        simp only [List.mem_cons, List.not_mem_nil, or_false] at hz
        rcases hz with rfl
        · exact ⟨by decide, "java/lang/IndexOutOfBoundsException", k_272, by decide, by decide⟩) (by decide) (by decide) (by decide) k_143 (fun q => ?_)
      refine as_5 X d_L_key_18 rfl (by first | exact okp_n | exact okp_i | exact okp_r) ?_
      refine V_iconst (v := 2) X d_L_key_20 (by decide) ?_
      refine V_iret X rfl d_L_key_21 (by first | omega | decide | (dsimp only; first | done | omega)) (by first | omega | decide | (dsimp only; first | done | omega)) ?_
      exact ⟨_, rfl, a', f, dx, rfl, Or.inr ⟨_, hx, rfl⟩⟩
    · refine V_catch X [⟨0, 11, 14, 21⟩, ⟨0, 11, 18, 15⟩] ⟨0, 11, 22, 13⟩ [] rfl (fun z hz => by
        simp only [List.mem_cons, List.not_mem_nil, or_false] at hz
        rcases hz with rfl | rfl
        · exact ⟨by decide, "java/lang/IndexOutOfBoundsException", k_272, by decide, by decide⟩
        · exact ⟨by decide, "java/lang/IllegalStateException", k_143, by decide, by decide⟩) (by decide) (by decide) (by decide) k_142 (fun q => ?_)
      refine as_5 X d_L_key_22 rfl (by first | exact okp_n | exact okp_i | exact okp_r) ?_
      refine V_iconst (v := 3) X d_L_key_24 (by decide) ?_
      refine V_iret X rfl d_L_key_25 (by first | omega | decide | (dsimp only; first | done | omega)) (by first | omega | decide | (dsimp only; first | done | omega)) ?_
      exact ⟨_, rfl, a', f, dx, rfl, Or.inr ⟨_, hx, rfl⟩⟩
  · obtain ⟨x, rfl, r, rfl⟩ := hk v a' hp
    refine V_last (j := 0) X (jn_o dx) rfl (by decide) (by decide) d_L_key_10 ?_
    rw [mUp_jn dx]
    refine V_goto (tgt := 26) X d_L_key_11 (by decide) ?_
    refine V_iconst (v := 0) X d_L_key_26 (by decide) ?_
    refine V_iret X rfl d_L_key_27 (by first | omega | decide | (dsimp only; first | done | omega)) (by first | omega | decide | (dsimp only; first | done | omega)) ?_
    exact ⟨_, rfl, a', _, sg_dj dx, rfl, Or.inl ⟨rfl, _, hp, rfl⟩⟩
theorem h_save (l : Launch) (g : GG) (N0 : Nat → Prop) {hc : Mp} {s o : Nat} {fs : List Value} {f : Nat → Int64} {post : Option Value → Mp → Prop} {xp : String → Mp → Prop} (p0 : Int32) (hC : ∀ N1, CtT l T_S_save g N1 hc (va_rf (some s) :: [.int p0]) post xp) (hs : hc s = some (.inr (6, fs))) (hk : ∀ v h', post v h' → ∃ x, v = some x ∧ kI x) (he : ∀ E h', xp E h' → E ∈ eI) (d : dj hc (sg o (cO g f))) : CtH l y_L_save b_L_save 4 (some .int) [(0, 9, 12, 21), (0, 9, 15, 15)] 9 157 3 18 g N0 (jn hc (sg o (cO g f))) [va_rf (some s), .int p0, va_rf (some o)] (pI (hPost g o post xp cdI)) nox := by
  refine CtH_of "SnapshotStoreLaw" "save" [some (va_rf (some s)), some (.int p0), some (va_rf (some o)), none] (by decide) rfl rfl (by simp [lg_sl, rf_cat, cat_i, cat_l]) (by simp [toL, lv_args, rf_cat, cat_i, cat_l]) (fun K hl X => ?_)
  subst hl
  refine al_2 X d_L_save_0 ?_
  refine V_iconst (v := 0) X d_L_save_1 (by decide) ?_
  refine al_0 X d_L_save_2 ?_
  refine il_1 X d_L_save_3 ?_
  refine V_contF (runVF (y := y_S_save) (b' := b_S_save) (nL' := 4) (ret' := (some .int)) (fr := 8) (lo := 134) (mc := 3) (ms := 18) (As := [.int p0]) X d hC k_436 k_437 k_438 k_1 k_439 (n := 1) (by decide +kernel) (ci := 6) rfl rfl hs (by refine ⟨?_, ?_⟩ <;> first | decide | (dsimp only; first | done | omega)) (by first | decide | (simp only [List.map, rf_cat, cat_i, cat_l, List.sum_cons, List.sum_nil]; first | done | decide | omega)) ⟨(by first | omega | decide | (dsimp only; first | done | omega)), (by first | omega | decide | (dsimp only; first | done | omega))⟩ d_L_save_4) (fun E a' hx dx => ?_) (fun v a' hp dx => ?_)
  · have hE := he E a' hx
    simp only [eI, List.mem_cons, List.not_mem_nil, or_false] at hE
    rcases hE with rfl | rfl
    · refine V_catch X [] ⟨0, 9, 12, 21⟩ [⟨0, 9, 15, 15⟩] rfl (fun z hz => by cases hz) (by decide) (by decide) (by decide) k_272 (fun q => ?_)
      refine as_3 X d_L_save_12 rfl (by first | exact okp_n | exact okp_i | exact okp_r) ?_
      refine V_iconst (v := 1) X d_L_save_13 (by decide) ?_
      refine V_iret X rfl d_L_save_14 (by first | omega | decide | (dsimp only; first | done | omega)) (by first | omega | decide | (dsimp only; first | done | omega)) ?_
      exact ⟨_, rfl, a', f, dx, rfl, Or.inr ⟨_, hx, rfl⟩⟩
    · refine V_catch X [⟨0, 9, 12, 21⟩] ⟨0, 9, 15, 15⟩ [] rfl (fun z hz => by
        simp only [List.mem_cons, List.not_mem_nil, or_false] at hz
        rcases hz with rfl
        · exact ⟨by decide, "java/lang/IndexOutOfBoundsException", k_272, by decide, by decide⟩) (by decide) (by decide) (by decide) k_143 (fun q => ?_)
      refine as_3 X d_L_save_15 rfl (by first | exact okp_n | exact okp_i | exact okp_r) ?_
      refine V_iconst (v := 2) X d_L_save_16 (by decide) ?_
      refine V_iret X rfl d_L_save_17 (by first | omega | decide | (dsimp only; first | done | omega)) (by first | omega | decide | (dsimp only; first | done | omega)) ?_
      exact ⟨_, rfl, a', f, dx, rfl, Or.inr ⟨_, hx, rfl⟩⟩
  · obtain ⟨x, rfl, r, rfl⟩ := hk v a' hp
    refine V_i2l X d_L_save_7 ?_
    refine V_last (j := 0) X (jn_o dx) rfl (by decide) (by decide) d_L_save_8 ?_
    rw [mUp_jn dx]
    refine V_goto (tgt := 18) X d_L_save_9 (by decide) ?_
    refine V_iconst (v := 0) X d_L_save_18 (by decide) ?_
    refine V_iret X rfl d_L_save_19 (by first | omega | decide | (dsimp only; first | done | omega)) (by first | omega | decide | (dsimp only; first | done | omega)) ?_
    exact ⟨_, rfl, a', _, sg_dj dx, rfl, Or.inl ⟨rfl, _, hp, rfl⟩⟩
theorem h_back (l : Launch) (g : GG) (N0 : Nat → Prop) {hc : Mp} {s o : Nat} {fs : List Value} {f : Nat → Int64} {post : Option Value → Mp → Prop} {xp : String → Mp → Prop} (p0 p1 : Int32) (hC : ∀ N1, CtT l T_S_back g N1 hc (va_rf (some s) :: [.int p0, .int p1]) post xp) (hs : hc s = some (.inr (6, fs))) (hk : ∀ v h', post v h' → ∃ x, v = some x ∧ kI x) (he : ∀ E h', xp E h' → E ∈ eJ) (d : dj hc (sg o (cO g f))) : CtH l y_L_back b_L_back 5 (some .int) [(0, 10, 13, 21), (0, 10, 17, 15), (0, 10, 21, 13)] 9 158 3 18 g N0 (jn hc (sg o (cO g f))) [va_rf (some s), .int p0, .int p1, va_rf (some o)] (pI (hPost g o post xp cdI)) nox := by
  refine CtH_of "SnapshotStoreLaw" "back" [some (va_rf (some s)), some (.int p0), some (.int p1), some (va_rf (some o)), none] (by decide) rfl rfl (by simp [lg_sl, rf_cat, cat_i, cat_l]) (by simp [toL, lv_args, rf_cat, cat_i, cat_l]) (fun K hl X => ?_)
  subst hl
  refine al_3 X d_L_back_0 ?_
  refine V_iconst (v := 0) X d_L_back_1 (by decide) ?_
  refine al_0 X d_L_back_2 ?_
  refine il_1 X d_L_back_3 ?_
  refine il_2 X d_L_back_4 ?_
  refine V_contF (runVF (y := y_S_back) (b' := b_S_back) (nL' := 5) (ret' := (some .int)) (fr := 8) (lo := 134) (mc := 3) (ms := 18) (As := [.int p0, .int p1]) X d hC k_467 k_468 k_469 k_1 k_470 (n := 2) (by decide +kernel) (ci := 6) rfl rfl hs (by refine ⟨?_, ?_⟩ <;> first | decide | (dsimp only; first | done | omega)) (by first | decide | (simp only [List.map, rf_cat, cat_i, cat_l, List.sum_cons, List.sum_nil]; first | done | decide | omega)) ⟨(by first | omega | decide | (dsimp only; first | done | omega)), (by first | omega | decide | (dsimp only; first | done | omega))⟩ d_L_back_5) (fun E a' hx dx => ?_) (fun v a' hp dx => ?_)
  · have hE := he E a' hx
    simp only [eJ, List.mem_cons, List.not_mem_nil, or_false] at hE
    rcases hE with rfl | rfl | rfl
    · refine V_catch X [] ⟨0, 10, 13, 21⟩ [⟨0, 10, 17, 15⟩, ⟨0, 10, 21, 13⟩] rfl (fun z hz => by cases hz) (by decide) (by decide) (by decide) k_272 (fun q => ?_)
      refine as_4 X d_L_back_13 rfl (by first | exact okp_n | exact okp_i | exact okp_r) ?_
      refine V_iconst (v := 1) X d_L_back_15 (by decide) ?_
      refine V_iret X rfl d_L_back_16 (by first | omega | decide | (dsimp only; first | done | omega)) (by first | omega | decide | (dsimp only; first | done | omega)) ?_
      exact ⟨_, rfl, a', f, dx, rfl, Or.inr ⟨_, hx, rfl⟩⟩
    · refine V_catch X [⟨0, 10, 13, 21⟩] ⟨0, 10, 17, 15⟩ [⟨0, 10, 21, 13⟩] rfl (fun z hz => by
        simp only [List.mem_cons, List.not_mem_nil, or_false] at hz
        rcases hz with rfl
        · exact ⟨by decide, "java/lang/IndexOutOfBoundsException", k_272, by decide, by decide⟩) (by decide) (by decide) (by decide) k_143 (fun q => ?_)
      refine as_4 X d_L_back_17 rfl (by first | exact okp_n | exact okp_i | exact okp_r) ?_
      refine V_iconst (v := 2) X d_L_back_19 (by decide) ?_
      refine V_iret X rfl d_L_back_20 (by first | omega | decide | (dsimp only; first | done | omega)) (by first | omega | decide | (dsimp only; first | done | omega)) ?_
      exact ⟨_, rfl, a', f, dx, rfl, Or.inr ⟨_, hx, rfl⟩⟩
    · refine V_catch X [⟨0, 10, 13, 21⟩, ⟨0, 10, 17, 15⟩] ⟨0, 10, 21, 13⟩ [] rfl (fun z hz => by
        simp only [List.mem_cons, List.not_mem_nil, or_false] at hz
        rcases hz with rfl | rfl
        · exact ⟨by decide, "java/lang/IndexOutOfBoundsException", k_272, by decide, by decide⟩
        · exact ⟨by decide, "java/lang/IllegalStateException", k_143, by decide, by decide⟩) (by decide) (by decide) (by decide) k_142 (fun q => ?_)
      refine as_4 X d_L_back_21 rfl (by first | exact okp_n | exact okp_i | exact okp_r) ?_
      refine V_iconst (v := 3) X d_L_back_23 (by decide) ?_
      refine V_iret X rfl d_L_back_24 (by first | omega | decide | (dsimp only; first | done | omega)) (by first | omega | decide | (dsimp only; first | done | omega)) ?_
      exact ⟨_, rfl, a', f, dx, rfl, Or.inr ⟨_, hx, rfl⟩⟩
  · obtain ⟨x, rfl, r, rfl⟩ := hk v a' hp
    refine V_i2l X d_L_back_8 ?_
    refine V_last (j := 0) X (jn_o dx) rfl (by decide) (by decide) d_L_back_9 ?_
    rw [mUp_jn dx]
    refine V_goto (tgt := 25) X d_L_back_10 (by decide) ?_
    refine V_iconst (v := 0) X d_L_back_25 (by decide) ?_
    refine V_iret X rfl d_L_back_26 (by first | omega | decide | (dsimp only; first | done | omega)) (by first | omega | decide | (dsimp only; first | done | omega)) ?_
    exact ⟨_, rfl, a', _, sg_dj dx, rfl, Or.inl ⟨rfl, _, hp, rfl⟩⟩
theorem h_commit (l : Launch) (g : GG) (N0 : Nat → Prop) {hc : Mp} {s o : Nat} {fs : List Value} {f : Nat → Int64} {post : Option Value → Mp → Prop} {xp : String → Mp → Prop} (p0 : Int32) (hC : ∀ N1, CtT l T_S_commit g N1 hc (va_rf (some s) :: [.int p0]) post xp) (hs : hc s = some (.inr (6, fs))) (hk : ∀ v h', post v h' → ∃ x, v = some x ∧ kI x) (he : ∀ E h', xp E h' → E ∈ eI) (d : dj hc (sg o (cO g f))) : CtH l y_L_commit b_L_commit 4 (some .int) [(0, 9, 12, 21), (0, 9, 15, 15)] 9 157 514 1548 g N0 (jn hc (sg o (cO g f))) [va_rf (some s), .int p0, va_rf (some o)] (pI (hPost g o post xp cdI)) nox := by
  refine CtH_of "SnapshotStoreLaw" "commit" [some (va_rf (some s)), some (.int p0), some (va_rf (some o)), none] (by decide) rfl rfl (by simp [lg_sl, rf_cat, cat_i, cat_l]) (by simp [toL, lv_args, rf_cat, cat_i, cat_l]) (fun K hl X => ?_)
  subst hl
  refine al_2 X d_L_commit_0 ?_
  refine V_iconst (v := 0) X d_L_commit_1 (by decide) ?_
  refine al_0 X d_L_commit_2 ?_
  refine il_1 X d_L_commit_3 ?_
  refine V_contF (runVF (y := y_S_commit) (b' := b_S_commit) (nL' := 4) (ret' := (some .int)) (fr := 8) (lo := 134) (mc := 514) (ms := 1548) (As := [.int p0]) X d hC k_479 k_480 k_481 k_1 k_482 (n := 1) (by decide +kernel) (ci := 6) rfl rfl hs (by refine ⟨?_, ?_⟩ <;> first | decide | (dsimp only; first | done | omega)) (by first | decide | (simp only [List.map, rf_cat, cat_i, cat_l, List.sum_cons, List.sum_nil]; first | done | decide | omega)) ⟨(by first | omega | decide | (dsimp only; first | done | omega)), (by first | omega | decide | (dsimp only; first | done | omega))⟩ d_L_commit_4) (fun E a' hx dx => ?_) (fun v a' hp dx => ?_)
  · have hE := he E a' hx
    simp only [eI, List.mem_cons, List.not_mem_nil, or_false] at hE
    rcases hE with rfl | rfl
    · refine V_catch X [] ⟨0, 9, 12, 21⟩ [⟨0, 9, 15, 15⟩] rfl (fun z hz => by cases hz) (by decide) (by decide) (by decide) k_272 (fun q => ?_)
      refine as_3 X d_L_commit_12 rfl (by first | exact okp_n | exact okp_i | exact okp_r) ?_
      refine V_iconst (v := 1) X d_L_commit_13 (by decide) ?_
      refine V_iret X rfl d_L_commit_14 (by first | omega | decide | (dsimp only; first | done | omega)) (by first | omega | decide | (dsimp only; first | done | omega)) ?_
      exact ⟨_, rfl, a', f, dx, rfl, Or.inr ⟨_, hx, rfl⟩⟩
    · refine V_catch X [⟨0, 9, 12, 21⟩] ⟨0, 9, 15, 15⟩ [] rfl (fun z hz => by
        simp only [List.mem_cons, List.not_mem_nil, or_false] at hz
        rcases hz with rfl
        · exact ⟨by decide, "java/lang/IndexOutOfBoundsException", k_272, by decide, by decide⟩) (by decide) (by decide) (by decide) k_143 (fun q => ?_)
      refine as_3 X d_L_commit_15 rfl (by first | exact okp_n | exact okp_i | exact okp_r) ?_
      refine V_iconst (v := 2) X d_L_commit_16 (by decide) ?_
      refine V_iret X rfl d_L_commit_17 (by first | omega | decide | (dsimp only; first | done | omega)) (by first | omega | decide | (dsimp only; first | done | omega)) ?_
      exact ⟨_, rfl, a', f, dx, rfl, Or.inr ⟨_, hx, rfl⟩⟩
  · obtain ⟨x, rfl, r, rfl⟩ := hk v a' hp
    refine V_i2l X d_L_commit_7 ?_
    refine V_last (j := 0) X (jn_o dx) rfl (by decide) (by decide) d_L_commit_8 ?_
    rw [mUp_jn dx]
    refine V_goto (tgt := 18) X d_L_commit_9 (by decide) ?_
    refine V_iconst (v := 0) X d_L_commit_18 (by decide) ?_
    refine V_iret X rfl d_L_commit_19 (by first | omega | decide | (dsimp only; first | done | omega)) (by first | omega | decide | (dsimp only; first | done | omega)) ?_
    exact ⟨_, rfl, a', _, sg_dj dx, rfl, Or.inl ⟨rfl, _, hp, rfl⟩⟩
theorem h_abort (l : Launch) (g : GG) (N0 : Nat → Prop) {hc : Mp} {s o : Nat} {fs : List Value} {f : Nat → Int64} {post : Option Value → Mp → Prop} {xp : String → Mp → Prop} (p0 : Int32) (hC : ∀ N1, CtT l T_S_abort g N1 hc (va_rf (some s) :: [.int p0]) post xp) (hs : hc s = some (.inr (6, fs))) (hk : ∀ v h', post v h' → ∃ x, v = some x ∧ kI x) (he : ∀ E h', xp E h' → E ∈ eI) (d : dj hc (sg o (cO g f))) : CtH l y_L_abort b_L_abort 4 (some .int) [(0, 9, 12, 21), (0, 9, 15, 15)] 9 156 2 12 g N0 (jn hc (sg o (cO g f))) [va_rf (some s), .int p0, va_rf (some o)] (pI (hPost g o post xp cdI)) nox := by
  refine CtH_of "SnapshotStoreLaw" "abort" [some (va_rf (some s)), some (.int p0), some (va_rf (some o)), none] (by decide) rfl rfl (by simp [lg_sl, rf_cat, cat_i, cat_l]) (by simp [toL, lv_args, rf_cat, cat_i, cat_l]) (fun K hl X => ?_)
  subst hl
  refine al_2 X d_L_abort_0 ?_
  refine V_iconst (v := 0) X d_L_abort_1 (by decide) ?_
  refine al_0 X d_L_abort_2 ?_
  refine il_1 X d_L_abort_3 ?_
  refine V_contF (runVF (y := y_S_abort) (b' := b_S_abort) (nL' := 3) (ret' := (some .int)) (fr := 8) (lo := 134) (mc := 2) (ms := 12) (As := [.int p0]) X d hC k_536 k_537 k_538 k_1 k_539 (n := 1) (by decide +kernel) (ci := 6) rfl rfl hs (by refine ⟨?_, ?_⟩ <;> first | decide | (dsimp only; first | done | omega)) (by first | decide | (simp only [List.map, rf_cat, cat_i, cat_l, List.sum_cons, List.sum_nil]; first | done | decide | omega)) ⟨(by first | omega | decide | (dsimp only; first | done | omega)), (by first | omega | decide | (dsimp only; first | done | omega))⟩ d_L_abort_4) (fun E a' hx dx => ?_) (fun v a' hp dx => ?_)
  · have hE := he E a' hx
    simp only [eI, List.mem_cons, List.not_mem_nil, or_false] at hE
    rcases hE with rfl | rfl
    · refine V_catch X [] ⟨0, 9, 12, 21⟩ [⟨0, 9, 15, 15⟩] rfl (fun z hz => by cases hz) (by decide) (by decide) (by decide) k_272 (fun q => ?_)
      refine as_3 X d_L_abort_12 rfl (by first | exact okp_n | exact okp_i | exact okp_r) ?_
      refine V_iconst (v := 1) X d_L_abort_13 (by decide) ?_
      refine V_iret X rfl d_L_abort_14 (by first | omega | decide | (dsimp only; first | done | omega)) (by first | omega | decide | (dsimp only; first | done | omega)) ?_
      exact ⟨_, rfl, a', f, dx, rfl, Or.inr ⟨_, hx, rfl⟩⟩
    · refine V_catch X [⟨0, 9, 12, 21⟩] ⟨0, 9, 15, 15⟩ [] rfl (fun z hz => by
        simp only [List.mem_cons, List.not_mem_nil, or_false] at hz
        rcases hz with rfl
        · exact ⟨by decide, "java/lang/IndexOutOfBoundsException", k_272, by decide, by decide⟩) (by decide) (by decide) (by decide) k_143 (fun q => ?_)
      refine as_3 X d_L_abort_15 rfl (by first | exact okp_n | exact okp_i | exact okp_r) ?_
      refine V_iconst (v := 2) X d_L_abort_16 (by decide) ?_
      refine V_iret X rfl d_L_abort_17 (by first | omega | decide | (dsimp only; first | done | omega)) (by first | omega | decide | (dsimp only; first | done | omega)) ?_
      exact ⟨_, rfl, a', f, dx, rfl, Or.inr ⟨_, hx, rfl⟩⟩
  · obtain ⟨x, rfl, r, rfl⟩ := hk v a' hp
    refine V_i2l X d_L_abort_7 ?_
    refine V_last (j := 0) X (jn_o dx) rfl (by decide) (by decide) d_L_abort_8 ?_
    rw [mUp_jn dx]
    refine V_goto (tgt := 18) X d_L_abort_9 (by decide) ?_
    refine V_iconst (v := 0) X d_L_abort_18 (by decide) ?_
    refine V_iret X rfl d_L_abort_19 (by first | omega | decide | (dsimp only; first | done | omega)) (by first | omega | decide | (dsimp only; first | done | omega)) ?_
    exact ⟨_, rfl, a', _, sg_dj dx, rfl, Or.inl ⟨rfl, _, hp, rfl⟩⟩
theorem h_told (l : Launch) (g : GG) (N0 : Nat → Prop) {hc : Mp} {s o : Nat} {fs : List Value} {f : Nat → Int64} {post : Option Value → Mp → Prop} {xp : String → Mp → Prop} (p0 p1 : Int32) (hC : ∀ N1, CtT l T_S_told g N1 hc (va_rf (some s) :: [.int p0, .int p1]) post xp) (hs : hc s = some (.inr (6, fs))) (hk : ∀ v h', post v h' → ∃ x, v = some x ∧ kI x) (he : ∀ E h', xp E h' → E ∈ eT) (d : dj hc (sg o (cO g f))) : CtH l y_L_told b_L_told 5 (some .int) [(0, 10, 13, 21), (0, 10, 17, 13)] 8 135 2 12 g N0 (jn hc (sg o (cO g f))) [va_rf (some s), .int p0, .int p1, va_rf (some o)] (pI (hPost g o post xp cdT)) nox := by
  refine CtH_of "SnapshotStoreLaw" "told" [some (va_rf (some s)), some (.int p0), some (.int p1), some (va_rf (some o)), none] (by decide) rfl rfl (by simp [lg_sl, rf_cat, cat_i, cat_l]) (by simp [toL, lv_args, rf_cat, cat_i, cat_l]) (fun K hl X => ?_)
  subst hl
  refine al_3 X d_L_told_0 ?_
  refine V_iconst (v := 0) X d_L_told_1 (by decide) ?_
  refine al_0 X d_L_told_2 ?_
  refine il_1 X d_L_told_3 ?_
  refine il_2 X d_L_told_4 ?_
  refine V_contF (runVF (y := y_S_told) (b' := b_S_told) (nL' := 4) (ret' := (some .int)) (fr := 7) (lo := 112) (mc := 2) (ms := 12) (As := [.int p0, .int p1]) X d hC k_543 k_544 k_545 k_1 k_546 (n := 2) (by decide +kernel) (ci := 6) rfl rfl hs (by refine ⟨?_, ?_⟩ <;> first | decide | (dsimp only; first | done | omega)) (by first | decide | (simp only [List.map, rf_cat, cat_i, cat_l, List.sum_cons, List.sum_nil]; first | done | decide | omega)) ⟨(by first | omega | decide | (dsimp only; first | done | omega)), (by first | omega | decide | (dsimp only; first | done | omega))⟩ d_L_told_5) (fun E a' hx dx => ?_) (fun v a' hp dx => ?_)
  · have hE := he E a' hx
    simp only [eT, List.mem_cons, List.not_mem_nil, or_false] at hE
    rcases hE with rfl | rfl
    · refine V_catch X [] ⟨0, 10, 13, 21⟩ [⟨0, 10, 17, 13⟩] rfl (fun z hz => by cases hz) (by decide) (by decide) (by decide) k_272 (fun q => ?_)
      refine as_4 X d_L_told_13 rfl (by first | exact okp_n | exact okp_i | exact okp_r) ?_
      refine V_iconst (v := 1) X d_L_told_15 (by decide) ?_
      refine V_iret X rfl d_L_told_16 (by first | omega | decide | (dsimp only; first | done | omega)) (by first | omega | decide | (dsimp only; first | done | omega)) ?_
      exact ⟨_, rfl, a', f, dx, rfl, Or.inr ⟨_, hx, rfl⟩⟩
    · refine V_catch X [⟨0, 10, 13, 21⟩] ⟨0, 10, 17, 13⟩ [] rfl (fun z hz => by
        simp only [List.mem_cons, List.not_mem_nil, or_false] at hz
        rcases hz with rfl
        · exact ⟨by decide, "java/lang/IndexOutOfBoundsException", k_272, by decide, by decide⟩) (by decide) (by decide) (by decide) k_142 (fun q => ?_)
      refine as_4 X d_L_told_17 rfl (by first | exact okp_n | exact okp_i | exact okp_r) ?_
      refine V_iconst (v := 2) X d_L_told_19 (by decide) ?_
      refine V_iret X rfl d_L_told_20 (by first | omega | decide | (dsimp only; first | done | omega)) (by first | omega | decide | (dsimp only; first | done | omega)) ?_
      exact ⟨_, rfl, a', f, dx, rfl, Or.inr ⟨_, hx, rfl⟩⟩
  · obtain ⟨x, rfl, r, rfl⟩ := hk v a' hp
    refine V_i2l X d_L_told_8 ?_
    refine V_last (j := 0) X (jn_o dx) rfl (by decide) (by decide) d_L_told_9 ?_
    rw [mUp_jn dx]
    refine V_goto (tgt := 21) X d_L_told_10 (by decide) ?_
    refine V_iconst (v := 0) X d_L_told_21 (by decide) ?_
    refine V_iret X rfl d_L_told_22 (by first | omega | decide | (dsimp only; first | done | omega)) (by first | omega | decide | (dsimp only; first | done | omega)) ?_
    exact ⟨_, rfl, a', _, sg_dj dx, rfl, Or.inl ⟨rfl, _, hp, rfl⟩⟩
