-- the law: its script, and what a call leaves behind
theorem dj_r {a b c : Mp} (h1 : dj a b) (h2 : dj a c) : dj a (jn b c) := fun q h => by rw [jn_r (h1 q h)]; exact h2 q h
theorem dj_r1 {a b c : Mp} (h : dj a (jn b c)) : dj a b := fun q hq => by
  have := h q hq
  cases z : b q with
  | none => rfl
  | some x => rw [jn_l z] at this; cases this
theorem dj_r2 {a b c : Mp} (h : dj a (jn b c)) : dj a c := fun q hq => by
  have := h q hq
  rw [jn_r (dj_r1 h q hq)] at this
  exact this
theorem V_sld {K : Cx} {g : GG} {N0 : Nat → Prop} {nL : Nat} {Q : State → Prop} {h : Mp} {cells slots pc : Nat} {lv : List (Option Value)} {st : List Value} {cc : ByteArray} {own : String} {R0 : Room} {rt : Option FieldType} {nm : String} {ex : List ExceptionTableEntry} (X : Fx K g N0 cc nL own R0 rt nm ex) {b L : Nat} {xs : Nat → Int32} (hX : va_X b L xs (Ks K) (Ks K).heap ∧ L ≤ 2048) (hbl : b < (Ks K).heap.size) (hbA : ¬ N0 b) {i : Int32} {j : Nat} (hi : i = nI j) (hj : j < L) (d : decode cc pc = .ok (.iaload, 1)) (kk : V K g N0 nL Q h cells slots (pc + 1) lv (.int (xs j) :: st)) : V K g N0 nL Q h cells slots pc lv (.int i :: va_rf (some b) :: st) := fun H locs ls hM hS hl => by
  subst hi
  refine va_sld X.hx X.hb hX.1 hbl hbA hS (vp_in_nI hj (by omega)) d ?_
  rw [nI_clamp (by omega)]
  exact kk H locs ls hM hS hl
theorem V_slen {K : Cx} {g : GG} {N0 : Nat → Prop} {nL : Nat} {Q : State → Prop} {h : Mp} {cells slots pc : Nat} {lv : List (Option Value)} {st : List Value} {cc : ByteArray} {own : String} {R0 : Room} {rt : Option FieldType} {nm : String} {ex : List ExceptionTableEntry} (X : Fx K g N0 cc nL own R0 rt nm ex) {b L : Nat} {xs : Nat → Int32} (hX : va_X b L xs (Ks K) (Ks K).heap ∧ L ≤ 2048) (hbl : b < (Ks K).heap.size) (hbA : ¬ N0 b) (d : decode cc pc = .ok (.arraylength, 1)) (kk : V K g N0 nL Q h cells slots (pc + 1) lv (.int (nI L) :: st)) : V K g N0 nL Q h cells slots pc lv (va_rf (some b) :: st) := fun H locs ls hM hS hl => va_slen X.hx X.hb hX.1 hbl hbA hS d (kk H locs ls hM hS hl)
theorem St.s {g : GG} {s ta m : Nat} {ad : Nat → Nat} {hc hm : Mp} {N : Nat} {k : Int32} (S : St g s ta m ad hc hm N k) : ∃ fs, hc s = some (.inr (6, fs)) := by
  obtain ⟨ck, sf, nt, kl, tl, iv, ar, nv, w, wm, sm, hk⟩ := S
  exact ⟨_, w.hs⟩
theorem St.m {g : GG} {s ta m : Nat} {ad : Nat → Nat} {hc hm : Mp} {N : Nat} {k : Int32} (S : St g s ta m ad hc hm N k) : ∃ fs, hm m = some (.inr (7, fs)) := by
  obtain ⟨ck, sf, nt, kl, tl, iv, ar, nv, w, wm, sm, hk⟩ := S
  exact ⟨_, wm.1⟩
theorem St.up {g : GG} {s ta m : Nat} {ad : Nat → Nat} {hc hm : Mp} {N : Nat} {k : Int32} (S : St g s ta m ad hc hm N k) (hN : N < 512) : St g s ta m ad hc hm (N + 1) k := by
  obtain ⟨ck, sf, nt, kl, tl, iv, ar, nv, w, wm, sm, hk⟩ := S
  exact ⟨ck, sf, nt, kl, tl, iv, ar, nv, w, wm, sm.num (by omega) (fun _ _ _ => rfl), hk⟩
theorem St.thr {g : GG} {s ta m : Nat} {ad : Nat → Nat} {hc hm : Mp} {N : Nat} {k : Int32} (l : Launch) (S : St g s ta m ad hc hm N k) : ∀ N1, Ct l y_M_thrown b_M_thrown 1 (some .int) 0 0 0 0 g N1 hm [va_rf (some m)] (pI (fun r h' => r = k ∧ h' = hm)) nox := by
  obtain ⟨ck, sf, nt, kl, tl, iv, ar, nv, w, wm, sm, hk⟩ := S
  subst hk
  exact fun N1 => c_M_thrown l g N1 hm wm
theorem joint {l : Launch} {g : GG} {s ta m : Nat} {ad : Nat → Nat} {N : Nat} {hc' hm : Mp} {TM : CtP} {kd : Value → Prop} {es : List String} {cd : String → Int32} {av : List Value} {post : Option Value → Mp → Prop} {xp : String → Mp → Prop} {k : Int32} {y : Int64} (J1 : ∀ v h', post v h' → ∃ x, v = some x ∧ kd x ∧ CtW l TM g hm (va_rf (some m) :: av) (fun v' h'' => v' = some x ∧ St g s ta m ad h' h'' (N + 1) 0)) (J2 : ∀ E h', xp E h' → E ∈ es ∧ cd E ≠ 0 ∧ CtW l TM g hm (va_rf (some m) :: av) (fun v' h'' => (∃ x, v' = some x ∧ kd x) ∧ St g s ta m ad h' h'' (N + 1) (cd E))) (hcase : (k = 0 ∧ ∃ x, post (some x) hc' ∧ y = l64 x) ∨ ∃ E, xp E hc' ∧ k = cd E) : ∃ post2, (∀ N1, CtT l TM g N1 hm (va_rf (some m) :: av) post2 nox) ∧ ∀ v' h'', post2 v' h'' → ∃ x', v' = some x' ∧ kd x' ∧ (k = 0 → y = l64 x') ∧ St g s ta m ad hc' h'' (N + 1) k := by
  rcases hcase with ⟨rfl, x, hp, hy⟩ | ⟨E, hx, rfl⟩
  · obtain ⟨x2, e, h1, post2, h2, h3⟩ := J1 _ _ hp
    cases e
    refine ⟨post2, h2, fun v' h'' h => ?_⟩
    obtain ⟨h4, h5⟩ := h3 v' h'' h
    exact ⟨x, h4, h1, fun _ => hy, h5⟩
  · obtain ⟨-, h0, post2, h2, h3⟩ := J2 _ _ hx
    refine ⟨post2, h2, fun v' h'' h => ?_⟩
    obtain ⟨⟨x', h4, h6⟩, h5⟩ := h3 v' h'' h
    exact ⟨x', h4, h6, fun z => absurd z h0, h5⟩
def Cont (K : Cx) (g : GG) (N0 : Nat → Prop) (Q : State → Prop) (b s ta m o : Nat) (ad : Nat → Nat) (N cells slots : Nat) : Prop := ∀ (hc hm : Mp) (f : Nat → Int64) (k : Int32) (z5 z6 z7 : Option Value), St g s ta m ad hc hm (N + 1) k → dj hc (sg o (cO g f)) → dj (jn hc (sg o (cO g f))) hm → V K g N0 8 Q (jn (jn hc (sg o (cO g f))) hm) (cells + 514) (slots + 1548) 1092 [some (va_rf (some b)), some (va_rf (some s)), some (va_rf (some m)), some (va_rf (some o)), some (.int (nI (4 * N))), z5, z6, z7] []
section LW
variable {K : Cx} {g : GG} {N0 : Nat → Prop} {Q : State → Prop} {cells slots : Nat} {rt : Option FieldType} {nm : String} {ex : List ExceptionTableEntry} {b L : Nat} {xs : Nat → Int32} {s ta m o : Nat} {ad : Nat → Nat} {N : Nat} {hc hm : Mp} {f : Nat → Int64} {k0 : Int32} {z5 z6 z7 : Option Value}
theorem lw_begin (X : Fx K g N0 code 8 "SnapshotStoreLaw" room_1 rt nm ex) (scr : va_X b L xs (Ks K) (Ks K).heap ∧ L ≤ 2048) (hbl : b < (Ks K).heap.size) (hbA : ¬ N0 b) (hN : 4 * N + 4 ≤ L) (hN2 : N < 512) (S : St g s ta m ad hc hm N k0) (dO : dj hc (sg o (cO g f))) (dx : dj (jn hc (sg o (cO g f))) hm) (hcl : cells + 514 ≤ 601024) (hsl : slots + 1548 ≤ 7293034) (hk : Cont K g N0 Q b s ta m o ad N cells slots) : V K g N0 8 Q (jn (jn hc (sg o (cO g f))) hm) cells slots 128 [some (va_rf (some b)), some (va_rf (some s)), some (va_rf (some m)), some (va_rf (some o)), some (.int (nI (4 * N))), z5, z6, z7] [] := by
  obtain ⟨post, xp, hC, J1, J2⟩ := s_begin (l := Kl K) (g := g) (s := s) (ta := ta) (m := m) (ad := ad) hN2 (xs (4 * N + 1)) hc hm k0 S
  obtain ⟨fs, hs⟩ := S.s
  obtain ⟨fm, hmm⟩ := S.m
  refine al_1 X d_law_128 ?_
  refine al_0 X d_law_129 ?_
  refine il_4 X d_law_130 ?_
  refine V_iconst (v := 1) X d_law_132 (by decide) ?_
  refine V_iadd X d_law_133 ?_
  refine V_sld X scr hbl hbA (j := 4 * N + 1) (nI_add (4 * N) 1) (by omega) d_law_134 ?_
  refine al_3 X d_law_135 ?_
  refine V_contF (runSXF (y := y_L_begin) (b' := b_L_begin) (nL' := 4) (ret' := (some .int)) (hh := [(0, 9, 12, 13), (0, 9, 15, 15)]) (fr := 7) (lo := 112) (mc := 1) (ms := 8) (As := [va_rf (some s), .int (xs (4 * N + 1)), va_rf (some o)]) X dx (fun N1 => h_begin (Kl K) g N1 (xs (4 * N + 1)) hC hs (fun v h' hp => (J1 v h' hp).imp (fun x hx => ⟨hx.1, hx.2.1⟩)) (fun E h' hx => (J2 E h' hx).1) dO) k_139 k_140 k_0 k_141 (n := 3) (by decide +kernel) rfl ⟨by decide, by decide⟩ (by first | decide | (simp only [List.map, rf_cat, cat_i, cat_l, List.sum_cons, List.sum_nil]; first | done | decide | omega)) ⟨(by show cells + 1 ≤ 601024; omega), (by show slots + 8 ≤ 7293034; omega)⟩ d_law_136) (fun E a' hx _ => hx.elim) (fun v a' hp dx => ?_)
  obtain ⟨k, rfl, hc', f', dO', rfl, hcase⟩ := hp
  obtain ⟨post2, hM2, hP2⟩ := joint J1 J2 hcase
  refine is_5 X d_law_139 rfl (by first | exact okp_n | exact okp_i | exact okp_r) ?_
  refine al_2 X d_law_141 ?_
  refine al_0 X d_law_142 ?_
  refine il_4 X d_law_143 ?_
  refine V_iconst (v := 1) X d_law_145 (by decide) ?_
  refine V_iadd X d_law_146 ?_
  refine V_sld X scr hbl hbA (j := 4 * N + 1) (nI_add (4 * N) 1) (by omega) d_law_147 ?_
  rw [jn_comm dx]
  refine V_contF (runVF (y := y_M_begin) (b' := b_M_begin) (nL' := 2) (ret' := (some .int)) (fr := 0) (lo := 0) (mc := 0) (ms := 0) (As := [.int (xs (4 * N + 1))]) X dx.symm hM2 k_640 k_641 k_642 k_2 k_643 (n := 1) (by decide +kernel) (ci := 7) rfl rfl hmm ⟨by decide, by decide⟩ (by first | decide | (simp only [List.map, rf_cat, cat_i, cat_l, List.sum_cons, List.sum_nil]; first | done | decide | omega)) ⟨(by show cells + 1 + 0 ≤ 601024; omega), (by show slots + 8 + 0 ≤ 7293034; omega)⟩ d_law_148) (fun E a' hx _ => hx.elim) (fun v a' hp dy => ?_)
  obtain ⟨x', rfl, ⟨r, rfl⟩, heq, S'⟩ := hP2 v a' hp
  refine is_6 X d_law_151 rfl (by first | exact okp_n | exact okp_i | exact okp_r) ?_
  refine al_2 X d_law_153 ?_
  obtain ⟨fm', hmm'⟩ := S'.m
  refine V_contF (runVF (y := y_M_thrown) (b' := b_M_thrown) (nL' := 1) (ret' := (some .int)) (fr := 0) (lo := 0) (mc := 0) (ms := 0) (As := []) X dy (S'.thr (Kl K)) k_636 k_637 k_638 k_2 k_639 (n := 0) (by decide +kernel) (ci := 7) rfl rfl hmm' ⟨by decide, by decide⟩ (by first | decide | (simp only [List.map, rf_cat, cat_i, cat_l, List.sum_cons, List.sum_nil]; first | done | decide | omega)) ⟨(by show cells + 1 + 0 + 0 ≤ 601024; omega), (by show slots + 8 + 0 + 0 ≤ 7293034; omega)⟩ d_law_154) (fun E a' hx _ => hx.elim) (fun v a2 hp dz => ?_)
  obtain ⟨r2, rfl, rfl, rfl⟩ := hp
  rw [jn_comm dz]
  refine il_5 X d_law_157 ?_
  refine V_icmp_eq (tgt := 164) X d_law_159 (by decide) (fun c_159 => ?_) (fun c_159 => ?_)
  · refine il_5 X d_law_164 ?_
    refine V_if_ne (tgt := 181) X d_law_166 (by decide) (fun c_166 => ?_) (fun c_166 => ?_)
    · refine V_goto (tgt := 1092) X d_law_181 (by decide) ?_
      exact V.widen (by omega) (by omega) (hk hc' _ f' _ _ _ _ S' dO' dz.symm)
    · refine al_3 X d_law_169 ?_
      refine V_iconst (v := 0) X d_law_170 (by decide) ?_
      refine V_lald (j := 0) X (jn_l (jn_o dO')) rfl (by decide) (by decide) d_law_171 ?_
      rw [heq c_166]
      refine il_6 X d_law_172 ?_
      refine V_i2l X d_law_174 ?_
      refine V_lcmp X d_law_175 ?_
      refine V_if_eq (tgt := 181) X d_law_176 (by decide) (fun c_176 => ?_) (fun c_176 => ?_)
      · refine V_goto (tgt := 1092) X d_law_181 (by decide) ?_
        exact V.widen (by omega) (by omega) (hk hc' _ f' _ _ _ _ S' dO' dz.symm)
      · exact absurd ((lg_cmp_eq _ _).mpr rfl) c_176
  · exact absurd rfl c_159
theorem lw_read (X : Fx K g N0 code 8 "SnapshotStoreLaw" room_1 rt nm ex) (scr : va_X b L xs (Ks K) (Ks K).heap ∧ L ≤ 2048) (hbl : b < (Ks K).heap.size) (hbA : ¬ N0 b) (hN : 4 * N + 4 ≤ L) (hN2 : N < 512) (S : St g s ta m ad hc hm N k0) (dO : dj hc (sg o (cO g f))) (dx : dj (jn hc (sg o (cO g f))) hm) (hcl : cells + 514 ≤ 601024) (hsl : slots + 1548 ≤ 7293034) (hk : Cont K g N0 Q b s ta m o ad N cells slots) : V K g N0 8 Q (jn (jn hc (sg o (cO g f))) hm) cells slots 184 [some (va_rf (some b)), some (va_rf (some s)), some (va_rf (some m)), some (va_rf (some o)), some (.int (nI (4 * N))), z5, z6, z7] [] := by
  obtain ⟨post, xp, hC, J1, J2⟩ := s_read (l := Kl K) (g := g) (s := s) (ta := ta) (m := m) (ad := ad) hN2 (xs (4 * N + 1)) (xs (4 * N + 2)) hc hm k0 S
  obtain ⟨fs, hs⟩ := S.s
  obtain ⟨fm, hmm⟩ := S.m
  refine al_1 X d_law_184 ?_
  refine al_0 X d_law_185 ?_
  refine il_4 X d_law_186 ?_
  refine V_iconst (v := 1) X d_law_188 (by decide) ?_
  refine V_iadd X d_law_189 ?_
  refine V_sld X scr hbl hbA (j := 4 * N + 1) (nI_add (4 * N) 1) (by omega) d_law_190 ?_
  refine al_0 X d_law_191 ?_
  refine il_4 X d_law_192 ?_
  refine V_iconst (v := 2) X d_law_194 (by decide) ?_
  refine V_iadd X d_law_195 ?_
  refine V_sld X scr hbl hbA (j := 4 * N + 2) (nI_add (4 * N) 2) (by omega) d_law_196 ?_
  refine al_3 X d_law_197 ?_
  refine V_contF (runSXF (y := y_L_read) (b' := b_L_read) (nL' := 5) (ret' := (some .int)) (hh := [(0, 10, 13, 21), (0, 10, 17, 15)]) (fr := 9) (lo := 157) (mc := 3) (ms := 15) (As := [va_rf (some s), .int (xs (4 * N + 1)), .int (xs (4 * N + 2)), va_rf (some o)]) X dx (fun N1 => h_read (Kl K) g N1 (xs (4 * N + 1)) (xs (4 * N + 2)) hC hs (fun v h' hp => (J1 v h' hp).imp (fun x hx => ⟨hx.1, hx.2.1⟩)) (fun E h' hx => (J2 E h' hx).1) dO) k_269 k_270 k_0 k_271 (n := 4) (by decide +kernel) rfl ⟨by decide, by decide⟩ (by first | decide | (simp only [List.map, rf_cat, cat_i, cat_l, List.sum_cons, List.sum_nil]; first | done | decide | omega)) ⟨(by show cells + 3 ≤ 601024; omega), (by show slots + 15 ≤ 7293034; omega)⟩ d_law_198) (fun E a' hx _ => hx.elim) (fun v a' hp dx => ?_)
  obtain ⟨k, rfl, hc', f', dO', rfl, hcase⟩ := hp
  obtain ⟨post2, hM2, hP2⟩ := joint J1 J2 hcase
  refine is_5 X d_law_201 rfl (by first | exact okp_n | exact okp_i | exact okp_r) ?_
  refine al_2 X d_law_203 ?_
  refine al_0 X d_law_204 ?_
  refine il_4 X d_law_205 ?_
  refine V_iconst (v := 1) X d_law_207 (by decide) ?_
  refine V_iadd X d_law_208 ?_
  refine V_sld X scr hbl hbA (j := 4 * N + 1) (nI_add (4 * N) 1) (by omega) d_law_209 ?_
  refine al_0 X d_law_210 ?_
  refine il_4 X d_law_211 ?_
  refine V_iconst (v := 2) X d_law_213 (by decide) ?_
  refine V_iadd X d_law_214 ?_
  refine V_sld X scr hbl hbA (j := 4 * N + 2) (nI_add (4 * N) 2) (by omega) d_law_215 ?_
  rw [jn_comm dx]
  refine V_contF (runVF (y := y_M_read) (b' := b_M_read) (nL' := 3) (ret' := (some .int)) (fr := 3) (lo := 71) (mc := 0) (ms := 0) (As := [.int (xs (4 * N + 1)), .int (xs (4 * N + 2))]) X dx.symm hM2 k_644 k_645 k_646 k_2 k_647 (n := 2) (by decide +kernel) (ci := 7) rfl rfl hmm ⟨by decide, by decide⟩ (by first | decide | (simp only [List.map, rf_cat, cat_i, cat_l, List.sum_cons, List.sum_nil]; first | done | decide | omega)) ⟨(by show cells + 3 + 0 ≤ 601024; omega), (by show slots + 15 + 0 ≤ 7293034; omega)⟩ d_law_216) (fun E a' hx _ => hx.elim) (fun v a' hp dy => ?_)
  obtain ⟨x', rfl, ⟨r, rfl⟩, heq, S'⟩ := hP2 v a' hp
  refine is_6 X d_law_219 rfl (by first | exact okp_n | exact okp_i | exact okp_r) ?_
  refine al_2 X d_law_221 ?_
  obtain ⟨fm', hmm'⟩ := S'.m
  refine V_contF (runVF (y := y_M_thrown) (b' := b_M_thrown) (nL' := 1) (ret' := (some .int)) (fr := 0) (lo := 0) (mc := 0) (ms := 0) (As := []) X dy (S'.thr (Kl K)) k_636 k_637 k_638 k_2 k_639 (n := 0) (by decide +kernel) (ci := 7) rfl rfl hmm' ⟨by decide, by decide⟩ (by first | decide | (simp only [List.map, rf_cat, cat_i, cat_l, List.sum_cons, List.sum_nil]; first | done | decide | omega)) ⟨(by show cells + 3 + 0 + 0 ≤ 601024; omega), (by show slots + 15 + 0 + 0 ≤ 7293034; omega)⟩ d_law_222) (fun E a' hx _ => hx.elim) (fun v a2 hp dz => ?_)
  obtain ⟨r2, rfl, rfl, rfl⟩ := hp
  rw [jn_comm dz]
  refine il_5 X d_law_225 ?_
  refine V_icmp_eq (tgt := 232) X d_law_227 (by decide) (fun c_227 => ?_) (fun c_227 => ?_)
  · refine il_5 X d_law_232 ?_
    refine V_if_ne (tgt := 249) X d_law_234 (by decide) (fun c_234 => ?_) (fun c_234 => ?_)
    · refine V_goto (tgt := 1092) X d_law_249 (by decide) ?_
      exact V.widen (by omega) (by omega) (hk hc' _ f' _ _ _ _ S' dO' dz.symm)
    · refine al_3 X d_law_237 ?_
      refine V_iconst (v := 0) X d_law_238 (by decide) ?_
      refine V_lald (j := 0) X (jn_l (jn_o dO')) rfl (by decide) (by decide) d_law_239 ?_
      rw [heq c_234]
      refine il_6 X d_law_240 ?_
      refine V_i2l X d_law_242 ?_
      refine V_lcmp X d_law_243 ?_
      refine V_if_eq (tgt := 249) X d_law_244 (by decide) (fun c_244 => ?_) (fun c_244 => ?_)
      · refine V_goto (tgt := 1092) X d_law_249 (by decide) ?_
        exact V.widen (by omega) (by omega) (hk hc' _ f' _ _ _ _ S' dO' dz.symm)
      · exact absurd ((lg_cmp_eq _ _).mpr rfl) c_244
  · exact absurd rfl c_227
theorem lw_found (X : Fx K g N0 code 8 "SnapshotStoreLaw" room_1 rt nm ex) (scr : va_X b L xs (Ks K) (Ks K).heap ∧ L ≤ 2048) (hbl : b < (Ks K).heap.size) (hbA : ¬ N0 b) (hN : 4 * N + 4 ≤ L) (hN2 : N < 512) (S : St g s ta m ad hc hm N k0) (dO : dj hc (sg o (cO g f))) (dx : dj (jn hc (sg o (cO g f))) hm) (hcl : cells + 514 ≤ 601024) (hsl : slots + 1548 ≤ 7293034) (hk : Cont K g N0 Q b s ta m o ad N cells slots) : V K g N0 8 Q (jn (jn hc (sg o (cO g f))) hm) cells slots 252 [some (va_rf (some b)), some (va_rf (some s)), some (va_rf (some m)), some (va_rf (some o)), some (.int (nI (4 * N))), z5, z6, z7] [] := by
  obtain ⟨post, xp, hC, J1, J2⟩ := s_found (l := Kl K) (g := g) (s := s) (ta := ta) (m := m) (ad := ad) hN2 (xs (4 * N + 1)) (xs (4 * N + 2)) hc hm k0 S
  obtain ⟨fs, hs⟩ := S.s
  obtain ⟨fm, hmm⟩ := S.m
  refine al_1 X d_law_252 ?_
  refine al_0 X d_law_253 ?_
  refine il_4 X d_law_254 ?_
  refine V_iconst (v := 1) X d_law_256 (by decide) ?_
  refine V_iadd X d_law_257 ?_
  refine V_sld X scr hbl hbA (j := 4 * N + 1) (nI_add (4 * N) 1) (by omega) d_law_258 ?_
  refine al_0 X d_law_259 ?_
  refine il_4 X d_law_260 ?_
  refine V_iconst (v := 2) X d_law_262 (by decide) ?_
  refine V_iadd X d_law_263 ?_
  refine V_sld X scr hbl hbA (j := 4 * N + 2) (nI_add (4 * N) 2) (by omega) d_law_264 ?_
  refine al_3 X d_law_265 ?_
  refine V_contF (runSXF (y := y_L_found) (b' := b_L_found) (nL' := 5) (ret' := (some .int)) (hh := [(0, 17, 20, 21), (0, 17, 24, 15)]) (fr := 9) (lo := 157) (mc := 3) (ms := 15) (As := [va_rf (some s), .int (xs (4 * N + 1)), .int (xs (4 * N + 2)), va_rf (some o)]) X dx (fun N1 => h_found (Kl K) g N1 (xs (4 * N + 1)) (xs (4 * N + 2)) hC hs (fun v h' hp => (J1 v h' hp).imp (fun x hx => ⟨hx.1, hx.2.1⟩)) (fun E h' hx => (J2 E h' hx).1) dO) k_337 k_338 k_0 k_339 (n := 4) (by decide +kernel) rfl ⟨by decide, by decide⟩ (by first | decide | (simp only [List.map, rf_cat, cat_i, cat_l, List.sum_cons, List.sum_nil]; first | done | decide | omega)) ⟨(by show cells + 3 ≤ 601024; omega), (by show slots + 15 ≤ 7293034; omega)⟩ d_law_266) (fun E a' hx _ => hx.elim) (fun v a' hp dx => ?_)
  obtain ⟨k, rfl, hc', f', dO', rfl, hcase⟩ := hp
  obtain ⟨post2, hM2, hP2⟩ := joint J1 J2 hcase
  refine is_5 X d_law_269 rfl (by first | exact okp_n | exact okp_i | exact okp_r) ?_
  refine al_2 X d_law_271 ?_
  refine al_0 X d_law_272 ?_
  refine il_4 X d_law_273 ?_
  refine V_iconst (v := 1) X d_law_275 (by decide) ?_
  refine V_iadd X d_law_276 ?_
  refine V_sld X scr hbl hbA (j := 4 * N + 1) (nI_add (4 * N) 1) (by omega) d_law_277 ?_
  refine al_0 X d_law_278 ?_
  refine il_4 X d_law_279 ?_
  refine V_iconst (v := 2) X d_law_281 (by decide) ?_
  refine V_iadd X d_law_282 ?_
  refine V_sld X scr hbl hbA (j := 4 * N + 2) (nI_add (4 * N) 2) (by omega) d_law_283 ?_
  rw [jn_comm dx]
  refine V_contF (runVF (y := y_M_found) (b' := b_M_found) (nL' := 3) (ret' := (some .boolean)) (fr := 3) (lo := 71) (mc := 0) (ms := 0) (As := [.int (xs (4 * N + 1)), .int (xs (4 * N + 2))]) X dx.symm hM2 k_676 k_677 k_678 k_2 k_679 (n := 2) (by decide +kernel) (ci := 7) rfl rfl hmm ⟨by decide, by decide⟩ (by first | decide | (simp only [List.map, rf_cat, cat_i, cat_l, List.sum_cons, List.sum_nil]; first | done | decide | omega)) ⟨(by show cells + 3 + 0 ≤ 601024; omega), (by show slots + 15 + 0 ≤ 7293034; omega)⟩ d_law_284) (fun E a' hx _ => hx.elim) (fun v a' hp dy => ?_)
  obtain ⟨x', rfl, ⟨r, rfl⟩, heq, S'⟩ := hP2 v a' hp
  refine is_6 X d_law_287 rfl (by first | exact okp_n | exact okp_i | exact okp_r) ?_
  refine al_2 X d_law_289 ?_
  obtain ⟨fm', hmm'⟩ := S'.m
  refine V_contF (runVF (y := y_M_thrown) (b' := b_M_thrown) (nL' := 1) (ret' := (some .int)) (fr := 0) (lo := 0) (mc := 0) (ms := 0) (As := []) X dy (S'.thr (Kl K)) k_636 k_637 k_638 k_2 k_639 (n := 0) (by decide +kernel) (ci := 7) rfl rfl hmm' ⟨by decide, by decide⟩ (by first | decide | (simp only [List.map, rf_cat, cat_i, cat_l, List.sum_cons, List.sum_nil]; first | done | decide | omega)) ⟨(by show cells + 3 + 0 + 0 ≤ 601024; omega), (by show slots + 15 + 0 + 0 ≤ 7293034; omega)⟩ d_law_290) (fun E a' hx _ => hx.elim) (fun v a2 hp dz => ?_)
  obtain ⟨r2, rfl, rfl, rfl⟩ := hp
  rw [jn_comm dz]
  refine il_5 X d_law_293 ?_
  refine V_icmp_eq (tgt := 300) X d_law_295 (by decide) (fun c_295 => ?_) (fun c_295 => ?_)
  · refine il_5 X d_law_300 ?_
    refine V_if_ne (tgt := 324) X d_law_302 (by decide) (fun c_302 => ?_) (fun c_302 => ?_)
    · refine V_goto (tgt := 1092) X d_law_324 (by decide) ?_
      exact V.widen (by omega) (by omega) (hk hc' _ f' _ _ _ _ S' dO' dz.symm)
    · refine al_3 X d_law_305 ?_
      refine V_iconst (v := 0) X d_law_306 (by decide) ?_
      refine V_lald (j := 0) X (jn_l (jn_o dO')) rfl (by decide) (by decide) d_law_307 ?_
      rw [heq c_302]
      refine il_6 X d_law_308 ?_
      refine V_if_eq (tgt := 317) X d_law_310 (by decide) (fun c_310 => ?_) (fun c_310 => ?_)
      · refine V_lconst (v := 0) X d_law_317 (by decide) ?_
        refine V_lcmp X d_law_318 ?_
        refine V_if_eq (tgt := 324) X d_law_319 (by decide) (fun c_319 => ?_) (fun c_319 => ?_)
        · refine V_goto (tgt := 1092) X d_law_324 (by decide) ?_
          exact V.widen (by omega) (by omega) (hk hc' _ f' _ _ _ _ S' dO' dz.symm)
        · exact absurd ((lg_cmp_eq _ _).mpr (by rw [b01_f c_310]; rfl)) c_319
      · refine V_lconst (v := 1) X d_law_313 (by decide) ?_
        refine V_goto (tgt := 318) X d_law_314 (by decide) ?_
        refine V_lcmp X d_law_318 ?_
        refine V_if_eq (tgt := 324) X d_law_319 (by decide) (fun c_319 => ?_) (fun c_319 => ?_)
        · refine V_goto (tgt := 1092) X d_law_324 (by decide) ?_
          exact V.widen (by omega) (by omega) (hk hc' _ f' _ _ _ _ S' dO' dz.symm)
        · exact absurd ((lg_cmp_eq _ _).mpr (by rw [b01_t c_310]; rfl)) c_319
  · exact absurd rfl c_295
theorem lw_write (X : Fx K g N0 code 8 "SnapshotStoreLaw" room_1 rt nm ex) (scr : va_X b L xs (Ks K) (Ks K).heap ∧ L ≤ 2048) (hbl : b < (Ks K).heap.size) (hbA : ¬ N0 b) (hN : 4 * N + 4 ≤ L) (hN2 : N < 512) (S : St g s ta m ad hc hm N k0) (dO : dj hc (sg o (cO g f))) (dx : dj (jn hc (sg o (cO g f))) hm) (hcl : cells + 514 ≤ 601024) (hsl : slots + 1548 ≤ 7293034) (hk : Cont K g N0 Q b s ta m o ad N cells slots) : V K g N0 8 Q (jn (jn hc (sg o (cO g f))) hm) cells slots 327 [some (va_rf (some b)), some (va_rf (some s)), some (va_rf (some m)), some (va_rf (some o)), some (.int (nI (4 * N))), z5, z6, z7] [] := by
  obtain ⟨post, xp, hC, J1, J2⟩ := s_write (l := Kl K) (g := g) (s := s) (ta := ta) (m := m) (ad := ad) hN2 (xs (4 * N + 1)) (xs (4 * N + 2)) (xs (4 * N + 3)) hc hm k0 S
  obtain ⟨fs, hs⟩ := S.s
  obtain ⟨fm, hmm⟩ := S.m
  refine al_1 X d_law_327 ?_
  refine al_0 X d_law_328 ?_
  refine il_4 X d_law_329 ?_
  refine V_iconst (v := 1) X d_law_331 (by decide) ?_
  refine V_iadd X d_law_332 ?_
  refine V_sld X scr hbl hbA (j := 4 * N + 1) (nI_add (4 * N) 1) (by omega) d_law_333 ?_
  refine al_0 X d_law_334 ?_
  refine il_4 X d_law_335 ?_
  refine V_iconst (v := 2) X d_law_337 (by decide) ?_
  refine V_iadd X d_law_338 ?_
  refine V_sld X scr hbl hbA (j := 4 * N + 2) (nI_add (4 * N) 2) (by omega) d_law_339 ?_
  refine al_0 X d_law_340 ?_
  refine il_4 X d_law_341 ?_
  refine V_iconst (v := 3) X d_law_343 (by decide) ?_
  refine V_iadd X d_law_344 ?_
  refine V_sld X scr hbl hbA (j := 4 * N + 3) (nI_add (4 * N) 3) (by omega) d_law_345 ?_
  refine al_3 X d_law_346 ?_
  refine V_contF (runSXF (y := y_L_write) (b' := b_L_write) (nL' := 6) (ret' := (some .int)) (hh := [(0, 12, 15, 21), (0, 12, 19, 15)]) (fr := 9) (lo := 158) (mc := 4) (ms := 19) (As := [va_rf (some s), .int (xs (4 * N + 1)), .int (xs (4 * N + 2)), .int (xs (4 * N + 3)), va_rf (some o)]) X dx (fun N1 => h_write (Kl K) g N1 (xs (4 * N + 1)) (xs (4 * N + 2)) (xs (4 * N + 3)) hC hs (fun v h' hp => (J1 v h' hp).imp (fun x hx => ⟨hx.1, hx.2.1⟩)) (fun E h' hx => (J2 E h' hx).1) dO) k_344 k_345 k_0 k_346 (n := 5) (by decide +kernel) rfl ⟨by decide, by decide⟩ (by first | decide | (simp only [List.map, rf_cat, cat_i, cat_l, List.sum_cons, List.sum_nil]; first | done | decide | omega)) ⟨(by show cells + 4 ≤ 601024; omega), (by show slots + 19 ≤ 7293034; omega)⟩ d_law_347) (fun E a' hx _ => hx.elim) (fun v a' hp dx => ?_)
  obtain ⟨k, rfl, hc', f', dO', rfl, hcase⟩ := hp
  obtain ⟨post2, hM2, hP2⟩ := joint J1 J2 hcase
  refine is_5 X d_law_350 rfl (by first | exact okp_n | exact okp_i | exact okp_r) ?_
  refine al_2 X d_law_352 ?_
  refine al_0 X d_law_353 ?_
  refine il_4 X d_law_354 ?_
  refine V_iconst (v := 1) X d_law_356 (by decide) ?_
  refine V_iadd X d_law_357 ?_
  refine V_sld X scr hbl hbA (j := 4 * N + 1) (nI_add (4 * N) 1) (by omega) d_law_358 ?_
  refine al_0 X d_law_359 ?_
  refine il_4 X d_law_360 ?_
  refine V_iconst (v := 2) X d_law_362 (by decide) ?_
  refine V_iadd X d_law_363 ?_
  refine V_sld X scr hbl hbA (j := 4 * N + 2) (nI_add (4 * N) 2) (by omega) d_law_364 ?_
  refine al_0 X d_law_365 ?_
  refine il_4 X d_law_366 ?_
  refine V_iconst (v := 3) X d_law_368 (by decide) ?_
  refine V_iadd X d_law_369 ?_
  refine V_sld X scr hbl hbA (j := 4 * N + 3) (nI_add (4 * N) 3) (by omega) d_law_370 ?_
  rw [jn_comm dx]
  refine V_contF (runVF (y := y_M_write) (b' := b_M_write) (nL' := 4) (ret' := (some .int)) (fr := 3) (lo := 71) (mc := 0) (ms := 0) (As := [.int (xs (4 * N + 1)), .int (xs (4 * N + 2)), .int (xs (4 * N + 3))]) X dx.symm hM2 k_680 k_681 k_682 k_2 k_683 (n := 3) (by decide +kernel) (ci := 7) rfl rfl hmm ⟨by decide, by decide⟩ (by first | decide | (simp only [List.map, rf_cat, cat_i, cat_l, List.sum_cons, List.sum_nil]; first | done | decide | omega)) ⟨(by show cells + 4 + 0 ≤ 601024; omega), (by show slots + 19 + 0 ≤ 7293034; omega)⟩ d_law_371) (fun E a' hx _ => hx.elim) (fun v a' hp dy => ?_)
  obtain ⟨x', rfl, ⟨r, rfl⟩, heq, S'⟩ := hP2 v a' hp
  refine is_6 X d_law_374 rfl (by first | exact okp_n | exact okp_i | exact okp_r) ?_
  refine al_2 X d_law_376 ?_
  obtain ⟨fm', hmm'⟩ := S'.m
  refine V_contF (runVF (y := y_M_thrown) (b' := b_M_thrown) (nL' := 1) (ret' := (some .int)) (fr := 0) (lo := 0) (mc := 0) (ms := 0) (As := []) X dy (S'.thr (Kl K)) k_636 k_637 k_638 k_2 k_639 (n := 0) (by decide +kernel) (ci := 7) rfl rfl hmm' ⟨by decide, by decide⟩ (by first | decide | (simp only [List.map, rf_cat, cat_i, cat_l, List.sum_cons, List.sum_nil]; first | done | decide | omega)) ⟨(by show cells + 4 + 0 + 0 ≤ 601024; omega), (by show slots + 19 + 0 + 0 ≤ 7293034; omega)⟩ d_law_377) (fun E a' hx _ => hx.elim) (fun v a2 hp dz => ?_)
  obtain ⟨r2, rfl, rfl, rfl⟩ := hp
  rw [jn_comm dz]
  refine il_5 X d_law_380 ?_
  refine V_icmp_eq (tgt := 387) X d_law_382 (by decide) (fun c_382 => ?_) (fun c_382 => ?_)
  · refine il_5 X d_law_387 ?_
    refine V_if_ne (tgt := 404) X d_law_389 (by decide) (fun c_389 => ?_) (fun c_389 => ?_)
    · refine V_goto (tgt := 1092) X d_law_404 (by decide) ?_
      exact V.widen (by omega) (by omega) (hk hc' _ f' _ _ _ _ S' dO' dz.symm)
    · refine al_3 X d_law_392 ?_
      refine V_iconst (v := 0) X d_law_393 (by decide) ?_
      refine V_lald (j := 0) X (jn_l (jn_o dO')) rfl (by decide) (by decide) d_law_394 ?_
      rw [heq c_389]
      refine il_6 X d_law_395 ?_
      refine V_i2l X d_law_397 ?_
      refine V_lcmp X d_law_398 ?_
      refine V_if_eq (tgt := 404) X d_law_399 (by decide) (fun c_399 => ?_) (fun c_399 => ?_)
      · refine V_goto (tgt := 1092) X d_law_404 (by decide) ?_
        exact V.widen (by omega) (by omega) (hk hc' _ f' _ _ _ _ S' dO' dz.symm)
      · exact absurd ((lg_cmp_eq _ _).mpr rfl) c_399
  · exact absurd rfl c_382
theorem lw_erase (X : Fx K g N0 code 8 "SnapshotStoreLaw" room_1 rt nm ex) (scr : va_X b L xs (Ks K) (Ks K).heap ∧ L ≤ 2048) (hbl : b < (Ks K).heap.size) (hbA : ¬ N0 b) (hN : 4 * N + 4 ≤ L) (hN2 : N < 512) (S : St g s ta m ad hc hm N k0) (dO : dj hc (sg o (cO g f))) (dx : dj (jn hc (sg o (cO g f))) hm) (hcl : cells + 514 ≤ 601024) (hsl : slots + 1548 ≤ 7293034) (hk : Cont K g N0 Q b s ta m o ad N cells slots) : V K g N0 8 Q (jn (jn hc (sg o (cO g f))) hm) cells slots 407 [some (va_rf (some b)), some (va_rf (some s)), some (va_rf (some m)), some (va_rf (some o)), some (.int (nI (4 * N))), z5, z6, z7] [] := by
  obtain ⟨post, xp, hC, J1, J2⟩ := s_erase (l := Kl K) (g := g) (s := s) (ta := ta) (m := m) (ad := ad) hN2 (xs (4 * N + 1)) (xs (4 * N + 2)) hc hm k0 S
  obtain ⟨fs, hs⟩ := S.s
  obtain ⟨fm, hmm⟩ := S.m
  refine al_1 X d_law_407 ?_
  refine al_0 X d_law_408 ?_
  refine il_4 X d_law_409 ?_
  refine V_iconst (v := 1) X d_law_411 (by decide) ?_
  refine V_iadd X d_law_412 ?_
  refine V_sld X scr hbl hbA (j := 4 * N + 1) (nI_add (4 * N) 1) (by omega) d_law_413 ?_
  refine al_0 X d_law_414 ?_
  refine il_4 X d_law_415 ?_
  refine V_iconst (v := 2) X d_law_417 (by decide) ?_
  refine V_iadd X d_law_418 ?_
  refine V_sld X scr hbl hbA (j := 4 * N + 2) (nI_add (4 * N) 2) (by omega) d_law_419 ?_
  refine al_3 X d_law_420 ?_
  refine V_contF (runSXF (y := y_L_erase) (b' := b_L_erase) (nL' := 5) (ret' := (some .int)) (hh := [(0, 10, 13, 21), (0, 10, 17, 15)]) (fr := 9) (lo := 157) (mc := 4) (ms := 19) (As := [va_rf (some s), .int (xs (4 * N + 1)), .int (xs (4 * N + 2)), va_rf (some o)]) X dx (fun N1 => h_erase (Kl K) g N1 (xs (4 * N + 1)) (xs (4 * N + 2)) hC hs (fun v h' hp => (J1 v h' hp).imp (fun x hx => ⟨hx.1, hx.2.1⟩)) (fun E h' hx => (J2 E h' hx).1) dO) k_407 k_408 k_0 k_409 (n := 4) (by decide +kernel) rfl ⟨by decide, by decide⟩ (by first | decide | (simp only [List.map, rf_cat, cat_i, cat_l, List.sum_cons, List.sum_nil]; first | done | decide | omega)) ⟨(by show cells + 4 ≤ 601024; omega), (by show slots + 19 ≤ 7293034; omega)⟩ d_law_421) (fun E a' hx _ => hx.elim) (fun v a' hp dx => ?_)
  obtain ⟨k, rfl, hc', f', dO', rfl, hcase⟩ := hp
  obtain ⟨post2, hM2, hP2⟩ := joint J1 J2 hcase
  refine is_5 X d_law_424 rfl (by first | exact okp_n | exact okp_i | exact okp_r) ?_
  refine al_2 X d_law_426 ?_
  refine al_0 X d_law_427 ?_
  refine il_4 X d_law_428 ?_
  refine V_iconst (v := 1) X d_law_430 (by decide) ?_
  refine V_iadd X d_law_431 ?_
  refine V_sld X scr hbl hbA (j := 4 * N + 1) (nI_add (4 * N) 1) (by omega) d_law_432 ?_
  refine al_0 X d_law_433 ?_
  refine il_4 X d_law_434 ?_
  refine V_iconst (v := 2) X d_law_436 (by decide) ?_
  refine V_iadd X d_law_437 ?_
  refine V_sld X scr hbl hbA (j := 4 * N + 2) (nI_add (4 * N) 2) (by omega) d_law_438 ?_
  rw [jn_comm dx]
  refine V_contF (runVF (y := y_M_erase) (b' := b_M_erase) (nL' := 3) (ret' := (some .int)) (fr := 3) (lo := 71) (mc := 0) (ms := 0) (As := [.int (xs (4 * N + 1)), .int (xs (4 * N + 2))]) X dx.symm hM2 k_692 k_693 k_694 k_2 k_695 (n := 2) (by decide +kernel) (ci := 7) rfl rfl hmm ⟨by decide, by decide⟩ (by first | decide | (simp only [List.map, rf_cat, cat_i, cat_l, List.sum_cons, List.sum_nil]; first | done | decide | omega)) ⟨(by show cells + 4 + 0 ≤ 601024; omega), (by show slots + 19 + 0 ≤ 7293034; omega)⟩ d_law_439) (fun E a' hx _ => hx.elim) (fun v a' hp dy => ?_)
  obtain ⟨x', rfl, ⟨r, rfl⟩, heq, S'⟩ := hP2 v a' hp
  refine is_6 X d_law_442 rfl (by first | exact okp_n | exact okp_i | exact okp_r) ?_
  refine al_2 X d_law_444 ?_
  obtain ⟨fm', hmm'⟩ := S'.m
  refine V_contF (runVF (y := y_M_thrown) (b' := b_M_thrown) (nL' := 1) (ret' := (some .int)) (fr := 0) (lo := 0) (mc := 0) (ms := 0) (As := []) X dy (S'.thr (Kl K)) k_636 k_637 k_638 k_2 k_639 (n := 0) (by decide +kernel) (ci := 7) rfl rfl hmm' ⟨by decide, by decide⟩ (by first | decide | (simp only [List.map, rf_cat, cat_i, cat_l, List.sum_cons, List.sum_nil]; first | done | decide | omega)) ⟨(by show cells + 4 + 0 + 0 ≤ 601024; omega), (by show slots + 19 + 0 + 0 ≤ 7293034; omega)⟩ d_law_445) (fun E a' hx _ => hx.elim) (fun v a2 hp dz => ?_)
  obtain ⟨r2, rfl, rfl, rfl⟩ := hp
  rw [jn_comm dz]
  refine il_5 X d_law_448 ?_
  refine V_icmp_eq (tgt := 455) X d_law_450 (by decide) (fun c_450 => ?_) (fun c_450 => ?_)
  · refine il_5 X d_law_455 ?_
    refine V_if_ne (tgt := 472) X d_law_457 (by decide) (fun c_457 => ?_) (fun c_457 => ?_)
    · refine V_goto (tgt := 1092) X d_law_472 (by decide) ?_
      exact V.widen (by omega) (by omega) (hk hc' _ f' _ _ _ _ S' dO' dz.symm)
    · refine al_3 X d_law_460 ?_
      refine V_iconst (v := 0) X d_law_461 (by decide) ?_
      refine V_lald (j := 0) X (jn_l (jn_o dO')) rfl (by decide) (by decide) d_law_462 ?_
      rw [heq c_457]
      refine il_6 X d_law_463 ?_
      refine V_i2l X d_law_465 ?_
      refine V_lcmp X d_law_466 ?_
      refine V_if_eq (tgt := 472) X d_law_467 (by decide) (fun c_467 => ?_) (fun c_467 => ?_)
      · refine V_goto (tgt := 1092) X d_law_472 (by decide) ?_
        exact V.widen (by omega) (by omega) (hk hc' _ f' _ _ _ _ S' dO' dz.symm)
      · exact absurd ((lg_cmp_eq _ _).mpr rfl) c_467
  · exact absurd rfl c_450
theorem lw_sum (X : Fx K g N0 code 8 "SnapshotStoreLaw" room_1 rt nm ex) (scr : va_X b L xs (Ks K) (Ks K).heap ∧ L ≤ 2048) (hbl : b < (Ks K).heap.size) (hbA : ¬ N0 b) (hN : 4 * N + 4 ≤ L) (hN2 : N < 512) (S : St g s ta m ad hc hm N k0) (dO : dj hc (sg o (cO g f))) (dx : dj (jn hc (sg o (cO g f))) hm) (hcl : cells + 514 ≤ 601024) (hsl : slots + 1548 ≤ 7293034) (hk : Cont K g N0 Q b s ta m o ad N cells slots) : V K g N0 8 Q (jn (jn hc (sg o (cO g f))) hm) cells slots 475 [some (va_rf (some b)), some (va_rf (some s)), some (va_rf (some m)), some (va_rf (some o)), some (.int (nI (4 * N))), z5, z6, z7] [] := by
  obtain ⟨post, xp, hC, J1, J2⟩ := s_sum (l := Kl K) (g := g) (s := s) (ta := ta) (m := m) (ad := ad) hN2 (xs (4 * N + 1)) (xs (4 * N + 2)) (xs (4 * N + 3)) hc hm k0 S
  obtain ⟨fs, hs⟩ := S.s
  obtain ⟨fm, hmm⟩ := S.m
  refine al_1 X d_law_475 ?_
  refine al_0 X d_law_476 ?_
  refine il_4 X d_law_477 ?_
  refine V_iconst (v := 1) X d_law_479 (by decide) ?_
  refine V_iadd X d_law_480 ?_
  refine V_sld X scr hbl hbA (j := 4 * N + 1) (nI_add (4 * N) 1) (by omega) d_law_481 ?_
  refine al_0 X d_law_482 ?_
  refine il_4 X d_law_483 ?_
  refine V_iconst (v := 2) X d_law_485 (by decide) ?_
  refine V_iadd X d_law_486 ?_
  refine V_sld X scr hbl hbA (j := 4 * N + 2) (nI_add (4 * N) 2) (by omega) d_law_487 ?_
  refine al_0 X d_law_488 ?_
  refine il_4 X d_law_489 ?_
  refine V_iconst (v := 3) X d_law_491 (by decide) ?_
  refine V_iadd X d_law_492 ?_
  refine V_sld X scr hbl hbA (j := 4 * N + 3) (nI_add (4 * N) 3) (by omega) d_law_493 ?_
  refine al_3 X d_law_494 ?_
  refine V_contF (runSXF (y := y_L_sum) (b' := b_L_sum) (nL' := 6) (ret' := (some .int)) (hh := [(0, 11, 14, 21), (0, 11, 18, 15)]) (fr := 9) (lo := 161) (mc := 3) (ms := 15) (As := [va_rf (some s), .int (xs (4 * N + 1)), .int (xs (4 * N + 2)), .int (xs (4 * N + 3)), va_rf (some o)]) X dx (fun N1 => h_sum (Kl K) g N1 (xs (4 * N + 1)) (xs (4 * N + 2)) (xs (4 * N + 3)) hC hs (fun v h' hp => (J1 v h' hp).imp (fun x hx => ⟨hx.1, hx.2.1⟩)) (fun E h' hx => (J2 E h' hx).1) dO) k_414 k_415 k_0 k_416 (n := 5) (by decide +kernel) rfl ⟨by decide, by decide⟩ (by first | decide | (simp only [List.map, rf_cat, cat_i, cat_l, List.sum_cons, List.sum_nil]; first | done | decide | omega)) ⟨(by show cells + 3 ≤ 601024; omega), (by show slots + 15 ≤ 7293034; omega)⟩ d_law_495) (fun E a' hx _ => hx.elim) (fun v a' hp dx => ?_)
  obtain ⟨k, rfl, hc', f', dO', rfl, hcase⟩ := hp
  obtain ⟨post2, hM2, hP2⟩ := joint J1 J2 hcase
  refine is_5 X d_law_498 rfl (by first | exact okp_n | exact okp_i | exact okp_r) ?_
  refine al_2 X d_law_500 ?_
  refine al_0 X d_law_501 ?_
  refine il_4 X d_law_502 ?_
  refine V_iconst (v := 1) X d_law_504 (by decide) ?_
  refine V_iadd X d_law_505 ?_
  refine V_sld X scr hbl hbA (j := 4 * N + 1) (nI_add (4 * N) 1) (by omega) d_law_506 ?_
  refine al_0 X d_law_507 ?_
  refine il_4 X d_law_508 ?_
  refine V_iconst (v := 2) X d_law_510 (by decide) ?_
  refine V_iadd X d_law_511 ?_
  refine V_sld X scr hbl hbA (j := 4 * N + 2) (nI_add (4 * N) 2) (by omega) d_law_512 ?_
  refine al_0 X d_law_513 ?_
  refine il_4 X d_law_514 ?_
  refine V_iconst (v := 3) X d_law_516 (by decide) ?_
  refine V_iadd X d_law_517 ?_
  refine V_sld X scr hbl hbA (j := 4 * N + 3) (nI_add (4 * N) 3) (by omega) d_law_518 ?_
  rw [jn_comm dx]
  refine V_contF (runVF (y := y_M_sum) (b' := b_M_sum) (nL' := 8) (ret' := (some .long)) (fr := 4) (lo := 99) (mc := 0) (ms := 0) (As := [.int (xs (4 * N + 1)), .int (xs (4 * N + 2)), .int (xs (4 * N + 3))]) X dx.symm hM2 k_696 k_697 k_698 k_2 k_699 (n := 3) (by decide +kernel) (ci := 7) rfl rfl hmm ⟨by decide, by decide⟩ (by first | decide | (simp only [List.map, rf_cat, cat_i, cat_l, List.sum_cons, List.sum_nil]; first | done | decide | omega)) ⟨(by show cells + 3 + 0 ≤ 601024; omega), (by show slots + 15 + 0 ≤ 7293034; omega)⟩ d_law_519) (fun E a' hx _ => hx.elim) (fun v a' hp dy => ?_)
  obtain ⟨x', rfl, ⟨r, rfl⟩, heq, S'⟩ := hP2 v a' hp
  refine ls_6 X d_law_522 rfl (by first | exact okp_n | exact okp_i | exact okp_r) ?_
  refine al_2 X d_law_524 ?_
  obtain ⟨fm', hmm'⟩ := S'.m
  refine V_contF (runVF (y := y_M_thrown) (b' := b_M_thrown) (nL' := 1) (ret' := (some .int)) (fr := 0) (lo := 0) (mc := 0) (ms := 0) (As := []) X dy (S'.thr (Kl K)) k_636 k_637 k_638 k_2 k_639 (n := 0) (by decide +kernel) (ci := 7) rfl rfl hmm' ⟨by decide, by decide⟩ (by first | decide | (simp only [List.map, rf_cat, cat_i, cat_l, List.sum_cons, List.sum_nil]; first | done | decide | omega)) ⟨(by show cells + 3 + 0 + 0 ≤ 601024; omega), (by show slots + 15 + 0 + 0 ≤ 7293034; omega)⟩ d_law_525) (fun E a' hx _ => hx.elim) (fun v a2 hp dz => ?_)
  obtain ⟨r2, rfl, rfl, rfl⟩ := hp
  rw [jn_comm dz]
  refine il_5 X d_law_528 ?_
  refine V_icmp_eq (tgt := 535) X d_law_530 (by decide) (fun c_530 => ?_) (fun c_530 => ?_)
  · refine il_5 X d_law_535 ?_
    refine V_if_ne (tgt := 551) X d_law_537 (by decide) (fun c_537 => ?_) (fun c_537 => ?_)
    · refine V_goto (tgt := 1092) X d_law_551 (by decide) ?_
      exact V.widen (by omega) (by omega) (hk hc' _ f' _ _ _ _ S' dO' dz.symm)
    · refine al_3 X d_law_540 ?_
      refine V_iconst (v := 0) X d_law_541 (by decide) ?_
      refine V_lald (j := 0) X (jn_l (jn_o dO')) rfl (by decide) (by decide) d_law_542 ?_
      rw [heq c_537]
      refine ll_6 X d_law_543 ?_
      refine V_lcmp X d_law_545 ?_
      refine V_if_eq (tgt := 551) X d_law_546 (by decide) (fun c_546 => ?_) (fun c_546 => ?_)
      · refine V_goto (tgt := 1092) X d_law_551 (by decide) ?_
        exact V.widen (by omega) (by omega) (hk hc' _ f' _ _ _ _ S' dO' dz.symm)
      · exact absurd ((lg_cmp_eq _ _).mpr rfl) c_546
  · exact absurd rfl c_530
theorem lw_key (X : Fx K g N0 code 8 "SnapshotStoreLaw" room_1 rt nm ex) (scr : va_X b L xs (Ks K) (Ks K).heap ∧ L ≤ 2048) (hbl : b < (Ks K).heap.size) (hbA : ¬ N0 b) (hN : 4 * N + 4 ≤ L) (hN2 : N < 512) (S : St g s ta m ad hc hm N k0) (dO : dj hc (sg o (cO g f))) (dx : dj (jn hc (sg o (cO g f))) hm) (hcl : cells + 514 ≤ 601024) (hsl : slots + 1548 ≤ 7293034) (hk : Cont K g N0 Q b s ta m o ad N cells slots) : V K g N0 8 Q (jn (jn hc (sg o (cO g f))) hm) cells slots 554 [some (va_rf (some b)), some (va_rf (some s)), some (va_rf (some m)), some (va_rf (some o)), some (.int (nI (4 * N))), z5, z6, z7] [] := by
  obtain ⟨post, xp, hC, J1, J2⟩ := s_key (l := Kl K) (g := g) (s := s) (ta := ta) (m := m) (ad := ad) hN2 (xs (4 * N + 1)) (xs (4 * N + 2)) (xs (4 * N + 3)) hc hm k0 S
  obtain ⟨fs, hs⟩ := S.s
  obtain ⟨fm, hmm⟩ := S.m
  refine al_1 X d_law_554 ?_
  refine al_0 X d_law_555 ?_
  refine il_4 X d_law_556 ?_
  refine V_iconst (v := 1) X d_law_558 (by decide) ?_
  refine V_iadd X d_law_559 ?_
  refine V_sld X scr hbl hbA (j := 4 * N + 1) (nI_add (4 * N) 1) (by omega) d_law_560 ?_
  refine al_0 X d_law_561 ?_
  refine il_4 X d_law_562 ?_
  refine V_iconst (v := 2) X d_law_564 (by decide) ?_
  refine V_iadd X d_law_565 ?_
  refine V_sld X scr hbl hbA (j := 4 * N + 2) (nI_add (4 * N) 2) (by omega) d_law_566 ?_
  refine al_0 X d_law_567 ?_
  refine il_4 X d_law_568 ?_
  refine V_iconst (v := 3) X d_law_570 (by decide) ?_
  refine V_iadd X d_law_571 ?_
  refine V_sld X scr hbl hbA (j := 4 * N + 3) (nI_add (4 * N) 3) (by omega) d_law_572 ?_
  refine al_3 X d_law_573 ?_
  refine V_contF (runSXF (y := y_L_key) (b' := b_L_key) (nL' := 6) (ret' := (some .int)) (hh := [(0, 11, 14, 21), (0, 11, 18, 15), (0, 11, 22, 13)]) (fr := 9) (lo := 159) (mc := 3) (ms := 18) (As := [va_rf (some s), .int (xs (4 * N + 1)), .int (xs (4 * N + 2)), .int (xs (4 * N + 3)), va_rf (some o)]) X dx (fun N1 => h_key (Kl K) g N1 (xs (4 * N + 1)) (xs (4 * N + 2)) (xs (4 * N + 3)) hC hs (fun v h' hp => (J1 v h' hp).imp (fun x hx => ⟨hx.1, hx.2.1⟩)) (fun E h' hx => (J2 E h' hx).1) dO) k_421 k_422 k_0 k_423 (n := 5) (by decide +kernel) rfl ⟨by decide, by decide⟩ (by first | decide | (simp only [List.map, rf_cat, cat_i, cat_l, List.sum_cons, List.sum_nil]; first | done | decide | omega)) ⟨(by show cells + 3 ≤ 601024; omega), (by show slots + 18 ≤ 7293034; omega)⟩ d_law_574) (fun E a' hx _ => hx.elim) (fun v a' hp dx => ?_)
  obtain ⟨k, rfl, hc', f', dO', rfl, hcase⟩ := hp
  obtain ⟨post2, hM2, hP2⟩ := joint J1 J2 hcase
  refine is_5 X d_law_577 rfl (by first | exact okp_n | exact okp_i | exact okp_r) ?_
  refine al_2 X d_law_579 ?_
  refine al_0 X d_law_580 ?_
  refine il_4 X d_law_581 ?_
  refine V_iconst (v := 1) X d_law_583 (by decide) ?_
  refine V_iadd X d_law_584 ?_
  refine V_sld X scr hbl hbA (j := 4 * N + 1) (nI_add (4 * N) 1) (by omega) d_law_585 ?_
  refine al_0 X d_law_586 ?_
  refine il_4 X d_law_587 ?_
  refine V_iconst (v := 2) X d_law_589 (by decide) ?_
  refine V_iadd X d_law_590 ?_
  refine V_sld X scr hbl hbA (j := 4 * N + 2) (nI_add (4 * N) 2) (by omega) d_law_591 ?_
  refine al_0 X d_law_592 ?_
  refine il_4 X d_law_593 ?_
  refine V_iconst (v := 3) X d_law_595 (by decide) ?_
  refine V_iadd X d_law_596 ?_
  refine V_sld X scr hbl hbA (j := 4 * N + 3) (nI_add (4 * N) 3) (by omega) d_law_597 ?_
  rw [jn_comm dx]
  refine V_contF (runVF (y := y_M_key) (b' := b_M_key) (nL' := 7) (ret' := (some .long)) (fr := 4) (lo := 99) (mc := 0) (ms := 0) (As := [.int (xs (4 * N + 1)), .int (xs (4 * N + 2)), .int (xs (4 * N + 3))]) X dx.symm hM2 k_705 k_706 k_707 k_2 k_708 (n := 3) (by decide +kernel) (ci := 7) rfl rfl hmm ⟨by decide, by decide⟩ (by first | decide | (simp only [List.map, rf_cat, cat_i, cat_l, List.sum_cons, List.sum_nil]; first | done | decide | omega)) ⟨(by show cells + 3 + 0 ≤ 601024; omega), (by show slots + 18 + 0 ≤ 7293034; omega)⟩ d_law_598) (fun E a' hx _ => hx.elim) (fun v a' hp dy => ?_)
  obtain ⟨x', rfl, ⟨r, rfl⟩, heq, S'⟩ := hP2 v a' hp
  refine ls_6 X d_law_601 rfl (by first | exact okp_n | exact okp_i | exact okp_r) ?_
  refine al_2 X d_law_603 ?_
  obtain ⟨fm', hmm'⟩ := S'.m
  refine V_contF (runVF (y := y_M_thrown) (b' := b_M_thrown) (nL' := 1) (ret' := (some .int)) (fr := 0) (lo := 0) (mc := 0) (ms := 0) (As := []) X dy (S'.thr (Kl K)) k_636 k_637 k_638 k_2 k_639 (n := 0) (by decide +kernel) (ci := 7) rfl rfl hmm' ⟨by decide, by decide⟩ (by first | decide | (simp only [List.map, rf_cat, cat_i, cat_l, List.sum_cons, List.sum_nil]; first | done | decide | omega)) ⟨(by show cells + 3 + 0 + 0 ≤ 601024; omega), (by show slots + 18 + 0 + 0 ≤ 7293034; omega)⟩ d_law_604) (fun E a' hx _ => hx.elim) (fun v a2 hp dz => ?_)
  obtain ⟨r2, rfl, rfl, rfl⟩ := hp
  rw [jn_comm dz]
  refine il_5 X d_law_607 ?_
  refine V_icmp_eq (tgt := 614) X d_law_609 (by decide) (fun c_609 => ?_) (fun c_609 => ?_)
  · refine il_5 X d_law_614 ?_
    refine V_if_ne (tgt := 630) X d_law_616 (by decide) (fun c_616 => ?_) (fun c_616 => ?_)
    · refine V_goto (tgt := 1092) X d_law_630 (by decide) ?_
      exact V.widen (by omega) (by omega) (hk hc' _ f' _ _ _ _ S' dO' dz.symm)
    · refine al_3 X d_law_619 ?_
      refine V_iconst (v := 0) X d_law_620 (by decide) ?_
      refine V_lald (j := 0) X (jn_l (jn_o dO')) rfl (by decide) (by decide) d_law_621 ?_
      rw [heq c_616]
      refine ll_6 X d_law_622 ?_
      refine V_lcmp X d_law_624 ?_
      refine V_if_eq (tgt := 630) X d_law_625 (by decide) (fun c_625 => ?_) (fun c_625 => ?_)
      · refine V_goto (tgt := 1092) X d_law_630 (by decide) ?_
        exact V.widen (by omega) (by omega) (hk hc' _ f' _ _ _ _ S' dO' dz.symm)
      · exact absurd ((lg_cmp_eq _ _).mpr rfl) c_625
  · exact absurd rfl c_609
theorem lw_save (X : Fx K g N0 code 8 "SnapshotStoreLaw" room_1 rt nm ex) (scr : va_X b L xs (Ks K) (Ks K).heap ∧ L ≤ 2048) (hbl : b < (Ks K).heap.size) (hbA : ¬ N0 b) (hN : 4 * N + 4 ≤ L) (hN2 : N < 512) (S : St g s ta m ad hc hm N k0) (dO : dj hc (sg o (cO g f))) (dx : dj (jn hc (sg o (cO g f))) hm) (hcl : cells + 514 ≤ 601024) (hsl : slots + 1548 ≤ 7293034) (hk : Cont K g N0 Q b s ta m o ad N cells slots) : V K g N0 8 Q (jn (jn hc (sg o (cO g f))) hm) cells slots 633 [some (va_rf (some b)), some (va_rf (some s)), some (va_rf (some m)), some (va_rf (some o)), some (.int (nI (4 * N))), z5, z6, z7] [] := by
  obtain ⟨post, xp, hC, J1, J2⟩ := s_save (l := Kl K) (g := g) (s := s) (ta := ta) (m := m) (ad := ad) hN2 (xs (4 * N + 1)) hc hm k0 S
  obtain ⟨fs, hs⟩ := S.s
  obtain ⟨fm, hmm⟩ := S.m
  refine al_1 X d_law_633 ?_
  refine al_0 X d_law_634 ?_
  refine il_4 X d_law_635 ?_
  refine V_iconst (v := 1) X d_law_637 (by decide) ?_
  refine V_iadd X d_law_638 ?_
  refine V_sld X scr hbl hbA (j := 4 * N + 1) (nI_add (4 * N) 1) (by omega) d_law_639 ?_
  refine al_3 X d_law_640 ?_
  refine V_contF (runSXF (y := y_L_save) (b' := b_L_save) (nL' := 4) (ret' := (some .int)) (hh := [(0, 9, 12, 21), (0, 9, 15, 15)]) (fr := 9) (lo := 157) (mc := 3) (ms := 18) (As := [va_rf (some s), .int (xs (4 * N + 1)), va_rf (some o)]) X dx (fun N1 => h_save (Kl K) g N1 (xs (4 * N + 1)) hC hs (fun v h' hp => (J1 v h' hp).imp (fun x hx => ⟨hx.1, hx.2.1⟩)) (fun E h' hx => (J2 E h' hx).1) dO) k_433 k_434 k_0 k_435 (n := 3) (by decide +kernel) rfl ⟨by decide, by decide⟩ (by first | decide | (simp only [List.map, rf_cat, cat_i, cat_l, List.sum_cons, List.sum_nil]; first | done | decide | omega)) ⟨(by show cells + 3 ≤ 601024; omega), (by show slots + 18 ≤ 7293034; omega)⟩ d_law_641) (fun E a' hx _ => hx.elim) (fun v a' hp dx => ?_)
  obtain ⟨k, rfl, hc', f', dO', rfl, hcase⟩ := hp
  obtain ⟨post2, hM2, hP2⟩ := joint J1 J2 hcase
  refine is_5 X d_law_644 rfl (by first | exact okp_n | exact okp_i | exact okp_r) ?_
  refine al_2 X d_law_646 ?_
  refine al_0 X d_law_647 ?_
  refine il_4 X d_law_648 ?_
  refine V_iconst (v := 1) X d_law_650 (by decide) ?_
  refine V_iadd X d_law_651 ?_
  refine V_sld X scr hbl hbA (j := 4 * N + 1) (nI_add (4 * N) 1) (by omega) d_law_652 ?_
  rw [jn_comm dx]
  refine V_contF (runVF (y := y_M_save) (b' := b_M_save) (nL' := 2) (ret' := (some .int)) (fr := 2) (lo := 42) (mc := 0) (ms := 0) (As := [.int (xs (4 * N + 1))]) X dx.symm hM2 k_710 k_711 k_712 k_2 k_713 (n := 1) (by decide +kernel) (ci := 7) rfl rfl hmm ⟨by decide, by decide⟩ (by first | decide | (simp only [List.map, rf_cat, cat_i, cat_l, List.sum_cons, List.sum_nil]; first | done | decide | omega)) ⟨(by show cells + 3 + 0 ≤ 601024; omega), (by show slots + 18 + 0 ≤ 7293034; omega)⟩ d_law_653) (fun E a' hx _ => hx.elim) (fun v a' hp dy => ?_)
  obtain ⟨x', rfl, ⟨r, rfl⟩, heq, S'⟩ := hP2 v a' hp
  refine is_6 X d_law_656 rfl (by first | exact okp_n | exact okp_i | exact okp_r) ?_
  refine al_2 X d_law_658 ?_
  obtain ⟨fm', hmm'⟩ := S'.m
  refine V_contF (runVF (y := y_M_thrown) (b' := b_M_thrown) (nL' := 1) (ret' := (some .int)) (fr := 0) (lo := 0) (mc := 0) (ms := 0) (As := []) X dy (S'.thr (Kl K)) k_636 k_637 k_638 k_2 k_639 (n := 0) (by decide +kernel) (ci := 7) rfl rfl hmm' ⟨by decide, by decide⟩ (by first | decide | (simp only [List.map, rf_cat, cat_i, cat_l, List.sum_cons, List.sum_nil]; first | done | decide | omega)) ⟨(by show cells + 3 + 0 + 0 ≤ 601024; omega), (by show slots + 18 + 0 + 0 ≤ 7293034; omega)⟩ d_law_659) (fun E a' hx _ => hx.elim) (fun v a2 hp dz => ?_)
  obtain ⟨r2, rfl, rfl, rfl⟩ := hp
  rw [jn_comm dz]
  refine il_5 X d_law_662 ?_
  refine V_icmp_eq (tgt := 669) X d_law_664 (by decide) (fun c_664 => ?_) (fun c_664 => ?_)
  · refine il_5 X d_law_669 ?_
    refine V_if_ne (tgt := 686) X d_law_671 (by decide) (fun c_671 => ?_) (fun c_671 => ?_)
    · refine V_goto (tgt := 1092) X d_law_686 (by decide) ?_
      exact V.widen (by omega) (by omega) (hk hc' _ f' _ _ _ _ S' dO' dz.symm)
    · refine al_3 X d_law_674 ?_
      refine V_iconst (v := 0) X d_law_675 (by decide) ?_
      refine V_lald (j := 0) X (jn_l (jn_o dO')) rfl (by decide) (by decide) d_law_676 ?_
      rw [heq c_671]
      refine il_6 X d_law_677 ?_
      refine V_i2l X d_law_679 ?_
      refine V_lcmp X d_law_680 ?_
      refine V_if_eq (tgt := 686) X d_law_681 (by decide) (fun c_681 => ?_) (fun c_681 => ?_)
      · refine V_goto (tgt := 1092) X d_law_686 (by decide) ?_
        exact V.widen (by omega) (by omega) (hk hc' _ f' _ _ _ _ S' dO' dz.symm)
      · exact absurd ((lg_cmp_eq _ _).mpr rfl) c_681
  · exact absurd rfl c_664
theorem lw_back (X : Fx K g N0 code 8 "SnapshotStoreLaw" room_1 rt nm ex) (scr : va_X b L xs (Ks K) (Ks K).heap ∧ L ≤ 2048) (hbl : b < (Ks K).heap.size) (hbA : ¬ N0 b) (hN : 4 * N + 4 ≤ L) (hN2 : N < 512) (S : St g s ta m ad hc hm N k0) (dO : dj hc (sg o (cO g f))) (dx : dj (jn hc (sg o (cO g f))) hm) (hcl : cells + 514 ≤ 601024) (hsl : slots + 1548 ≤ 7293034) (hk : Cont K g N0 Q b s ta m o ad N cells slots) : V K g N0 8 Q (jn (jn hc (sg o (cO g f))) hm) cells slots 689 [some (va_rf (some b)), some (va_rf (some s)), some (va_rf (some m)), some (va_rf (some o)), some (.int (nI (4 * N))), z5, z6, z7] [] := by
  obtain ⟨post, xp, hC, J1, J2⟩ := s_back (l := Kl K) (g := g) (s := s) (ta := ta) (m := m) (ad := ad) hN2 (xs (4 * N + 1)) (xs (4 * N + 2)) hc hm k0 S
  obtain ⟨fs, hs⟩ := S.s
  obtain ⟨fm, hmm⟩ := S.m
  refine al_1 X d_law_689 ?_
  refine al_0 X d_law_690 ?_
  refine il_4 X d_law_691 ?_
  refine V_iconst (v := 1) X d_law_693 (by decide) ?_
  refine V_iadd X d_law_694 ?_
  refine V_sld X scr hbl hbA (j := 4 * N + 1) (nI_add (4 * N) 1) (by omega) d_law_695 ?_
  refine al_0 X d_law_696 ?_
  refine il_4 X d_law_697 ?_
  refine V_iconst (v := 2) X d_law_699 (by decide) ?_
  refine V_iadd X d_law_700 ?_
  refine V_sld X scr hbl hbA (j := 4 * N + 2) (nI_add (4 * N) 2) (by omega) d_law_701 ?_
  refine al_3 X d_law_702 ?_
  refine V_contF (runSXF (y := y_L_back) (b' := b_L_back) (nL' := 5) (ret' := (some .int)) (hh := [(0, 10, 13, 21), (0, 10, 17, 15), (0, 10, 21, 13)]) (fr := 9) (lo := 158) (mc := 3) (ms := 18) (As := [va_rf (some s), .int (xs (4 * N + 1)), .int (xs (4 * N + 2)), va_rf (some o)]) X dx (fun N1 => h_back (Kl K) g N1 (xs (4 * N + 1)) (xs (4 * N + 2)) hC hs (fun v h' hp => (J1 v h' hp).imp (fun x hx => ⟨hx.1, hx.2.1⟩)) (fun E h' hx => (J2 E h' hx).1) dO) k_464 k_465 k_0 k_466 (n := 4) (by decide +kernel) rfl ⟨by decide, by decide⟩ (by first | decide | (simp only [List.map, rf_cat, cat_i, cat_l, List.sum_cons, List.sum_nil]; first | done | decide | omega)) ⟨(by show cells + 3 ≤ 601024; omega), (by show slots + 18 ≤ 7293034; omega)⟩ d_law_703) (fun E a' hx _ => hx.elim) (fun v a' hp dx => ?_)
  obtain ⟨k, rfl, hc', f', dO', rfl, hcase⟩ := hp
  obtain ⟨post2, hM2, hP2⟩ := joint J1 J2 hcase
  refine is_5 X d_law_706 rfl (by first | exact okp_n | exact okp_i | exact okp_r) ?_
  refine al_2 X d_law_708 ?_
  refine al_0 X d_law_709 ?_
  refine il_4 X d_law_710 ?_
  refine V_iconst (v := 1) X d_law_712 (by decide) ?_
  refine V_iadd X d_law_713 ?_
  refine V_sld X scr hbl hbA (j := 4 * N + 1) (nI_add (4 * N) 1) (by omega) d_law_714 ?_
  refine al_0 X d_law_715 ?_
  refine il_4 X d_law_716 ?_
  refine V_iconst (v := 2) X d_law_718 (by decide) ?_
  refine V_iadd X d_law_719 ?_
  refine V_sld X scr hbl hbA (j := 4 * N + 2) (nI_add (4 * N) 2) (by omega) d_law_720 ?_
  rw [jn_comm dx]
  refine V_contF (runVF (y := y_M_back) (b' := b_M_back) (nL' := 3) (ret' := (some .int)) (fr := 2) (lo := 47) (mc := 0) (ms := 0) (As := [.int (xs (4 * N + 1)), .int (xs (4 * N + 2))]) X dx.symm hM2 k_714 k_715 k_716 k_2 k_717 (n := 2) (by decide +kernel) (ci := 7) rfl rfl hmm ⟨by decide, by decide⟩ (by first | decide | (simp only [List.map, rf_cat, cat_i, cat_l, List.sum_cons, List.sum_nil]; first | done | decide | omega)) ⟨(by show cells + 3 + 0 ≤ 601024; omega), (by show slots + 18 + 0 ≤ 7293034; omega)⟩ d_law_721) (fun E a' hx _ => hx.elim) (fun v a' hp dy => ?_)
  obtain ⟨x', rfl, ⟨r, rfl⟩, heq, S'⟩ := hP2 v a' hp
  refine is_6 X d_law_724 rfl (by first | exact okp_n | exact okp_i | exact okp_r) ?_
  refine al_2 X d_law_726 ?_
  obtain ⟨fm', hmm'⟩ := S'.m
  refine V_contF (runVF (y := y_M_thrown) (b' := b_M_thrown) (nL' := 1) (ret' := (some .int)) (fr := 0) (lo := 0) (mc := 0) (ms := 0) (As := []) X dy (S'.thr (Kl K)) k_636 k_637 k_638 k_2 k_639 (n := 0) (by decide +kernel) (ci := 7) rfl rfl hmm' ⟨by decide, by decide⟩ (by first | decide | (simp only [List.map, rf_cat, cat_i, cat_l, List.sum_cons, List.sum_nil]; first | done | decide | omega)) ⟨(by show cells + 3 + 0 + 0 ≤ 601024; omega), (by show slots + 18 + 0 + 0 ≤ 7293034; omega)⟩ d_law_727) (fun E a' hx _ => hx.elim) (fun v a2 hp dz => ?_)
  obtain ⟨r2, rfl, rfl, rfl⟩ := hp
  rw [jn_comm dz]
  refine il_5 X d_law_730 ?_
  refine V_icmp_eq (tgt := 737) X d_law_732 (by decide) (fun c_732 => ?_) (fun c_732 => ?_)
  · refine il_5 X d_law_737 ?_
    refine V_if_ne (tgt := 754) X d_law_739 (by decide) (fun c_739 => ?_) (fun c_739 => ?_)
    · refine V_goto (tgt := 1092) X d_law_754 (by decide) ?_
      exact V.widen (by omega) (by omega) (hk hc' _ f' _ _ _ _ S' dO' dz.symm)
    · refine al_3 X d_law_742 ?_
      refine V_iconst (v := 0) X d_law_743 (by decide) ?_
      refine V_lald (j := 0) X (jn_l (jn_o dO')) rfl (by decide) (by decide) d_law_744 ?_
      rw [heq c_739]
      refine il_6 X d_law_745 ?_
      refine V_i2l X d_law_747 ?_
      refine V_lcmp X d_law_748 ?_
      refine V_if_eq (tgt := 754) X d_law_749 (by decide) (fun c_749 => ?_) (fun c_749 => ?_)
      · refine V_goto (tgt := 1092) X d_law_754 (by decide) ?_
        exact V.widen (by omega) (by omega) (hk hc' _ f' _ _ _ _ S' dO' dz.symm)
      · exact absurd ((lg_cmp_eq _ _).mpr rfl) c_749
  · exact absurd rfl c_732
theorem lw_commit (X : Fx K g N0 code 8 "SnapshotStoreLaw" room_1 rt nm ex) (scr : va_X b L xs (Ks K) (Ks K).heap ∧ L ≤ 2048) (hbl : b < (Ks K).heap.size) (hbA : ¬ N0 b) (hN : 4 * N + 4 ≤ L) (hN2 : N < 512) (S : St g s ta m ad hc hm N k0) (dO : dj hc (sg o (cO g f))) (dx : dj (jn hc (sg o (cO g f))) hm) (hcl : cells + 514 ≤ 601024) (hsl : slots + 1548 ≤ 7293034) (hk : Cont K g N0 Q b s ta m o ad N cells slots) : V K g N0 8 Q (jn (jn hc (sg o (cO g f))) hm) cells slots 757 [some (va_rf (some b)), some (va_rf (some s)), some (va_rf (some m)), some (va_rf (some o)), some (.int (nI (4 * N))), z5, z6, z7] [] := by
  obtain ⟨post, xp, hC, J1, J2⟩ := s_commit (l := Kl K) (g := g) (s := s) (ta := ta) (m := m) (ad := ad) hN2 (xs (4 * N + 1)) hc hm k0 S
  obtain ⟨fs, hs⟩ := S.s
  obtain ⟨fm, hmm⟩ := S.m
  refine al_1 X d_law_757 ?_
  refine al_0 X d_law_758 ?_
  refine il_4 X d_law_759 ?_
  refine V_iconst (v := 1) X d_law_761 (by decide) ?_
  refine V_iadd X d_law_762 ?_
  refine V_sld X scr hbl hbA (j := 4 * N + 1) (nI_add (4 * N) 1) (by omega) d_law_763 ?_
  refine al_3 X d_law_764 ?_
  refine V_contF (runSXF (y := y_L_commit) (b' := b_L_commit) (nL' := 4) (ret' := (some .int)) (hh := [(0, 9, 12, 21), (0, 9, 15, 15)]) (fr := 9) (lo := 157) (mc := 514) (ms := 1548) (As := [va_rf (some s), .int (xs (4 * N + 1)), va_rf (some o)]) X dx (fun N1 => h_commit (Kl K) g N1 (xs (4 * N + 1)) hC hs (fun v h' hp => (J1 v h' hp).imp (fun x hx => ⟨hx.1, hx.2.1⟩)) (fun E h' hx => (J2 E h' hx).1) dO) k_476 k_477 k_0 k_478 (n := 3) (by decide +kernel) rfl ⟨by decide, by decide⟩ (by first | decide | (simp only [List.map, rf_cat, cat_i, cat_l, List.sum_cons, List.sum_nil]; first | done | decide | omega)) ⟨(by show cells + 514 ≤ 601024; omega), (by show slots + 1548 ≤ 7293034; omega)⟩ d_law_765) (fun E a' hx _ => hx.elim) (fun v a' hp dx => ?_)
  obtain ⟨k, rfl, hc', f', dO', rfl, hcase⟩ := hp
  obtain ⟨post2, hM2, hP2⟩ := joint J1 J2 hcase
  refine is_5 X d_law_768 rfl (by first | exact okp_n | exact okp_i | exact okp_r) ?_
  refine al_2 X d_law_770 ?_
  refine al_0 X d_law_771 ?_
  refine il_4 X d_law_772 ?_
  refine V_iconst (v := 1) X d_law_774 (by decide) ?_
  refine V_iadd X d_law_775 ?_
  refine V_sld X scr hbl hbA (j := 4 * N + 1) (nI_add (4 * N) 1) (by omega) d_law_776 ?_
  rw [jn_comm dx]
  refine V_contF (runVF (y := y_M_commit) (b' := b_M_commit) (nL' := 4) (ret' := (some .int)) (fr := 3) (lo := 69) (mc := 0) (ms := 0) (As := [.int (xs (4 * N + 1))]) X dx.symm hM2 k_718 k_719 k_720 k_2 k_721 (n := 1) (by decide +kernel) (ci := 7) rfl rfl hmm ⟨by decide, by decide⟩ (by first | decide | (simp only [List.map, rf_cat, cat_i, cat_l, List.sum_cons, List.sum_nil]; first | done | decide | omega)) ⟨(by show cells + 514 + 0 ≤ 601024; omega), (by show slots + 1548 + 0 ≤ 7293034; omega)⟩ d_law_777) (fun E a' hx _ => hx.elim) (fun v a' hp dy => ?_)
  obtain ⟨x', rfl, ⟨r, rfl⟩, heq, S'⟩ := hP2 v a' hp
  refine is_6 X d_law_780 rfl (by first | exact okp_n | exact okp_i | exact okp_r) ?_
  refine al_2 X d_law_782 ?_
  obtain ⟨fm', hmm'⟩ := S'.m
  refine V_contF (runVF (y := y_M_thrown) (b' := b_M_thrown) (nL' := 1) (ret' := (some .int)) (fr := 0) (lo := 0) (mc := 0) (ms := 0) (As := []) X dy (S'.thr (Kl K)) k_636 k_637 k_638 k_2 k_639 (n := 0) (by decide +kernel) (ci := 7) rfl rfl hmm' ⟨by decide, by decide⟩ (by first | decide | (simp only [List.map, rf_cat, cat_i, cat_l, List.sum_cons, List.sum_nil]; first | done | decide | omega)) ⟨(by show cells + 514 + 0 + 0 ≤ 601024; omega), (by show slots + 1548 + 0 + 0 ≤ 7293034; omega)⟩ d_law_783) (fun E a' hx _ => hx.elim) (fun v a2 hp dz => ?_)
  obtain ⟨r2, rfl, rfl, rfl⟩ := hp
  rw [jn_comm dz]
  refine il_5 X d_law_786 ?_
  refine V_icmp_eq (tgt := 793) X d_law_788 (by decide) (fun c_788 => ?_) (fun c_788 => ?_)
  · refine il_5 X d_law_793 ?_
    refine V_if_ne (tgt := 810) X d_law_795 (by decide) (fun c_795 => ?_) (fun c_795 => ?_)
    · refine V_goto (tgt := 1092) X d_law_810 (by decide) ?_
      exact V.widen (by omega) (by omega) (hk hc' _ f' _ _ _ _ S' dO' dz.symm)
    · refine al_3 X d_law_798 ?_
      refine V_iconst (v := 0) X d_law_799 (by decide) ?_
      refine V_lald (j := 0) X (jn_l (jn_o dO')) rfl (by decide) (by decide) d_law_800 ?_
      rw [heq c_795]
      refine il_6 X d_law_801 ?_
      refine V_i2l X d_law_803 ?_
      refine V_lcmp X d_law_804 ?_
      refine V_if_eq (tgt := 810) X d_law_805 (by decide) (fun c_805 => ?_) (fun c_805 => ?_)
      · refine V_goto (tgt := 1092) X d_law_810 (by decide) ?_
        exact V.widen (by omega) (by omega) (hk hc' _ f' _ _ _ _ S' dO' dz.symm)
      · exact absurd ((lg_cmp_eq _ _).mpr rfl) c_805
  · exact absurd rfl c_788
theorem lw_abort (X : Fx K g N0 code 8 "SnapshotStoreLaw" room_1 rt nm ex) (scr : va_X b L xs (Ks K) (Ks K).heap ∧ L ≤ 2048) (hbl : b < (Ks K).heap.size) (hbA : ¬ N0 b) (hN : 4 * N + 4 ≤ L) (hN2 : N < 512) (S : St g s ta m ad hc hm N k0) (dO : dj hc (sg o (cO g f))) (dx : dj (jn hc (sg o (cO g f))) hm) (hcl : cells + 514 ≤ 601024) (hsl : slots + 1548 ≤ 7293034) (hk : Cont K g N0 Q b s ta m o ad N cells slots) : V K g N0 8 Q (jn (jn hc (sg o (cO g f))) hm) cells slots 813 [some (va_rf (some b)), some (va_rf (some s)), some (va_rf (some m)), some (va_rf (some o)), some (.int (nI (4 * N))), z5, z6, z7] [] := by
  obtain ⟨post, xp, hC, J1, J2⟩ := s_abort (l := Kl K) (g := g) (s := s) (ta := ta) (m := m) (ad := ad) hN2 (xs (4 * N + 1)) hc hm k0 S
  obtain ⟨fs, hs⟩ := S.s
  obtain ⟨fm, hmm⟩ := S.m
  refine al_1 X d_law_813 ?_
  refine al_0 X d_law_814 ?_
  refine il_4 X d_law_815 ?_
  refine V_iconst (v := 1) X d_law_817 (by decide) ?_
  refine V_iadd X d_law_818 ?_
  refine V_sld X scr hbl hbA (j := 4 * N + 1) (nI_add (4 * N) 1) (by omega) d_law_819 ?_
  refine al_3 X d_law_820 ?_
  refine V_contF (runSXF (y := y_L_abort) (b' := b_L_abort) (nL' := 4) (ret' := (some .int)) (hh := [(0, 9, 12, 21), (0, 9, 15, 15)]) (fr := 9) (lo := 156) (mc := 2) (ms := 12) (As := [va_rf (some s), .int (xs (4 * N + 1)), va_rf (some o)]) X dx (fun N1 => h_abort (Kl K) g N1 (xs (4 * N + 1)) hC hs (fun v h' hp => (J1 v h' hp).imp (fun x hx => ⟨hx.1, hx.2.1⟩)) (fun E h' hx => (J2 E h' hx).1) dO) k_533 k_534 k_0 k_535 (n := 3) (by decide +kernel) rfl ⟨by decide, by decide⟩ (by first | decide | (simp only [List.map, rf_cat, cat_i, cat_l, List.sum_cons, List.sum_nil]; first | done | decide | omega)) ⟨(by show cells + 2 ≤ 601024; omega), (by show slots + 12 ≤ 7293034; omega)⟩ d_law_821) (fun E a' hx _ => hx.elim) (fun v a' hp dx => ?_)
  obtain ⟨k, rfl, hc', f', dO', rfl, hcase⟩ := hp
  obtain ⟨post2, hM2, hP2⟩ := joint J1 J2 hcase
  refine is_5 X d_law_824 rfl (by first | exact okp_n | exact okp_i | exact okp_r) ?_
  refine al_2 X d_law_826 ?_
  refine al_0 X d_law_827 ?_
  refine il_4 X d_law_828 ?_
  refine V_iconst (v := 1) X d_law_830 (by decide) ?_
  refine V_iadd X d_law_831 ?_
  refine V_sld X scr hbl hbA (j := 4 * N + 1) (nI_add (4 * N) 1) (by omega) d_law_832 ?_
  rw [jn_comm dx]
  refine V_contF (runVF (y := y_M_abort) (b' := b_M_abort) (nL' := 2) (ret' := (some .int)) (fr := 3) (lo := 69) (mc := 0) (ms := 0) (As := [.int (xs (4 * N + 1))]) X dx.symm hM2 k_742 k_743 k_744 k_2 k_745 (n := 1) (by decide +kernel) (ci := 7) rfl rfl hmm ⟨by decide, by decide⟩ (by first | decide | (simp only [List.map, rf_cat, cat_i, cat_l, List.sum_cons, List.sum_nil]; first | done | decide | omega)) ⟨(by show cells + 2 + 0 ≤ 601024; omega), (by show slots + 12 + 0 ≤ 7293034; omega)⟩ d_law_833) (fun E a' hx _ => hx.elim) (fun v a' hp dy => ?_)
  obtain ⟨x', rfl, ⟨r, rfl⟩, heq, S'⟩ := hP2 v a' hp
  refine is_6 X d_law_836 rfl (by first | exact okp_n | exact okp_i | exact okp_r) ?_
  refine al_2 X d_law_838 ?_
  obtain ⟨fm', hmm'⟩ := S'.m
  refine V_contF (runVF (y := y_M_thrown) (b' := b_M_thrown) (nL' := 1) (ret' := (some .int)) (fr := 0) (lo := 0) (mc := 0) (ms := 0) (As := []) X dy (S'.thr (Kl K)) k_636 k_637 k_638 k_2 k_639 (n := 0) (by decide +kernel) (ci := 7) rfl rfl hmm' ⟨by decide, by decide⟩ (by first | decide | (simp only [List.map, rf_cat, cat_i, cat_l, List.sum_cons, List.sum_nil]; first | done | decide | omega)) ⟨(by show cells + 2 + 0 + 0 ≤ 601024; omega), (by show slots + 12 + 0 + 0 ≤ 7293034; omega)⟩ d_law_839) (fun E a' hx _ => hx.elim) (fun v a2 hp dz => ?_)
  obtain ⟨r2, rfl, rfl, rfl⟩ := hp
  rw [jn_comm dz]
  refine il_5 X d_law_842 ?_
  refine V_icmp_eq (tgt := 849) X d_law_844 (by decide) (fun c_844 => ?_) (fun c_844 => ?_)
  · refine il_5 X d_law_849 ?_
    refine V_if_ne (tgt := 866) X d_law_851 (by decide) (fun c_851 => ?_) (fun c_851 => ?_)
    · refine V_goto (tgt := 1092) X d_law_866 (by decide) ?_
      exact V.widen (by omega) (by omega) (hk hc' _ f' _ _ _ _ S' dO' dz.symm)
    · refine al_3 X d_law_854 ?_
      refine V_iconst (v := 0) X d_law_855 (by decide) ?_
      refine V_lald (j := 0) X (jn_l (jn_o dO')) rfl (by decide) (by decide) d_law_856 ?_
      rw [heq c_851]
      refine il_6 X d_law_857 ?_
      refine V_i2l X d_law_859 ?_
      refine V_lcmp X d_law_860 ?_
      refine V_if_eq (tgt := 866) X d_law_861 (by decide) (fun c_861 => ?_) (fun c_861 => ?_)
      · refine V_goto (tgt := 1092) X d_law_866 (by decide) ?_
        exact V.widen (by omega) (by omega) (hk hc' _ f' _ _ _ _ S' dO' dz.symm)
      · exact absurd ((lg_cmp_eq _ _).mpr rfl) c_861
  · exact absurd rfl c_844
theorem lw_vacuum (X : Fx K g N0 code 8 "SnapshotStoreLaw" room_1 rt nm ex) (scr : va_X b L xs (Ks K) (Ks K).heap ∧ L ≤ 2048) (hbl : b < (Ks K).heap.size) (hbA : ¬ N0 b) (hN : 4 * N + 4 ≤ L) (hN2 : N < 512) (S : St g s ta m ad hc hm N k0) (dO : dj hc (sg o (cO g f))) (dx : dj (jn hc (sg o (cO g f))) hm) (hcl : cells + 514 ≤ 601024) (hsl : slots + 1548 ≤ 7293034) (hk : Cont K g N0 Q b s ta m o ad N cells slots) : V K g N0 8 Q (jn (jn hc (sg o (cO g f))) hm) cells slots 869 [some (va_rf (some b)), some (va_rf (some s)), some (va_rf (some m)), some (va_rf (some o)), some (.int (nI (4 * N))), z5, z6, z7] [] := by
  obtain ⟨post, xp, hC, J1, J2⟩ := s_vacuum (l := Kl K) (g := g) (s := s) (ta := ta) (m := m) (ad := ad) hN2  hc hm k0 S
  obtain ⟨fs, hs⟩ := S.s
  obtain ⟨fm, hmm⟩ := S.m
  rw [jn_assoc]
  refine al_1 X d_law_869 ?_
  refine V_contF (runVF (y := y_S_vacuum) (b' := b_S_vacuum) (nL' := 3) (ret' := (some .int)) (fr := 2) (lo := 51) (mc := 0) (ms := 0) (As := []) X (dj_r dO (dj_1 dx)) hC k_44 k_45 k_46 k_1 k_47 (n := 0) (by decide +kernel) (ci := 6) rfl rfl hs ⟨by decide, by decide⟩ (by first | decide | (simp only [List.map, rf_cat, cat_i, cat_l, List.sum_cons, List.sum_nil]; first | done | decide | omega)) ⟨(by show cells + 0 ≤ 601024; omega), (by show slots + 0 ≤ 7293034; omega)⟩ d_law_870) (fun E a' hx _ => absurd (J2 E a' hx).1 List.not_mem_nil) (fun v hc' hp dB => ?_)
  obtain ⟨x, rfl, ⟨r, rfl⟩, post2, hM2, hP2⟩ := J1 v hc' hp
  have dO' := dj_r1 dB
  have dx' : dj (jn hc' (sg o (cO g f))) hm := dj_l (dj_r2 dB) (dj_2 dx)
  rw [← jn_assoc, jn_comm dx']
  refine al_2 X d_law_873 ?_
  refine V_contF (runVF (y := y_M_vacuum) (b' := b_M_vacuum) (nL' := 5) (ret' := (some .int)) (fr := 2) (lo := 48) (mc := 0) (ms := 0) (As := []) (st := [.int r]) X dx'.symm hM2 k_746 k_747 k_748 k_2 k_749 (n := 0) (by decide +kernel) (ci := 7) rfl rfl hmm ⟨by decide, by decide⟩ (by first | decide | (simp only [List.map, rf_cat, cat_i, cat_l, List.sum_cons, List.sum_nil]; first | done | decide | omega)) ⟨(by show cells + 0 + 0 ≤ 601024; omega), (by show slots + 0 + 0 ≤ 7293034; omega)⟩ d_law_874) (fun E a' hx _ => hx.elim) (fun v a' hp dy => ?_)
  obtain ⟨rfl, S'⟩ := hP2 v a' hp
  rw [jn_comm dy]
  refine V_icmp_eq (tgt := 1092) X d_law_877 (by decide) (fun c_877 => ?_) (fun c_877 => ?_)
  · exact V.widen (by omega) (by omega) (hk hc' _ f _ _ _ _ S' dO' dy.symm)
  · exact absurd rfl c_877
theorem lw_flush (X : Fx K g N0 code 8 "SnapshotStoreLaw" room_1 rt nm ex) (scr : va_X b L xs (Ks K) (Ks K).heap ∧ L ≤ 2048) (hbl : b < (Ks K).heap.size) (hbA : ¬ N0 b) (hN : 4 * N + 4 ≤ L) (hN2 : N < 512) (S : St g s ta m ad hc hm N k0) (dO : dj hc (sg o (cO g f))) (dx : dj (jn hc (sg o (cO g f))) hm) (hcl : cells + 514 ≤ 601024) (hsl : slots + 1548 ≤ 7293034) (hk : Cont K g N0 Q b s ta m o ad N cells slots) : V K g N0 8 Q (jn (jn hc (sg o (cO g f))) hm) cells slots 882 [some (va_rf (some b)), some (va_rf (some s)), some (va_rf (some m)), some (va_rf (some o)), some (.int (nI (4 * N))), z5, z6, z7] [] := by
  obtain ⟨post, xp, hC, J1, J2⟩ := s_flush (l := Kl K) (g := g) (s := s) (ta := ta) (m := m) (ad := ad) hN2  hc hm k0 S
  obtain ⟨fs, hs⟩ := S.s
  obtain ⟨fm, hmm⟩ := S.m
  rw [jn_assoc]
  refine al_1 X d_law_882 ?_
  refine V_contF (runVF (y := y_S_flush) (b' := b_S_flush) (nL' := 2) (ret' := (some .int)) (fr := 0) (lo := 0) (mc := 0) (ms := 0) (As := []) X (dj_r dO (dj_1 dx)) hC k_66 k_67 k_68 k_1 k_69 (n := 0) (by decide +kernel) (ci := 6) rfl rfl hs ⟨by decide, by decide⟩ (by first | decide | (simp only [List.map, rf_cat, cat_i, cat_l, List.sum_cons, List.sum_nil]; first | done | decide | omega)) ⟨(by show cells + 0 ≤ 601024; omega), (by show slots + 0 ≤ 7293034; omega)⟩ d_law_883) (fun E a' hx _ => absurd (J2 E a' hx).1 List.not_mem_nil) (fun v hc' hp dB => ?_)
  obtain ⟨x, rfl, ⟨r, rfl⟩, post2, hM2, hP2⟩ := J1 v hc' hp
  have dO' := dj_r1 dB
  have dx' : dj (jn hc' (sg o (cO g f))) hm := dj_l (dj_r2 dB) (dj_2 dx)
  rw [← jn_assoc, jn_comm dx']
  refine al_2 X d_law_886 ?_
  refine V_contF (runVF (y := y_M_flush) (b' := b_M_flush) (nL' := 2) (ret' := (some .int)) (fr := 0) (lo := 0) (mc := 0) (ms := 0) (As := []) (st := [.int r]) X dx'.symm hM2 k_762 k_763 k_764 k_2 k_765 (n := 0) (by decide +kernel) (ci := 7) rfl rfl hmm ⟨by decide, by decide⟩ (by first | decide | (simp only [List.map, rf_cat, cat_i, cat_l, List.sum_cons, List.sum_nil]; first | done | decide | omega)) ⟨(by show cells + 0 + 0 ≤ 601024; omega), (by show slots + 0 + 0 ≤ 7293034; omega)⟩ d_law_887) (fun E a' hx _ => hx.elim) (fun v a' hp dy => ?_)
  obtain ⟨rfl, S'⟩ := hP2 v a' hp
  rw [jn_comm dy]
  refine V_icmp_eq (tgt := 1092) X d_law_890 (by decide) (fun c_890 => ?_) (fun c_890 => ?_)
  · exact V.widen (by omega) (by omega) (hk hc' _ f _ _ _ _ S' dO' dy.symm)
  · exact absurd rfl c_890
theorem lw_crash (X : Fx K g N0 code 8 "SnapshotStoreLaw" room_1 rt nm ex) (scr : va_X b L xs (Ks K) (Ks K).heap ∧ L ≤ 2048) (hbl : b < (Ks K).heap.size) (hbA : ¬ N0 b) (hN : 4 * N + 4 ≤ L) (hN2 : N < 512) (S : St g s ta m ad hc hm N k0) (dO : dj hc (sg o (cO g f))) (dx : dj (jn hc (sg o (cO g f))) hm) (hcl : cells + 514 ≤ 601024) (hsl : slots + 1548 ≤ 7293034) (hk : Cont K g N0 Q b s ta m o ad N cells slots) : V K g N0 8 Q (jn (jn hc (sg o (cO g f))) hm) cells slots 895 [some (va_rf (some b)), some (va_rf (some s)), some (va_rf (some m)), some (va_rf (some o)), some (.int (nI (4 * N))), z5, z6, z7] [] := by
  obtain ⟨post, xp, hC, J1, J2⟩ := s_crash (l := Kl K) (g := g) (s := s) (ta := ta) (m := m) (ad := ad) hN2  hc hm k0 S
  obtain ⟨fs, hs⟩ := S.s
  obtain ⟨fm, hmm⟩ := S.m
  rw [jn_assoc]
  refine al_1 X d_law_895 ?_
  refine V_contF (runVF (y := y_S_crash) (b' := b_S_crash) (nL' := 6) (ret' := (some .int)) (fr := 1) (lo := 22) (mc := 0) (ms := 0) (As := []) X (dj_r dO (dj_1 dx)) hC k_70 k_71 k_72 k_1 k_73 (n := 0) (by decide +kernel) (ci := 6) rfl rfl hs ⟨by decide, by decide⟩ (by first | decide | (simp only [List.map, rf_cat, cat_i, cat_l, List.sum_cons, List.sum_nil]; first | done | decide | omega)) ⟨(by show cells + 0 ≤ 601024; omega), (by show slots + 0 ≤ 7293034; omega)⟩ d_law_896) (fun E a' hx _ => absurd (J2 E a' hx).1 List.not_mem_nil) (fun v hc' hp dB => ?_)
  obtain ⟨x, rfl, ⟨r, rfl⟩, post2, hM2, hP2⟩ := J1 v hc' hp
  have dO' := dj_r1 dB
  have dx' : dj (jn hc' (sg o (cO g f))) hm := dj_l (dj_r2 dB) (dj_2 dx)
  rw [← jn_assoc, jn_comm dx']
  refine al_2 X d_law_899 ?_
  refine V_contF (runVF (y := y_M_crash) (b' := b_M_crash) (nL' := 4) (ret' := (some .int)) (fr := 3) (lo := 69) (mc := 0) (ms := 0) (As := []) (st := [.int r]) X dx'.symm hM2 k_766 k_767 k_768 k_2 k_769 (n := 0) (by decide +kernel) (ci := 7) rfl rfl hmm ⟨by decide, by decide⟩ (by first | decide | (simp only [List.map, rf_cat, cat_i, cat_l, List.sum_cons, List.sum_nil]; first | done | decide | omega)) ⟨(by show cells + 0 + 0 ≤ 601024; omega), (by show slots + 0 + 0 ≤ 7293034; omega)⟩ d_law_900) (fun E a' hx _ => hx.elim) (fun v a' hp dy => ?_)
  obtain ⟨rfl, S'⟩ := hP2 v a' hp
  rw [jn_comm dy]
  refine V_icmp_eq (tgt := 1092) X d_law_903 (by decide) (fun c_903 => ?_) (fun c_903 => ?_)
  · exact V.widen (by omega) (by omega) (hk hc' _ f _ _ _ _ S' dO' dy.symm)
  · exact absurd rfl c_903
theorem lw_told (X : Fx K g N0 code 8 "SnapshotStoreLaw" room_1 rt nm ex) (scr : va_X b L xs (Ks K) (Ks K).heap ∧ L ≤ 2048) (hbl : b < (Ks K).heap.size) (hbA : ¬ N0 b) (hN : 4 * N + 4 ≤ L) (hN2 : N < 512) (S : St g s ta m ad hc hm N k0) (dO : dj hc (sg o (cO g f))) (dx : dj (jn hc (sg o (cO g f))) hm) (hcl : cells + 514 ≤ 601024) (hsl : slots + 1548 ≤ 7293034) (hk : Cont K g N0 Q b s ta m o ad N cells slots) : V K g N0 8 Q (jn (jn hc (sg o (cO g f))) hm) cells slots 908 [some (va_rf (some b)), some (va_rf (some s)), some (va_rf (some m)), some (va_rf (some o)), some (.int (nI (4 * N))), z5, z6, z7] [] := by
  obtain ⟨post, xp, hC, J1, J2⟩ := s_told (l := Kl K) (g := g) (s := s) (ta := ta) (m := m) (ad := ad) hN2 (xs (4 * N + 1)) (xs (4 * N + 2)) hc hm k0 S
  obtain ⟨fs, hs⟩ := S.s
  obtain ⟨fm, hmm⟩ := S.m
  refine al_1 X d_law_908 ?_
  refine al_0 X d_law_909 ?_
  refine il_4 X d_law_910 ?_
  refine V_iconst (v := 1) X d_law_912 (by decide) ?_
  refine V_iadd X d_law_913 ?_
  refine V_sld X scr hbl hbA (j := 4 * N + 1) (nI_add (4 * N) 1) (by omega) d_law_914 ?_
  refine al_0 X d_law_915 ?_
  refine il_4 X d_law_916 ?_
  refine V_iconst (v := 2) X d_law_918 (by decide) ?_
  refine V_iadd X d_law_919 ?_
  refine V_sld X scr hbl hbA (j := 4 * N + 2) (nI_add (4 * N) 2) (by omega) d_law_920 ?_
  refine al_3 X d_law_921 ?_
  refine V_contF (runSXF (y := y_L_told) (b' := b_L_told) (nL' := 5) (ret' := (some .int)) (hh := [(0, 10, 13, 21), (0, 10, 17, 13)]) (fr := 8) (lo := 135) (mc := 2) (ms := 12) (As := [va_rf (some s), .int (xs (4 * N + 1)), .int (xs (4 * N + 2)), va_rf (some o)]) X dx (fun N1 => h_told (Kl K) g N1 (xs (4 * N + 1)) (xs (4 * N + 2)) hC hs (fun v h' hp => (J1 v h' hp).imp (fun x hx => ⟨hx.1, hx.2.1⟩)) (fun E h' hx => (J2 E h' hx).1) dO) k_540 k_541 k_0 k_542 (n := 4) (by decide +kernel) rfl ⟨by decide, by decide⟩ (by first | decide | (simp only [List.map, rf_cat, cat_i, cat_l, List.sum_cons, List.sum_nil]; first | done | decide | omega)) ⟨(by show cells + 2 ≤ 601024; omega), (by show slots + 12 ≤ 7293034; omega)⟩ d_law_922) (fun E a' hx _ => hx.elim) (fun v a' hp dx => ?_)
  obtain ⟨k, rfl, hc', f', dO', rfl, hcase⟩ := hp
  obtain ⟨post2, hM2, hP2⟩ := joint J1 J2 hcase
  refine is_5 X d_law_925 rfl (by first | exact okp_n | exact okp_i | exact okp_r) ?_
  refine al_2 X d_law_927 ?_
  refine al_0 X d_law_928 ?_
  refine il_4 X d_law_929 ?_
  refine V_iconst (v := 1) X d_law_931 (by decide) ?_
  refine V_iadd X d_law_932 ?_
  refine V_sld X scr hbl hbA (j := 4 * N + 1) (nI_add (4 * N) 1) (by omega) d_law_933 ?_
  refine al_0 X d_law_934 ?_
  refine il_4 X d_law_935 ?_
  refine V_iconst (v := 2) X d_law_937 (by decide) ?_
  refine V_iadd X d_law_938 ?_
  refine V_sld X scr hbl hbA (j := 4 * N + 2) (nI_add (4 * N) 2) (by omega) d_law_939 ?_
  rw [jn_comm dx]
  refine V_contF (runVF (y := y_M_told) (b' := b_M_told) (nL' := 3) (ret' := (some .int)) (fr := 2) (lo := 47) (mc := 0) (ms := 0) (As := [.int (xs (4 * N + 1)), .int (xs (4 * N + 2))]) X dx.symm hM2 k_770 k_771 k_772 k_2 k_773 (n := 2) (by decide +kernel) (ci := 7) rfl rfl hmm ⟨by decide, by decide⟩ (by first | decide | (simp only [List.map, rf_cat, cat_i, cat_l, List.sum_cons, List.sum_nil]; first | done | decide | omega)) ⟨(by show cells + 2 + 0 ≤ 601024; omega), (by show slots + 12 + 0 ≤ 7293034; omega)⟩ d_law_940) (fun E a' hx _ => hx.elim) (fun v a' hp dy => ?_)
  obtain ⟨x', rfl, ⟨r, rfl⟩, heq, S'⟩ := hP2 v a' hp
  refine is_6 X d_law_943 rfl (by first | exact okp_n | exact okp_i | exact okp_r) ?_
  refine al_2 X d_law_945 ?_
  obtain ⟨fm', hmm'⟩ := S'.m
  refine V_contF (runVF (y := y_M_thrown) (b' := b_M_thrown) (nL' := 1) (ret' := (some .int)) (fr := 0) (lo := 0) (mc := 0) (ms := 0) (As := []) X dy (S'.thr (Kl K)) k_636 k_637 k_638 k_2 k_639 (n := 0) (by decide +kernel) (ci := 7) rfl rfl hmm' ⟨by decide, by decide⟩ (by first | decide | (simp only [List.map, rf_cat, cat_i, cat_l, List.sum_cons, List.sum_nil]; first | done | decide | omega)) ⟨(by show cells + 2 + 0 + 0 ≤ 601024; omega), (by show slots + 12 + 0 + 0 ≤ 7293034; omega)⟩ d_law_946) (fun E a' hx _ => hx.elim) (fun v a2 hp dz => ?_)
  obtain ⟨r2, rfl, rfl, rfl⟩ := hp
  rw [jn_comm dz]
  refine il_5 X d_law_949 ?_
  refine V_icmp_eq (tgt := 956) X d_law_951 (by decide) (fun c_951 => ?_) (fun c_951 => ?_)
  · refine il_5 X d_law_956 ?_
    refine V_if_ne (tgt := 973) X d_law_958 (by decide) (fun c_958 => ?_) (fun c_958 => ?_)
    · refine V_goto (tgt := 1092) X d_law_973 (by decide) ?_
      exact V.widen (by omega) (by omega) (hk hc' _ f' _ _ _ _ S' dO' dz.symm)
    · refine al_3 X d_law_961 ?_
      refine V_iconst (v := 0) X d_law_962 (by decide) ?_
      refine V_lald (j := 0) X (jn_l (jn_o dO')) rfl (by decide) (by decide) d_law_963 ?_
      rw [heq c_958]
      refine il_6 X d_law_964 ?_
      refine V_i2l X d_law_966 ?_
      refine V_lcmp X d_law_967 ?_
      refine V_if_eq (tgt := 973) X d_law_968 (by decide) (fun c_968 => ?_) (fun c_968 => ?_)
      · refine V_goto (tgt := 1092) X d_law_973 (by decide) ?_
        exact V.widen (by omega) (by omega) (hk hc' _ f' _ _ _ _ S' dO' dz.symm)
      · exact absurd ((lg_cmp_eq _ _).mpr rfl) c_968
  · exact absurd rfl c_951
theorem lw_at2 (w0 : Int32) (hw : (xs (4 * N + 2) = 0 → w0 = 0) ∧ (¬ xs (4 * N + 2) = 0 → w0 = 1)) (X : Fx K g N0 code 8 "SnapshotStoreLaw" room_1 rt nm ex) (scr : va_X b L xs (Ks K) (Ks K).heap ∧ L ≤ 2048) (hbl : b < (Ks K).heap.size) (hbA : ¬ N0 b) (hN : 4 * N + 4 ≤ L) (hN2 : N < 512) (S : St g s ta m ad hc hm N k0) (dO : dj hc (sg o (cO g f))) (dx : dj (jn hc (sg o (cO g f))) hm) (hcl : cells + 514 ≤ 601024) (hsl : slots + 1548 ≤ 7293034) (hk : Cont K g N0 Q b s ta m o ad N cells slots) : V K g N0 8 Q (jn (jn hc (sg o (cO g f))) hm) cells slots 997 [some (va_rf (some b)), some (va_rf (some s)), some (va_rf (some m)), some (va_rf (some o)), some (.int (nI (4 * N))), z5, z6, z7] [.int w0, .int (xs (4 * N + 1)), va_rf (some s)] := by
  obtain ⟨post, xp, hC, J1, J2⟩ := s_at (l := Kl K) (g := g) (s := s) (ta := ta) (m := m) (ad := ad) hN2 (xs (4 * N + 1)) w0 hc hm k0 S
  obtain ⟨fs, hs⟩ := S.s
  obtain ⟨fm, hmm⟩ := S.m
  rw [jn_assoc]
  refine V_contF (runVF (y := y_S_at) (b' := b_S_at) (nL' := 4) (ret' := (some .int)) (fr := 2) (lo := 45) (mc := 0) (ms := 0) (As := [.int (xs (4 * N + 1)), .int w0]) X (dj_r dO (dj_1 dx)) hC k_82 k_83 k_84 k_1 k_85 (n := 2) (by decide +kernel) (ci := 6) rfl rfl hs ⟨by decide, by decide⟩ (by first | decide | (simp only [List.map, rf_cat, cat_i, cat_l, List.sum_cons, List.sum_nil]; first | done | decide | omega)) ⟨(by show cells + 0 ≤ 601024; omega), (by show slots + 0 ≤ 7293034; omega)⟩ d_law_997) (fun E a' hx _ => absurd (J2 E a' hx).1 List.not_mem_nil) (fun v hc' hp dB => ?_)
  obtain ⟨x, rfl, ⟨r, rfl⟩, post2, hM2, hP2⟩ := J1 v hc' hp
  have dO' := dj_r1 dB
  have dx' : dj (jn hc' (sg o (cO g f))) hm := dj_l (dj_r2 dB) (dj_2 dx)
  rw [← jn_assoc, jn_comm dx']
  have fin : V K g N0 8 Q (jn hm (jn hc' (sg o (cO g f)))) (cells + 0) (slots + 0) 1021 [some (va_rf (some b)), some (va_rf (some s)), some (va_rf (some m)), some (va_rf (some o)), some (.int (nI (4 * N))), z5, z6, z7] [.int w0, .int (xs (4 * N + 1)), va_rf (some m), .int r] := by
    refine V_contF (runVF (y := y_M_at) (b' := b_M_at) (nL' := 3) (ret' := (some .int)) (fr := 2) (lo := 48) (mc := 0) (ms := 0) (As := [.int (xs (4 * N + 1)), .int w0]) (st := [.int r]) X dx'.symm hM2 k_774 k_775 k_776 k_2 k_777 (n := 2) (by decide +kernel) (ci := 7) rfl rfl hmm ⟨by decide, by decide⟩ (by first | decide | (simp only [List.map, rf_cat, cat_i, cat_l, List.sum_cons, List.sum_nil]; first | done | decide | omega)) ⟨(by show cells + 0 + 0 ≤ 601024; omega), (by show slots + 0 + 0 ≤ 7293034; omega)⟩ d_law_1021) (fun E a' hx _ => hx.elim) (fun v a' hp dy => ?_)
    obtain ⟨rfl, S'⟩ := hP2 v a' hp
    rw [jn_comm dy]
    refine V_icmp_eq (tgt := 1092) X d_law_1024 (by decide) (fun c_1024 => ?_) (fun c_1024 => ?_)
    · exact V.widen (by omega) (by omega) (hk hc' _ f _ _ _ _ S' dO' dy.symm)
    · exact absurd rfl c_1024
  refine al_2 X d_law_1000 ?_
  refine al_0 X d_law_1001 ?_
  refine il_4 X d_law_1002 ?_
  refine V_iconst (v := 1) X d_law_1004 (by decide) ?_
  refine V_iadd X d_law_1005 ?_
  refine V_sld X scr hbl hbA (j := 4 * N + 1) (nI_add (4 * N) 1) (by omega) d_law_1006 ?_
  refine al_0 X d_law_1007 ?_
  refine il_4 X d_law_1008 ?_
  refine V_iconst (v := 2) X d_law_1010 (by decide) ?_
  refine V_iadd X d_law_1011 ?_
  refine V_sld X scr hbl hbA (j := 4 * N + 2) (nI_add (4 * N) 2) (by omega) d_law_1012 ?_
  refine V_if_eq (tgt := 1020) X d_law_1013 (by decide) (fun c_1013 => ?_) (fun c_1013 => ?_)
  · have e := hw.1 c_1013
    subst e
    refine V_iconst (v := 0) X d_law_1020 (by decide) ?_
    exact fin
  · have e := hw.2 c_1013
    subst e
    refine V_iconst (v := 1) X d_law_1016 (by decide) ?_
    refine V_goto (tgt := 1021) X d_law_1017 (by decide) ?_
    exact fin
theorem lw_at (X : Fx K g N0 code 8 "SnapshotStoreLaw" room_1 rt nm ex) (scr : va_X b L xs (Ks K) (Ks K).heap ∧ L ≤ 2048) (hbl : b < (Ks K).heap.size) (hbA : ¬ N0 b) (hN : 4 * N + 4 ≤ L) (hN2 : N < 512) (S : St g s ta m ad hc hm N k0) (dO : dj hc (sg o (cO g f))) (dx : dj (jn hc (sg o (cO g f))) hm) (hcl : cells + 514 ≤ 601024) (hsl : slots + 1548 ≤ 7293034) (hk : Cont K g N0 Q b s ta m o ad N cells slots) : V K g N0 8 Q (jn (jn hc (sg o (cO g f))) hm) cells slots 976 [some (va_rf (some b)), some (va_rf (some s)), some (va_rf (some m)), some (va_rf (some o)), some (.int (nI (4 * N))), z5, z6, z7] [] := by
  refine al_1 X d_law_976 ?_
  refine al_0 X d_law_977 ?_
  refine il_4 X d_law_978 ?_
  refine V_iconst (v := 1) X d_law_980 (by decide) ?_
  refine V_iadd X d_law_981 ?_
  refine V_sld X scr hbl hbA (j := 4 * N + 1) (nI_add (4 * N) 1) (by omega) d_law_982 ?_
  refine al_0 X d_law_983 ?_
  refine il_4 X d_law_984 ?_
  refine V_iconst (v := 2) X d_law_986 (by decide) ?_
  refine V_iadd X d_law_987 ?_
  refine V_sld X scr hbl hbA (j := 4 * N + 2) (nI_add (4 * N) 2) (by omega) d_law_988 ?_
  refine V_if_eq (tgt := 996) X d_law_989 (by decide) (fun c_989 => ?_) (fun c_989 => ?_)
  · have fin := lw_at2 (z5 := z5) (z6 := z6) (z7 := z7) 0 ⟨fun _ => rfl, fun z => absurd c_989 z⟩ X scr hbl hbA hN hN2 S dO dx hcl hsl hk
    refine V_iconst (v := 0) X d_law_996 (by decide) ?_
    exact fin
  · have fin := lw_at2 (z5 := z5) (z6 := z6) (z7 := z7) 1 ⟨fun z => absurd z c_989, fun _ => rfl⟩ X scr hbl hbA hN hN2 S dO dx hcl hsl hk
    refine V_iconst (v := 1) X d_law_992 (by decide) ?_
    refine V_goto (tgt := 997) X d_law_993 (by decide) ?_
    exact fin
theorem lw_versions (X : Fx K g N0 code 8 "SnapshotStoreLaw" room_1 rt nm ex) (scr : va_X b L xs (Ks K) (Ks K).heap ∧ L ≤ 2048) (hbl : b < (Ks K).heap.size) (hbA : ¬ N0 b) (hN : 4 * N + 4 ≤ L) (hN2 : N < 512) (S : St g s ta m ad hc hm N k0) (dO : dj hc (sg o (cO g f))) (dx : dj (jn hc (sg o (cO g f))) hm) (hcl : cells + 514 ≤ 601024) (hsl : slots + 1548 ≤ 7293034) (hk : Cont K g N0 Q b s ta m o ad N cells slots) : V K g N0 8 Q (jn (jn hc (sg o (cO g f))) hm) cells slots 1029 [some (va_rf (some b)), some (va_rf (some s)), some (va_rf (some m)), some (va_rf (some o)), some (.int (nI (4 * N))), z5, z6, z7] [] := by
  obtain ⟨post, xp, hC, J1, J2⟩ := s_versions (l := Kl K) (g := g) (s := s) (ta := ta) (m := m) (ad := ad) hN2 (xs (4 * N + 1)) hc hm k0 S
  obtain ⟨fs, hs⟩ := S.s
  obtain ⟨fm, hmm⟩ := S.m
  rw [jn_assoc]
  refine al_1 X d_law_1029 ?_
  refine al_0 X d_law_1030 ?_
  refine il_4 X d_law_1031 ?_
  refine V_iconst (v := 1) X d_law_1033 (by decide) ?_
  refine V_iadd X d_law_1034 ?_
  refine V_sld X scr hbl hbA (j := 4 * N + 1) (nI_add (4 * N) 1) (by omega) d_law_1035 ?_
  refine V_contF (runVF (y := y_S_versions) (b' := b_S_versions) (nL' := 3) (ret' := (some .int)) (fr := 2) (lo := 45) (mc := 0) (ms := 0) (As := [.int (xs (4 * N + 1))]) X (dj_r dO (dj_1 dx)) hC k_103 k_104 k_105 k_1 k_106 (n := 1) (by decide +kernel) (ci := 6) rfl rfl hs ⟨by decide, by decide⟩ (by first | decide | (simp only [List.map, rf_cat, cat_i, cat_l, List.sum_cons, List.sum_nil]; first | done | decide | omega)) ⟨(by show cells + 0 ≤ 601024; omega), (by show slots + 0 ≤ 7293034; omega)⟩ d_law_1036) (fun E a' hx _ => absurd (J2 E a' hx).1 List.not_mem_nil) (fun v hc' hp dB => ?_)
  obtain ⟨x, rfl, ⟨r, rfl⟩, post2, hM2, hP2⟩ := J1 v hc' hp
  have dO' := dj_r1 dB
  have dx' : dj (jn hc' (sg o (cO g f))) hm := dj_l (dj_r2 dB) (dj_2 dx)
  rw [← jn_assoc, jn_comm dx']
  refine al_2 X d_law_1039 ?_
  refine al_0 X d_law_1040 ?_
  refine il_4 X d_law_1041 ?_
  refine V_iconst (v := 1) X d_law_1043 (by decide) ?_
  refine V_iadd X d_law_1044 ?_
  refine V_sld X scr hbl hbA (j := 4 * N + 1) (nI_add (4 * N) 1) (by omega) d_law_1045 ?_
  refine V_contF (runVF (y := y_M_versions) (b' := b_M_versions) (nL' := 4) (ret' := (some .int)) (fr := 0) (lo := 0) (mc := 0) (ms := 0) (As := [.int (xs (4 * N + 1))]) (st := [.int r]) X dx'.symm hM2 k_778 k_779 k_780 k_2 k_781 (n := 1) (by decide +kernel) (ci := 7) rfl rfl hmm ⟨by decide, by decide⟩ (by first | decide | (simp only [List.map, rf_cat, cat_i, cat_l, List.sum_cons, List.sum_nil]; first | done | decide | omega)) ⟨(by show cells + 0 + 0 ≤ 601024; omega), (by show slots + 0 + 0 ≤ 7293034; omega)⟩ d_law_1046) (fun E a' hx _ => hx.elim) (fun v a' hp dy => ?_)
  obtain ⟨rfl, S'⟩ := hP2 v a' hp
  rw [jn_comm dy]
  refine V_icmp_eq (tgt := 1092) X d_law_1049 (by decide) (fun c_1049 => ?_) (fun c_1049 => ?_)
  · exact V.widen (by omega) (by omega) (hk hc' _ f _ _ _ _ S' dO' dy.symm)
  · exact absurd rfl c_1049
theorem lw_count (X : Fx K g N0 code 8 "SnapshotStoreLaw" room_1 rt nm ex) (scr : va_X b L xs (Ks K) (Ks K).heap ∧ L ≤ 2048) (hbl : b < (Ks K).heap.size) (hbA : ¬ N0 b) (hN : 4 * N + 4 ≤ L) (hN2 : N < 512) (S : St g s ta m ad hc hm N k0) (dO : dj hc (sg o (cO g f))) (dx : dj (jn hc (sg o (cO g f))) hm) (hcl : cells + 514 ≤ 601024) (hsl : slots + 1548 ≤ 7293034) (hk : Cont K g N0 Q b s ta m o ad N cells slots) : V K g N0 8 Q (jn (jn hc (sg o (cO g f))) hm) cells slots 1054 [some (va_rf (some b)), some (va_rf (some s)), some (va_rf (some m)), some (va_rf (some o)), some (.int (nI (4 * N))), z5, z6, z7] [] := by
  obtain ⟨post, xp, hC, J1, J2⟩ := s_count (l := Kl K) (g := g) (s := s) (ta := ta) (m := m) (ad := ad) hN2 (xs (4 * N + 1)) hc hm k0 S
  obtain ⟨fs, hs⟩ := S.s
  obtain ⟨fm, hmm⟩ := S.m
  rw [jn_assoc]
  refine al_1 X d_law_1054 ?_
  refine al_0 X d_law_1055 ?_
  refine il_4 X d_law_1056 ?_
  refine V_iconst (v := 1) X d_law_1058 (by decide) ?_
  refine V_iadd X d_law_1059 ?_
  refine V_sld X scr hbl hbA (j := 4 * N + 1) (nI_add (4 * N) 1) (by omega) d_law_1060 ?_
  refine V_contF (runVF (y := y_S_count) (b' := b_S_count) (nL' := 2) (ret' := (some .int)) (fr := 3) (lo := 66) (mc := 0) (ms := 0) (As := [.int (xs (4 * N + 1))]) X (dj_r dO (dj_1 dx)) hC k_111 k_112 k_113 k_1 k_114 (n := 1) (by decide +kernel) (ci := 6) rfl rfl hs ⟨by decide, by decide⟩ (by first | decide | (simp only [List.map, rf_cat, cat_i, cat_l, List.sum_cons, List.sum_nil]; first | done | decide | omega)) ⟨(by show cells + 0 ≤ 601024; omega), (by show slots + 0 ≤ 7293034; omega)⟩ d_law_1061) (fun E a' hx _ => absurd (J2 E a' hx).1 List.not_mem_nil) (fun v hc' hp dB => ?_)
  obtain ⟨x, rfl, ⟨r, rfl⟩, post2, hM2, hP2⟩ := J1 v hc' hp
  have dO' := dj_r1 dB
  have dx' : dj (jn hc' (sg o (cO g f))) hm := dj_l (dj_r2 dB) (dj_2 dx)
  rw [← jn_assoc, jn_comm dx']
  refine al_2 X d_law_1064 ?_
  refine al_0 X d_law_1065 ?_
  refine il_4 X d_law_1066 ?_
  refine V_iconst (v := 1) X d_law_1068 (by decide) ?_
  refine V_iadd X d_law_1069 ?_
  refine V_sld X scr hbl hbA (j := 4 * N + 1) (nI_add (4 * N) 1) (by omega) d_law_1070 ?_
  refine V_contF (runVF (y := y_M_count) (b' := b_M_count) (nL' := 6) (ret' := (some .int)) (fr := 1) (lo := 25) (mc := 0) (ms := 0) (As := [.int (xs (4 * N + 1))]) (st := [.int r]) X dx'.symm hM2 k_782 k_783 k_784 k_2 k_785 (n := 1) (by decide +kernel) (ci := 7) rfl rfl hmm ⟨by decide, by decide⟩ (by first | decide | (simp only [List.map, rf_cat, cat_i, cat_l, List.sum_cons, List.sum_nil]; first | done | decide | omega)) ⟨(by show cells + 0 + 0 ≤ 601024; omega), (by show slots + 0 + 0 ≤ 7293034; omega)⟩ d_law_1071) (fun E a' hx _ => hx.elim) (fun v a' hp dy => ?_)
  obtain ⟨rfl, S'⟩ := hP2 v a' hp
  rw [jn_comm dy]
  refine V_icmp_eq (tgt := 1092) X d_law_1074 (by decide) (fun c_1074 => ?_) (fun c_1074 => ?_)
  · exact V.widen (by omega) (by omega) (hk hc' _ f _ _ _ _ S' dO' dy.symm)
  · exact absurd rfl c_1074
theorem lw_astray (X : Fx K g N0 code 8 "SnapshotStoreLaw" room_1 rt nm ex) (scr : va_X b L xs (Ks K) (Ks K).heap ∧ L ≤ 2048) (hbl : b < (Ks K).heap.size) (hbA : ¬ N0 b) (hN : 4 * N + 4 ≤ L) (hN2 : N < 512) (S : St g s ta m ad hc hm N k0) (dO : dj hc (sg o (cO g f))) (dx : dj (jn hc (sg o (cO g f))) hm) (hcl : cells + 514 ≤ 601024) (hsl : slots + 1548 ≤ 7293034) (hk : Cont K g N0 Q b s ta m o ad N cells slots) : V K g N0 8 Q (jn (jn hc (sg o (cO g f))) hm) cells slots 1079 [some (va_rf (some b)), some (va_rf (some s)), some (va_rf (some m)), some (va_rf (some o)), some (.int (nI (4 * N))), z5, z6, z7] [] := by
  obtain ⟨post, xp, hC, J1, J2⟩ := s_astray (l := Kl K) (g := g) (s := s) (ta := ta) (m := m) (ad := ad) hN2  hc hm k0 S
  obtain ⟨fs, hs⟩ := S.s
  obtain ⟨fm, hmm⟩ := S.m
  rw [jn_assoc]
  refine al_1 X d_law_1079 ?_
  refine V_contF (runVF (y := y_S_astray) (b' := b_S_astray) (nL' := 3) (ret' := (some .int)) (fr := 1) (lo := 22) (mc := 0) (ms := 0) (As := []) X (dj_r dO (dj_1 dx)) hC k_131 k_132 k_133 k_1 k_134 (n := 0) (by decide +kernel) (ci := 6) rfl rfl hs ⟨by decide, by decide⟩ (by first | decide | (simp only [List.map, rf_cat, cat_i, cat_l, List.sum_cons, List.sum_nil]; first | done | decide | omega)) ⟨(by show cells + 0 ≤ 601024; omega), (by show slots + 0 ≤ 7293034; omega)⟩ d_law_1080) (fun E a' hx _ => absurd (J2 E a' hx).1 List.not_mem_nil) (fun v hc' hp dB => ?_)
  obtain ⟨x, rfl, ⟨r, rfl⟩, post2, hM2, hP2⟩ := J1 v hc' hp
  have dO' := dj_r1 dB
  have dx' : dj (jn hc' (sg o (cO g f))) hm := dj_l (dj_r2 dB) (dj_2 dx)
  rw [← jn_assoc, jn_comm dx']
  refine al_2 X d_law_1083 ?_
  refine V_contF (runVF (y := y_M_astray) (b' := b_M_astray) (nL' := 1) (ret' := (some .int)) (fr := 0) (lo := 0) (mc := 0) (ms := 0) (As := []) (st := [.int r]) X dx'.symm hM2 k_786 k_787 k_788 k_2 k_789 (n := 0) (by decide +kernel) (ci := 7) rfl rfl hmm ⟨by decide, by decide⟩ (by first | decide | (simp only [List.map, rf_cat, cat_i, cat_l, List.sum_cons, List.sum_nil]; first | done | decide | omega)) ⟨(by show cells + 0 + 0 ≤ 601024; omega), (by show slots + 0 + 0 ≤ 7293034; omega)⟩ d_law_1084) (fun E a' hx _ => hx.elim) (fun v a' hp dy => ?_)
  obtain ⟨rfl, S'⟩ := hP2 v a' hp
  rw [jn_comm dy]
  refine V_icmp_eq (tgt := 1092) X d_law_1087 (by decide) (fun c_1087 => ?_) (fun c_1087 => ?_)
  · exact V.widen (by omega) (by omega) (hk hc' _ f _ _ _ _ S' dO' dy.symm)
  · exact absurd rfl c_1087
theorem sw_i {x : Int32} (h1 : ¬ x.toInt < 0) (h2 : ¬ 18 < x.toInt) : ∃ j, j ≤ 18 ∧ x = nI j := by
  obtain ⟨j, hj, rfl⟩ := nI_of (show ¬ x < 0 from fun z => h1 (by rw [Int32.lt_iff_toInt_lt] at z; exact z))
  have e : (nI j).toInt = j := nI_toInt hj
  exact ⟨j, by omega, rfl⟩
theorem lw_step (X : Fx K g N0 code 8 "SnapshotStoreLaw" room_1 rt nm ex) (scr : va_X b L xs (Ks K) (Ks K).heap ∧ L ≤ 2048) (hbl : b < (Ks K).heap.size) (hbA : ¬ N0 b) (hN : 4 * N + 4 ≤ L) (hN2 : N < 512) (S : St g s ta m ad hc hm N k0) (dO : dj hc (sg o (cO g f))) (dx : dj (jn hc (sg o (cO g f))) hm) (hcl : cells + 514 ≤ 601024) (hsl : slots + 1548 ≤ 7293034) (hk : Cont K g N0 Q b s ta m o ad N cells slots) : V K g N0 8 Q (jn (jn hc (sg o (cO g f))) hm) cells slots 32 [some (va_rf (some b)), some (va_rf (some s)), some (va_rf (some m)), some (va_rf (some o)), some (.int (nI (4 * N))), z5, z6, z7] [] := by
  refine al_0 X d_law_32 ?_
  refine il_4 X d_law_33 ?_
  refine V_sld X scr hbl hbA (j := 4 * N) rfl (by omega) d_law_35 ?_
  refine V_bipush (v := 31) X d_law_36 (by decide) ?_
  refine V_iand X d_law_38 ?_
  generalize xs (4 * N) &&& 31 = x
  by_cases h1 : x.toInt < 0
  · refine V_tabOut (tgt := 1092) X d_law_39 (Or.inl h1) (by decide) ?_
    exact V.widen (by omega) (by omega) (hk hc hm f k0 z5 z6 z7 (S.up hN2) dO dx)
  · by_cases h2 : 18 < x.toInt
    · refine V_tabOut (tgt := 1092) X d_law_39 (Or.inr h2) (by decide) ?_
      exact V.widen (by omega) (by omega) (hk hc hm f k0 z5 z6 z7 (S.up hN2) dO dx)
    · obtain ⟨j, hj, rfl⟩ := sw_i h1 h2
      have cs : j = 0 ∨ j = 1 ∨ j = 2 ∨ j = 3 ∨ j = 4 ∨ j = 5 ∨ j = 6 ∨ j = 7 ∨ j = 8 ∨ j = 9 ∨ j = 10 ∨ j = 11 ∨ j = 12 ∨ j = 13 ∨ j = 14 ∨ j = 15 ∨ j = 16 ∨ j = 17 ∨ j = 18 := by omega
      rcases cs with rfl | rfl | rfl | rfl | rfl | rfl | rfl | rfl | rfl | rfl | rfl | rfl | rfl | rfl | rfl | rfl | rfl | rfl | rfl
      · refine V_tabIn (tgt := 128) X d_law_39 (by decide) (by decide) rfl (by decide) ?_
        exact lw_begin X scr hbl hbA hN hN2 S dO dx hcl hsl hk
      · refine V_tabIn (tgt := 184) X d_law_39 (by decide) (by decide) rfl (by decide) ?_
        exact lw_read X scr hbl hbA hN hN2 S dO dx hcl hsl hk
      · refine V_tabIn (tgt := 252) X d_law_39 (by decide) (by decide) rfl (by decide) ?_
        exact lw_found X scr hbl hbA hN hN2 S dO dx hcl hsl hk
      · refine V_tabIn (tgt := 327) X d_law_39 (by decide) (by decide) rfl (by decide) ?_
        exact lw_write X scr hbl hbA hN hN2 S dO dx hcl hsl hk
      · refine V_tabIn (tgt := 407) X d_law_39 (by decide) (by decide) rfl (by decide) ?_
        exact lw_erase X scr hbl hbA hN hN2 S dO dx hcl hsl hk
      · refine V_tabIn (tgt := 475) X d_law_39 (by decide) (by decide) rfl (by decide) ?_
        exact lw_sum X scr hbl hbA hN hN2 S dO dx hcl hsl hk
      · refine V_tabIn (tgt := 554) X d_law_39 (by decide) (by decide) rfl (by decide) ?_
        exact lw_key X scr hbl hbA hN hN2 S dO dx hcl hsl hk
      · refine V_tabIn (tgt := 633) X d_law_39 (by decide) (by decide) rfl (by decide) ?_
        exact lw_save X scr hbl hbA hN hN2 S dO dx hcl hsl hk
      · refine V_tabIn (tgt := 689) X d_law_39 (by decide) (by decide) rfl (by decide) ?_
        exact lw_back X scr hbl hbA hN hN2 S dO dx hcl hsl hk
      · refine V_tabIn (tgt := 757) X d_law_39 (by decide) (by decide) rfl (by decide) ?_
        exact lw_commit X scr hbl hbA hN hN2 S dO dx hcl hsl hk
      · refine V_tabIn (tgt := 813) X d_law_39 (by decide) (by decide) rfl (by decide) ?_
        exact lw_abort X scr hbl hbA hN hN2 S dO dx hcl hsl hk
      · refine V_tabIn (tgt := 869) X d_law_39 (by decide) (by decide) rfl (by decide) ?_
        exact lw_vacuum X scr hbl hbA hN hN2 S dO dx hcl hsl hk
      · refine V_tabIn (tgt := 882) X d_law_39 (by decide) (by decide) rfl (by decide) ?_
        exact lw_flush X scr hbl hbA hN hN2 S dO dx hcl hsl hk
      · refine V_tabIn (tgt := 895) X d_law_39 (by decide) (by decide) rfl (by decide) ?_
        exact lw_crash X scr hbl hbA hN hN2 S dO dx hcl hsl hk
      · refine V_tabIn (tgt := 908) X d_law_39 (by decide) (by decide) rfl (by decide) ?_
        exact lw_told X scr hbl hbA hN hN2 S dO dx hcl hsl hk
      · refine V_tabIn (tgt := 976) X d_law_39 (by decide) (by decide) rfl (by decide) ?_
        exact lw_at X scr hbl hbA hN hN2 S dO dx hcl hsl hk
      · refine V_tabIn (tgt := 1029) X d_law_39 (by decide) (by decide) rfl (by decide) ?_
        exact lw_versions X scr hbl hbA hN hN2 S dO dx hcl hsl hk
      · refine V_tabIn (tgt := 1054) X d_law_39 (by decide) (by decide) rfl (by decide) ?_
        exact lw_count X scr hbl hbA hN hN2 S dO dx hcl hsl hk
      · refine V_tabIn (tgt := 1079) X d_law_39 (by decide) (by decide) rfl (by decide) ?_
        exact lw_astray X scr hbl hbA hN hN2 S dO dx hcl hsl hk
theorem lw_loop (X : Fx K g N0 code 8 "SnapshotStoreLaw" room_1 rt nm ex) (scr : va_X b L xs (Ks K) (Ks K).heap ∧ L ≤ 2048) (hbl : b < (Ks K).heap.size) (hbA : ¬ N0 b) (hend : ∀ (h : Mp) (cells slots : Nat) (lv : List (Option Value)), cells ≤ 601024 → slots ≤ 7293034 → V K g N0 8 Q h cells slots 1098 lv []) : ∀ (n N : Nat) (hc hm : Mp) (f : Nat → Int64) (k0 : Int32) (z5 z6 z7 : Option Value) (cells slots : Nat), N + n = 512 → St g s ta m ad hc hm N k0 → dj hc (sg o (cO g f)) → dj (jn hc (sg o (cO g f))) hm → cells ≤ 23 + 514 * N → slots ≤ 378513 + 1548 * N → V K g N0 8 Q (jn (jn hc (sg o (cO g f))) hm) cells slots 23 [some (va_rf (some b)), some (va_rf (some s)), some (va_rf (some m)), some (va_rf (some o)), some (.int (nI (4 * N))), z5, z6, z7] [] := by
  have hsub : (nI L - 4).toInt = (L : Int) - 4 := by
    rw [Int32.toInt_sub, nI_toInt (by omega), show (4 : Int32).toInt = 4 from rfl]
    exact Int.bmod_eq_of_le (by omega) (by omega)
  intro n
  induction n with
  | zero =>
    intro N hc hm f k0 z5 z6 z7 cells slots hn S dO dx hcl hsl
    refine il_4 X d_law_23 ?_
    refine al_0 X d_law_25 ?_
    refine V_slen X scr hbl hbA d_law_26 ?_
    refine V_iconst (v := 4) X d_law_27 (by decide) ?_
    refine V_isub X d_law_28 ?_
    refine V_icmp_gt (tgt := 1098) X d_law_29 (by decide) (fun c_29 => ?_) (fun c_29 => ?_)
    · exact hend _ _ _ _ (by omega) (by omega)
    · exfalso
      apply c_29
      rw [Int32.lt_iff_toInt_lt, hsub, nI_toInt (by omega)]
      omega
  | succ n ih =>
    intro N hc hm f k0 z5 z6 z7 cells slots hn S dO dx hcl hsl
    refine il_4 X d_law_23 ?_
    refine al_0 X d_law_25 ?_
    refine V_slen X scr hbl hbA d_law_26 ?_
    refine V_iconst (v := 4) X d_law_27 (by decide) ?_
    refine V_isub X d_law_28 ?_
    refine V_icmp_gt (tgt := 1098) X d_law_29 (by decide) (fun c_29 => ?_) (fun c_29 => ?_)
    · exact hend _ _ _ _ (by omega) (by omega)
    · have hN : 4 * N + 4 ≤ L := by
        rw [Int32.lt_iff_toInt_lt, hsub, nI_toInt (by omega)] at c_29
        omega
      refine lw_step X scr hbl hbA hN (by omega) S dO dx (by omega) (by omega) (fun hc hm f k z5 z6 z7 S dO dx => ?_)
      have e92 : nI (4 * N) + Int32.ofInt 4 = nI (4 * (N + 1)) := (nI_add (4 * N) 4)
      refine ic_4 (v := _) X d_law_1092 e92 rfl (by first | exact okp_n | exact okp_i | exact okp_r) ?_
      refine V_goto (tgt := 23) X d_law_1095 (by decide) ?_
      exact ih (N + 1) hc hm f k z5 z6 z7 _ _ (by omega) S dO dx (by omega) (by omega)
end LW
