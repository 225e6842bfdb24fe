-- the frame: a callee that has a part of the cells
def jn (a b : Mp) : Mp := fun q => match a q with
  | some e => some e
  | none => b q
def dj (a b : Mp) : Prop := ∀ q, a q ≠ none → b q = none
def sg (o : Nat) (e : va_E) : Mp := fun q => if q = o then some e else none
theorem jn_l {a b : Mp} {q : Nat} {e : va_E} (h : a q = some e) : jn a b q = some e := by rw [jn, h]
theorem jn_r {a b : Mp} {q : Nat} (h : a q = none) : jn a b q = b q := by rw [jn, h]
theorem dj.symm {a b : Mp} (d : dj a b) : dj b a := fun q h => by
  cases e : a q with
  | none => rfl
  | some x => exact absurd (d q (by rw [e]; intro z; cases z)) h
theorem jn_comm {a b : Mp} (d : dj a b) : jn a b = jn b a := by
  funext q
  cases e : a q with
  | none =>
    rw [jn_r e]
    cases e2 : b q with
    | none => rw [jn_r e2]; exact e.symm
    | some x => rw [jn_l e2]
  | some x => rw [jn_l e, jn_r (d q (by rw [e]; intro z; cases z)), e]
theorem jn_assoc (a b c : Mp) : jn (jn a b) c = jn a (jn b c) := by
  funext q
  cases e : a q with
  | none =>
    rw [jn_r (a := a) e]
    cases e2 : b q with
    | none => rw [jn_r (show jn a b q = none by rw [jn_r e]; exact e2), jn_r e2]
    | some x => rw [jn_l (show jn a b q = some x by rw [jn_r e]; exact e2), jn_l e2]
  | some x => rw [jn_l (jn_l e), jn_l e]
theorem dj_l {a b c : Mp} (h1 : dj a c) (h2 : dj b c) : dj (jn a b) c := fun q h => by
  cases e : a q with
  | none => rw [jn_r e] at h; exact h2 q h
  | some x => exact h1 q (by rw [e]; intro z; cases z)
theorem dj_1 {a b c : Mp} (h : dj (jn a b) c) : dj a c := fun q hq => h q (by
  cases e : a q with
  | none => exact absurd e hq
  | some x => rw [jn_l e]; intro z; cases z)
theorem dj_2 {a b c : Mp} (h : dj (jn a b) c) : dj b c := fun q hq => by
  cases e : a q with
  | none => exact h q (by rw [jn_r e]; exact hq)
  | some x => exact h q (by rw [jn_l e]; intro z; cases z)
theorem sg_s (o : Nat) (e : va_E) : sg o e o = some e := by rw [sg, if_pos rfl]
theorem sg_n {o q : Nat} {e : va_E} (h : q ≠ o) : sg o e q = none := by rw [sg, if_neg h]
theorem sg_dj {a : Mp} {o : Nat} {e e' : va_E} (h : dj a (sg o e)) : dj a (sg o e') := fun q hq => by
  by_cases z : q = o
  · have := h q hq
    rw [z, sg_s] at this; cases this
  · exact sg_n z
theorem mUp_jn {a : Mp} {o : Nat} {e e' : va_E} (h : dj a (sg o e)) : mUp (jn a (sg o e)) o e' = jn a (sg o e') := by
  have ho : a o = none := by
    cases z : a o with
    | none => rfl
    | some x =>
      have := h o (by rw [z]; intro y; cases y)
      rw [sg_s] at this; cases this
  funext q
  by_cases z : q = o
  · rw [z, mUp_s, jn_r ho, sg_s]
  · rw [mUp_n _ _ z]
    cases y : a q with
    | none => rw [jn_r y, jn_r y, sg_n z, sg_n z]
    | some x => rw [jn_l y, jn_l y]
-- lists of cells
theorem vaP_iff {D : va_G} {cl : List vw_C} {ws : va_W} {H : Heap} : va_P D cl ws H ↔ ∀ q ∈ ws, va_at D cl q H :=
  ⟨fun h q hq => by obtain ⟨k, hk⟩ := List.getElem?_of_mem hq; exact h k q hk, fun h k q hk => h q (List.mem_of_getElem? hk)⟩
theorem vaD_iff {A : Nat → Prop} {ws : va_W} : va_D A ws ↔ (ws.map (·.1)).Nodup ∧ ∀ q ∈ ws, A q.1 := by
  constructor
  · intro h
    refine ⟨?_, fun q hq => by obtain ⟨k, hk⟩ := List.getElem?_of_mem hq; exact h.2 k q hk⟩
    rw [List.Nodup, List.pairwise_map, List.pairwise_iff_getElem]
    intro i j hi hj hij e
    have := h.1 i j _ _ (List.getElem?_eq_getElem hi) (List.getElem?_eq_getElem hj) e
    omega
  · rintro ⟨h1, h2⟩
    refine ⟨fun i j p q hi hj e => ?_, fun k q hk => h2 q (List.mem_of_getElem? hk)⟩
    have hi2 : (ws.map (·.1))[i]? = some p.1 := by rw [List.getElem?_map, hi]; rfl
    have hj2 : (ws.map (·.1))[j]? = some p.1 := by rw [List.getElem?_map, hj, e]; rfl
    exact (List.getElem?_inj (by rw [List.length_map]; exact (List.getElem?_eq_some_iff.mp hi).1) h1).mp (hi2.trans hj2.symm)
def fr1 (a : Mp) (sz : Nat) : Nat → Prop := fun q => a q ≠ none ∨ sz ≤ q
theorem mW_lt {g : GG} {N0 : Nat → Prop} {h : Mp} {H : Heap} (hM : mW g N0 h H) {q : Nat} (hq : h q ≠ none) : q < H.size ∧ N0 q := by
  cases e : h q with
  | none => exact absurd e hq
  | some x =>
    obtain ⟨ws, k, hP, hD, -, hk⟩ := mW_at hM e
    exact ⟨(hP k _ hk).lt, hD.2 k _ hk⟩
theorem mW_sub {g : GG} {N0 : Nat → Prop} {a b : Mp} {H : Heap} (hM : mW g N0 (jn a b) H) : mW g (fr1 a H.size) a H := by
  obtain ⟨ws, hP, hD, h3⟩ := hM
  rw [vaP_iff] at hP
  rw [vaD_iff] at hD
  refine ⟨ws.filter (fun p => (a p.1).isSome), vaP_iff.mpr (fun q hq => hP q (List.mem_filter.mp hq).1), vaD_iff.mpr ⟨hD.1.sublist (List.Sublist.map _ List.filter_sublist), fun q hq => Or.inl ?_⟩, fun q e => ?_⟩
  · have := (List.mem_filter.mp hq).2
    intro z
    rw [z] at this; cases this
  · rw [List.mem_filter]
    constructor
    · intro h
      exact ⟨(h3 q e).mp (jn_l h), by rw [h]; rfl⟩
    · rintro ⟨h1, h2⟩
      have := (h3 q e).mpr h1
      cases z : a q with
      | none => rw [z] at h2; cases h2
      | some x => rw [jn_l z] at this; exact this
theorem mW_join {g : GG} {N0 : Nat → Prop} {a a' b : Mp} {H H' : Heap} (hM : mW g N0 (jn a b) H) (d : dj a b) (hN : ∀ q, H.size ≤ q → N0 q) (hm : mW g (fr1 a H.size) a' H') (hF : ∀ q : Nat, q < H.size → ¬ fr1 a H.size q → H'[q]? = H[q]?) : mW g N0 (jn a' b) H' ∧ dj a' b := by
  have hb : ∀ q, b q ≠ none → a q = none ∧ q < H.size := fun q hq => by
    have h1 : a q = none := by
      cases z : a q with
      | none => rfl
      | some x => exact absurd (d q (by rw [z]; intro y; cases y)) hq
    exact ⟨h1, (mW_lt hM (by rw [jn_r h1]; exact hq)).1⟩
  have ha' : ∀ q, a' q ≠ none → b q = none := fun q hq => by
    cases z : b q with
    | none => rfl
    | some x =>
      obtain ⟨h1, h2⟩ := hb q (by rw [z]; intro y; cases y)
      rcases (mW_lt hm hq).2 with h3 | h3
      · exact absurd h1 h3
      · omega
  refine ⟨?_, ha'⟩
  have hin : ∀ q, fr1 a H.size q → N0 q := fun q h => by
    rcases h with h | h
    · exact (mW_lt hM (by cases z : a q with | none => exact absurd z h | some x => rw [jn_l z]; intro y; cases y)).2
    · exact hN q h
  obtain ⟨ws, hP, hD, h3⟩ := hM
  obtain ⟨ws1, hP1, hD1, h31⟩ := hm
  rw [vaP_iff] at hP hP1
  rw [vaD_iff] at hD hD1
  refine ⟨ws1 ++ ws.filter (fun p => (a p.1).isNone), vaP_iff.mpr (fun q hq => ?_), vaD_iff.mpr ⟨?_, fun q hq => ?_⟩, fun q e => ?_⟩
  · rcases List.mem_append.mp hq with h | h
    · exact hP1 q h
    · obtain ⟨h1, h2⟩ := List.mem_filter.mp h
      have h4 := hP q h1
      refine h4.kept (hF q.1 h4.lt ?_)
      rintro (h5 | h5)
      · cases z : a q.1 with
        | none => exact h5 z
        | some x => rw [z] at h2; cases h2
      · have := h4.lt; omega
  · rw [List.map_append, List.nodup_append]
    refine ⟨hD1.1, hD.1.sublist (List.Sublist.map _ List.filter_sublist), fun x hx y hy e => ?_⟩
    obtain ⟨p, hp, rfl⟩ := List.mem_map.mp hx
    obtain ⟨r, hr, rfl⟩ := List.mem_map.mp hy
    obtain ⟨h1, h2⟩ := List.mem_filter.mp hr
    have h4 := hP r h1
    rcases hD1.2 p hp with h5 | h5
    · rw [e] at h5
      cases z : a r.1 with
      | none => exact h5 z
      | some x => rw [z] at h2; cases h2
    · rw [e] at h5
      have := h4.lt; omega
  · rcases List.mem_append.mp hq with h | h
    · exact hin _ (hD1.2 q h)
    · exact hD.2 q (List.mem_filter.mp h).1
  · rw [List.mem_append, List.mem_filter]
    constructor
    · intro h
      cases z : a' q with
      | none =>
        rw [jn_r z] at h
        obtain ⟨h1, h2⟩ := hb q (by rw [h]; intro y; cases y)
        exact Or.inr ⟨(h3 q e).mp (by rw [jn_r h1]; exact h), by rw [h1]; rfl⟩
      | some x =>
        rw [jn_l z] at h
        exact Or.inl ((h31 q e).mp (by rw [z]; exact h))
    · rintro (h | ⟨h1, h2⟩)
      · exact jn_l ((h31 q e).mpr h)
      · have h5 := (h3 q e).mpr h1
        have h6 : a q = none := by cases z : a q with | none => rfl | some x => rw [z] at h2; cases h2
        rw [jn_r h6] at h5
        cases z : a' q with
        | none => rw [jn_r z]; exact h5
        | some x =>
          have := ha' q (by rw [z]; intro y; cases y)
          rw [this] at h5; cases h5
theorem TZ.narrow {l : Launch} {N0 N1 : Nat → Prop} {U : State} {H : Heap} (h : TZ l N0 U H) (hs : ∀ q, N1 q → N0 q) : TZ l N1 U H := by
  obtain ⟨h1, h2, h3, h4, h5, h6, h7, h8⟩ := h
  exact ⟨h1, h2.narrow hs, h3.narrow hs, h4, h5, h6, h7, h8⟩
def fpost (post : Option Value → Mp → Prop) (b : Mp) : Option Value → Mp → Prop := fun v h' => ∃ a', post v a' ∧ dj a' b ∧ h' = jn a' b
def fxp (xp : String → Mp → Prop) (b : Mp) : String → Mp → Prop := fun E h' => ∃ a', xp E a' ∧ dj a' b ∧ h' = jn a' b
section FR
variable {K : Cx} {g : GG} {N0 : Nat → Prop} {nL : Nat} {Q : State → Prop} {cells slots pc : Nat} {lv : List (Option Value)} {st : List Value} {cc : ByteArray} {own : String} {R0 : Room} {rt : Option FieldType} {nm : String} {ex : List ExceptionTableEntry} {a b : Mp} {post : Option Value → Mp → Prop} {xp : String → Mp → Prop} {mc ms : Nat}
theorem fr_in {H : Heap} {locs : List Loc} (X : Fx K g N0 cc nL own R0 rt nm ex) (hM : mW g N0 (jn a b) H) (hS : va_S (AA N0) (Ks K).heap H locs) : ∀ q, fr1 a H.size q → N0 q := fun q h => by
  rcases h with h | h
  · exact (mW_lt hM (by cases z : a q with | none => exact absurd z h | some x => rw [jn_l z]; intro y; cases y)).2
  · exact X.hN q (Nat.le_trans hS.1 h)
theorem PPF_at (X : Fx K g N0 cc nL own R0 rt nm ex) {H : Heap} {locs : List Loc} (hM : mW g N0 (jn a b) H) (hS : va_S (AA N0) (Ks K).heap H locs) (av : List Value) : ∀ U : State, U.heap = H → (Ks K).WarmedH U.vm → PP (Kl K) g (fr1 a H.size) a av av.toArray U := fun U hU hW => ⟨rfl, by rw [hU]; exact mW_sub hM, va_K.moved hW.alike X.hK, by rw [hU]; exact fun q hq => Or.inr hq, by rw [hU]; exact (TZ.warm hW hS.2.1 X.hZ).narrow (fr_in X hM hS)⟩
theorem run_frame {H : Heap} {locs : List Loc} {gf : JFrame} {rest : List Value} {av : Array Value} (X : Fx K g N0 cc nL own R0 rt nm ex) (d : dj a b) (hM : mW g N0 (jn a b) H) (hS : va_S (AA N0) (Ks K).heap H locs) (hr : vx_Run (Kp K) (Kl K) (Ke K) (KR K) (Ks K) (Km K) (Ka K) (Kb K) (Kt K) (Kc K) H locs cells slots mc ms gf rest (QQ g (fr1 a H.size) post av) (XX g (fr1 a H.size) xp) (AA (fr1 a H.size))) : vx_Run (Kp K) (Kl K) (Ke K) (KR K) (Ks K) (Km K) (Ka K) (Kb K) (Kt K) (Kc K) H locs cells slots mc ms gf rest (QQ g N0 (fpost post b) av) (XX g N0 (fxp xp b)) (AA N0) := by
  have hin := fr_in X hM hS
  have hN : ∀ q, H.size ≤ q → N0 q := fun q h => X.hN q (Nat.le_trans hS.1 h)
  intro T hT Z
  rcases hr T hT Z with ⟨v, st₀, t, T', L, h0, X', hL, e1, e2, ⟨⟨v', h', hv, hp, hm⟩, hF⟩, hst⟩ | ⟨q, st₀, t, T', L, E, ce, h0, X', hL, e1, e2, ⟨⟨h', hp, hm⟩, hF⟩, hce, hcv, hcl, hst⟩
  · obtain ⟨f1, f2⟩ := hF
    rw [h0] at f1 f2
    obtain ⟨j1, j2⟩ := mW_join hM d hN hm f2
    exact Or.inl ⟨v, st₀, t, T', L, h0, X', fun q hq => hin _ (hL q hq), e1, e2, ⟨⟨v', jn h' b, hv, ⟨h', hp, j2, rfl⟩, j1⟩, ⟨by rw [h0]; exact f1, fun q h1 h2 => by rw [h0] at h1 ⊢; exact f2 q h1 (fun z => h2 (hin q z))⟩⟩, hst⟩
  · obtain ⟨f1, f2⟩ := hF
    rw [h0] at f1 f2
    obtain ⟨j1, j2⟩ := mW_join hM d hN hm f2
    exact Or.inr ⟨q, st₀, t, T', L, E, ce, h0, X', fun q hq => hin _ (hL q hq), e1, e2, ⟨⟨jn h' b, ⟨h', hp, j2, rfl⟩, j1⟩, ⟨by rw [h0]; exact f1, fun q h1 h2 => by rw [h0] at h1 ⊢; exact f2 q h1 (fun z => h2 (hin q z))⟩⟩, hce, hcv, hcl, hst⟩
theorem V_contF {st0 : List Value} (hr : VRun K g N0 nL (jn a b) cells slots mc ms pc lv st0 st (fpost post b) (fxp xp b)) (kx : ∀ E a', xp E a' → dj a' b → VX K g N0 nL Q (jn a' b) (cells + mc) (slots + ms) pc lv E) (kk : ∀ v a', post v a' → dj a' b → V K g N0 nL Q (jn a' b) (cells + mc) (slots + ms) (pc + 3) lv (v.toList ++ st)) : V K g N0 nL Q (jn a b) cells slots pc lv st0 := V_cont hr (fun E h' hx => by obtain ⟨a', h1, h2, rfl⟩ := hx; exact kx E a' h1 h2) (fun v h' hx => by obtain ⟨a', h1, h2, rfl⟩ := hx; exact kk v a' h1 h2)
variable {y : MethodName} {b' : ByteArray} {nL' fr lo n idx r0 ci N : Nat} {ret' : Option FieldType} {C : String} {T : u_T} {As fs : List Value}
theorem runVF (X : Fx K g N0 cc nL own R0 rt nm ex) (d0 : dj a b) (hC : ∀ N1, Ct (Kl K) y b' nL' ret' fr lo mc ms g N1 a (va_rf (some r0) :: As) post xp)
    (m1 : Cond.methodLink own idx y ∈ TT) (m2 : Cond.instanceMethod y ∈ TT) (m3 : Cond.selects C y y ∈ TT) (m4 : Cond.initialized C ∈ TT) (m5 : Cond.code y b' nL' ret' ∈ TT)
    (hd : y.cls = C ∧ y.cls ≠ "java/lang/invoke/MethodHandle" ∧ y.cls ≠ "java/lang/invoke/VarHandle" ∧ (parseMethodDescriptor y.desc).map (fun d => d.parameters.length) = some n) (hci : CL[ci]? = some (C, T, N)) (hn : As.length = n)
    (he : a r0 = some (.inr (ci, fs))) (hR : fr + 1 ≤ R0.frames ∧ 8 + (nL' + 11) + lo ≤ R0.locals) (hst : (st.map fun v => v.category).sum ≤ 8) (hf : cells + mc ≤ R0.cells ∧ slots + ms ≤ R0.slots) (d : decode cc pc = .ok (.invokevirtual idx, 3)) :
    VRun K g N0 nL (jn a b) cells slots mc ms pc lv (As.reverse ++ va_rf (some r0) :: st) st (fpost post b) (fxp xp b) := by
  intro H locs ls hM hS hl
  obtain ⟨ws, q0, hP, hD, -, hq⟩ := mW_at (mW_sub hM) he
  have hG : GoodIn TT (wsV own idx C y (Cond.code y b' nL' ret' :: TT)) := by
    have h0 := goodTT (ws := [.methodLink own idx y, .instanceMethod y, .selects C y y, .initialized C, Cond.code y b' nL' ret']) (tt_c m1 (tt_c m2 (tt_c m3 (tt_c m4 (tt_c m5 tt_n)))))
    exact h0
  refine ⟨(va_rf (some r0) :: As).toArray, run_frame X d0 hM hS (vx_runV (As := As) ⟨X.hx, X.hb, X.hml, X.hown, X.hts⟩ (hC (fr1 a H.size)) (cwV n X.hts hG rfl rfl rfl hd (by rw [X.hR]; exact hR)) ⟨PP_blind, va_recv X.hK hP hci hq, PPF_at X hM hS _⟩ rfl hn hl.1 rfl ?_ d (by rw [X.hR]; exact hf))⟩
  show 2 * 0 + _ ≤ 8
  omega
/-- the contract of a method with handlers -/
def CtH (l : Launch) (y : MethodName) (b : ByteArray) (nL : Nat) (ret : Option FieldType) (hh : List (Nat × Nat × Nat × Nat)) (fr lo mc ms : Nat) (g : GG) (N0 : Nat → Prop) (h : Mp) (av : List Value) (post : Option Value → Mp → Prop) (xp : String → Mp → Prop) : Prop :=
  vx_Met l y (Cond.codeWith y b nL ret hh :: TT) { frames := fr, cells := mc, slots := ms, locals := lo } (PP l g N0 h av) (QQ g N0 post) (XX g N0 xp) mc ms (AA N0)
theorem runSXF {hh : List (Nat × Nat × Nat × Nat)} (X : Fx K g N0 cc nL own R0 rt nm ex) (d0 : dj a b) (hC : ∀ N1, CtH (Kl K) y b' nL' ret' hh fr lo mc ms g N1 a As post xp)
    (m1 : Cond.methodLink own idx y ∈ TT) (m2 : Cond.static y ∈ TT) (m4 : Cond.initialized y.cls ∈ TT) (m5 : Cond.codeWith y b' nL' ret' hh ∈ TT)
    (hd : y.cls ≠ "java/lang/invoke/MethodHandle" ∧ y.cls ≠ "java/lang/invoke/VarHandle" ∧ (parseMethodDescriptor y.desc).map (fun d => d.parameters.length) = some n) (hn : As.length = n)
    (hR : fr + 1 ≤ R0.frames ∧ 8 + (nL' + 11) + lo ≤ R0.locals) (hst : (st.map fun v => v.category).sum ≤ 8) (hf : cells + mc ≤ R0.cells ∧ slots + ms ≤ R0.slots) (d : decode cc pc = .ok (.invokestatic idx, 3)) :
    VRun K g N0 nL (jn a b) cells slots mc ms pc lv (As.reverse ++ st) st (fpost post b) (fxp xp b) := by
  intro H locs ls hM hS hl
  have hG : GoodIn TT (va_wsS own idx y (Cond.codeWith y b' nL' ret' hh :: TT)) := by
    have h0 := goodTT (ws := [.methodLink own idx y, .static y, .initialized y.cls, Cond.codeWith y b' nL' ret' hh]) (tt_c m1 (tt_c m2 (tt_c m4 (tt_c m5 tt_n))))
    exact h0
  refine ⟨As.toArray, run_frame X d0 hM hS (vx_runSX (As := As) ⟨X.hx, X.hb, X.hml, X.hown, X.hts⟩ (hC (fr1 a H.size)) (vx_cwSW n X.hts hG rfl rfl rfl hd (by rw [X.hR]; exact hR)) ⟨PP_blind, PPF_at X hM hS _⟩ rfl hn hl.1 rfl ?_ d (by rw [X.hR]; exact hf))⟩
  show 2 * 0 + _ ≤ 8
  omega
theorem V_initF {post : Mp → Prop} (X : Fx K g N0 cc nL own R0 rt nm ex) (d0 : dj a b) (hC : ∀ N1, Ci (Kl K) y b' nL' fr lo mc ms g N1 a (va_rf (some r0) :: As) post)
    (m1 : Cond.methodLink own idx y ∈ TT) (m2 : Cond.instanceMethod y ∈ TT) (m4 : Cond.initialized y.cls ∈ TT) (m5 : Cond.code y b' nL' none ∈ TT) (hy1 : y.name = "<init>")
    (hd : y.cls ≠ "java/lang/invoke/MethodHandle" ∧ y.cls ≠ "java/lang/invoke/VarHandle" ∧ (parseMethodDescriptor y.desc).map (fun d => d.parameters.length) = some n) (hn : As.length = n)
    (hR : fr + 1 ≤ R0.frames ∧ 8 + (nL' + 11) + lo ≤ R0.locals) (hst : (st.map fun v => v.category).sum ≤ 8) (hf : cells + mc ≤ R0.cells ∧ slots + ms ≤ R0.slots) (d : decode cc pc = .ok (.invokespecial idx, 3))
    (kk : ∀ a', post a' → dj a' b → V K g N0 nL Q (jn a' b) (cells + mc) (slots + ms) (pc + 3) lv st) : V K g N0 nL Q (jn a b) cells slots pc lv (As.reverse ++ va_rf (some r0) :: st) := by
  intro H locs ls hM hS hl T hT Z
  have hG : GoodIn TT (Cond.code y b' nL' none :: TT) := by
    have h0 := goodTT (ws := [Cond.code y b' nL' none]) (tt_c m5 tt_n)
    exact h0
  have hin := fr_in X hM hS
  have hN : ∀ q, H.size ≤ q → N0 q := fun q h => X.hN q (Nat.le_trans hS.1 h)
  have hr : va_Run (Kp K) (Kl K) (Ke K) (KR K) (Ks K) (Km K) (Ka K) (Kb K) (Kt K) (Kc K) H locs cells slots mc ms (F0 (Km K) pc ls (As.reverse ++ va_rf (some r0) :: st)) st (QQ g (fr1 a H.size) (pV post) (Value.ref r0 :: As).toArray) (AA (fr1 a H.size)) :=
    va_runI (As := As) ⟨X.hx, X.hb, X.hml, X.hown, X.hts⟩ (hC (fr1 a H.size)) (cwI n X.hts hG rfl rfl rfl (X.hts _ m4) (X.hts _ m1) (X.hts _ m2) hy1 hd (by rw [X.hR]; exact hR)) ⟨PP_blind, PPF_at X hM hS _⟩ rfl hn hl.1 rfl (by show 2 * 0 + _ ≤ 8; omega) d (by rw [X.hR]; exact hf)
  obtain ⟨v, st₀, t, T', L, h0, X', hL, e1, e2, ⟨⟨v', h', hv, ⟨rfl, hp⟩, hm⟩, hF⟩, hst2⟩ := hr T hT Z
  cases hv
  have hF2 : va_F (AA N0) st₀ t := ⟨hF.1, fun q h1 h2 => hF.2 q h1 (fun z => h2 (hin q z))⟩
  obtain ⟨f1, f2⟩ := hF
  rw [h0] at f1 f2
  obtain ⟨j1, j2⟩ := mW_join hM d0 hN hm f2
  obtain ⟨k1, k2, k3⟩ := vx_keep (free := AA N0) h0 e1 hS (fun _ _ z => z) (fun _ z => z) (fun q hq => hin _ (hL q hq)) hF2
  obtain ⟨t2, a1, b1⟩ := kk h' hp j2 T'.heap (locs ++ L) ls (by rw [e1]; exact j1) k3 hl T' rfl X'
  exact ⟨t2, hst2 t2 a1, b1⟩
end FR
theorem CtH_of {l : Launch} {y : MethodName} {b : ByteArray} {nL : Nat} {ret : Option FieldType} {hh : List (Nat × Nat × Nat × Nat)} {fr lo mc ms : Nat} {g : GG} {N0 : Nat → Prop} {h : Mp} {av : List Value} {post : Option Value → Mp → Prop} {xp : String → Mp → Prop} (own nm : String) (lv : List (Option Value)) (hy : plainName y.cls = true) (ho : y.cls = own) (hn : y.name = nm) (hlen : (lg_sl av).length ≤ nL) (hlv : toL 0 lv = lv_args 0 av)
    (body : ∀ K : Cx, Kl K = l → Fx K g N0 b nL own { frames := fr, cells := mc, slots := ms, locals := lo } ret nm (tableOf hh) → V K g N0 nL (RQ K g N0 post xp mc ms) h 0 0 0 lv []) : CtH l y b nL ret hh fr lo mc ms g N0 h av post xp := by
  refine vx_ofWH (cc := b) (maxL := nL) (ret := ret) (hh := hh) hy rfl ?_
  intro p e s m args below meth c s₁ B hml hv
  obtain ⟨rfl, hM, hK, hN, hZ⟩ := hv
  have hts := atoms_spec (ws := Cond.codeWith y b nL ret hh :: TT) B.pre
  have X : Fx (p, l, e, { frames := fr, cells := mc, slots := ms, locals := lo }, s, m, av.toArray, below, meth, c) g N0 b nL own { frames := fr, cells := mc, slots := ms, locals := lo } ret nm (tableOf hh) := by
    refine ⟨B.exec, B.bytes, hml, ?_, fun w hw => hts w (List.mem_cons_of_mem _ hw), hK, B.notSynchronized, hN, hZ, rfl, B.returns, ?_, ?_⟩
    · rw [← ho]; exact findClass_of_methodNamed B.named
    · rw [← hn]; exact (name_of_methodNamed B.named B.method).1
    · exact vx_table (x := y) B (hts _ List.mem_cons_self)
  have hl := lv_entry av (n := nL) hlen
  rw [lg_entry_eq]
  exact body _ rfl X s.heap [] _ hM va_S.rf (lH_of hl (fun i v hi => by rw [← hlv]; exact (toL_mem lv 0 i v).mpr ⟨i, by omega, hi⟩))
theorem V_catch {K : Cx} {g : GG} {N0 : Nat → Prop} {nL : Nat} {Q : State → Prop} {h : Mp} {cells slots pc : Nat} {lv : List (Option Value)} {cc : ByteArray} {own : String} {R0 : Room} {rt : Option FieldType} {nm : String} {ex : List ExceptionTableEntry} (X : Fx K g N0 cc nL own R0 rt nm ex) {E : String} (pre : List ExceptionTableEntry) (x : ExceptionTableEntry) (suf : List ExceptionTableEntry) (hex : ex = pre ++ x :: suf)
    (hpass : ∀ z ∈ pre, z.catchType ≠ 0 ∧ ∃ n : String, Cond.classLink own z.catchType n ∈ TT ∧ E ≠ n ∧ n ∈ exNames) (hx : covers x pc = true) (h0 : x.catchType ≠ 0) (hE : E ∈ exNames) (hl : Cond.classLink own x.catchType E ∈ TT)
    (kk : ∀ q, V K g N0 nL Q h cells slots x.handlerPc lv [va_rf (some q)]) : VX K g N0 nL Q h cells slots pc lv E := by
  intro H locs ls q ce rest hM hS hll h1 h2 h3
  have hZ := X.hZ
  obtain ⟨-, -, -, -, -, h6, h7, -⟩ := hZ
  refine vx_catch (own := own) (name := E) X.hown pre x suf (by rw [X.hex]; exact hex) (fun z hz => ?_) hx h0 (X.hts _ hl) (va_Nw.use rfl (h6 E hE)) h1 h2 h3 (kk q H locs ls hM hS hll)
  obtain ⟨z1, n, z2, z3, z4⟩ := hpass z hz
  exact Or.inr ⟨z1, n, X.hts _ z2, h7 E hE n z4 z3⟩
