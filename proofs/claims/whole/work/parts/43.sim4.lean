-- the joint state
def txA (ar : MA) (i : Nat) : CT → Prop
  | (_, lv, sn, se, sp, ha, ws, rs, ps) => lv = ar 0 i ∧ sn = ar 1 i ∧ se = ar 3 i ∧ sp = ar 2 i ∧ ha = ar 4 i ∧ ar 5 i = nI ws.length ∧ ar 11 i = nI rs.length ∧ ar 9 i = nI ps.length
def txB (ar : MA) (i N : Nat) (P : Int32 → Prop) : CT → Prop
  | (_, lv, sn, se, _, ha, ws, rs, ps) => (lv = 0 ∨ lv = 1) ∧ (ha = 0 ∨ ha = 1) ∧ (∃ x, x ≤ N ∧ sn = nI x) ∧ (se = 0 → ha = 0) ∧ (se ≠ 0 → ps = []) ∧ ws.length ≤ N ∧ rs.length ≤ N ∧ ps.length ≤ 20 ∧ wRel ar i P ws ∧ rRel ar i rs ∧ pRel ar i P ws.length ps
def txS (ar : MA) (i N : Nat) (P : Int32 → Prop) (t : CT) : Prop := txA ar i t ∧ txB ar i N P t
def rowEq (ar ar' : MA) (i : Nat) : Prop := (∀ k, k < 6 ∨ k = 9 ∨ k = 11 → ar' k i = ar k i) ∧ (∀ k, k = 6 ∨ k = 7 ∨ k = 8 ∨ k = 12 ∨ k = 13 → ∀ q, q < 600 → ar' k (600 * i + q) = ar k (600 * i + q)) ∧ ∀ q, q < 20 → ar' 10 (20 * i + q) = ar 10 (20 * i + q)
theorem rowEq.refl (ar : MA) (i : Nat) : rowEq ar ar i := ⟨fun _ _ => rfl, fun _ _ _ _ => rfl, fun _ _ => rfl⟩
theorem rowEq.trans {a b c : MA} {i : Nat} (h1 : rowEq a b i) (h2 : rowEq b c i) : rowEq a c i := ⟨fun k hk => (h2.1 k hk).trans (h1.1 k hk), fun k hk q hq => (h2.2.1 k hk q hq).trans (h1.2.1 k hk q hq), fun q hq => (h2.2.2 q hq).trans (h1.2.2 q hq)⟩
theorem rowEq_of {ar ar' : MA} (h : ∀ k, k < 14 → ar' k = ar k) (i : Nat) : rowEq ar ar' i := ⟨fun k hk => by rw [h k (by omega)], fun k hk q _ => by rw [h k (by omega)], fun q _ => by rw [h 10 (by decide)]⟩
theorem wRel_row {ar ar' : MA} {i : Nat} {P : Int32 → Prop} (r : rowEq ar ar' i) {ws : LW} (hl : ws.length < 600) (h : wRel ar i P ws) : wRel ar' i P ws := wRel_congr (fun k hk => ⟨r.2.1 6 (by omega) k (by omega), r.2.1 7 (by omega) k (by omega), r.2.1 8 (by omega) k (by omega)⟩) h
theorem rRel_row {ar ar' : MA} {i : Nat} (r : rowEq ar ar' i) {rs : LR} (hl : rs.length < 600) (h : rRel ar i rs) : rRel ar' i rs := rRel_congr (fun k hk => ⟨r.2.1 12 (by omega) k (by omega), r.2.1 13 (by omega) k (by omega)⟩) h
theorem pRel_row {ar ar' : MA} {i : Nat} {P : Int32 → Prop} (r : rowEq ar ar' i) {b : Nat} {ps : CP} (hb : b < 600) (hl : ps.length ≤ 20) (h : pRel ar i P b ps) : pRel ar' i P b ps := pRel_congr (fun k hk => ⟨r.2.1 6 (by omega) k (by omega), r.2.1 7 (by omega) k (by omega), r.2.1 8 (by omega) k (by omega)⟩) (fun k hk => r.2.2 k (by omega)) h
theorem txS_row {ar ar' : MA} {i N N' : Nat} {P P' : Int32 → Prop} {t : CT} (hN : N ≤ N') (hN' : N ≤ 512) (hP : ∀ n, P n → P' n) (r : rowEq ar ar' i) (h : txS ar i N P t) : txS ar' i N' P' t := by
  obtain ⟨a, lv, sn, se, sp, ha, ws, rs, ps⟩ := t
  obtain ⟨⟨a1, a2, a3, a4, a5, a6, a7, a8⟩, b1, b2, ⟨x, hx, b3⟩, b4, b5, b6, b7, b8, b9, b10, b11⟩ := h
  refine ⟨⟨?_, ?_, ?_, ?_, ?_, ?_, ?_, ?_⟩, b1, b2, ⟨x, by omega, b3⟩, b4, b5, by omega, by omega, b8, wRel_mono hP (wRel_row r (by omega) b9), rRel_row r (by omega) b10, pRel_mono hP (pRel_row r (by omega) b8 b11)⟩
  · rw [r.1 0 (by omega)]; exact a1
  · rw [r.1 1 (by omega)]; exact a2
  · rw [r.1 3 (by omega)]; exact a3
  · rw [r.1 2 (by omega)]; exact a4
  · rw [r.1 4 (by omega)]; exact a5
  · rw [r.1 5 (by omega)]; exact a6
  · rw [r.1 11 (by omega)]; exact a7
  · rw [r.1 9 (by omega)]; exact a8
def opn1 (t : CT) : Nat := if ctS t = 0 then (ctW t).length else 0
def openSum : List CT → Nat
  | [] => 0
  | t :: l => opn1 t + openSum l
theorem openSum_app : ∀ (l : List CT) (t : CT), openSum (l ++ [t]) = openSum l + opn1 t
  | [], t => by rw [List.nil_append, openSum, openSum, openSum]; omega
  | u :: l, t => by rw [List.cons_append, openSum, openSum, openSum_app l t]; omega
theorem openSum_set : ∀ {l : List CT} {i : Nat} {t t' : CT}, l[i]? = some t → openSum (l.set i t') + opn1 t = openSum l + opn1 t'
  | [], i, t, t', h => by cases h
  | u :: l, 0, t, t', h => by cases h; rw [List.set_cons_zero, openSum, openSum]; omega
  | u :: l, i + 1, t, t', h => by
    have := openSum_set (t' := t') (show l[i]? = some t from h)
    rw [List.set_cons_succ, openSum, openSum]; omega
theorem openSum_get : ∀ {l : List CT} {i : Nat} {t : CT}, l[i]? = some t → opn1 t ≤ openSum l
  | [], i, t, h => by cases h
  | u :: l, 0, t, h => by cases h; rw [openSum]; omega
  | u :: l, i + 1, t, h => by
    have := openSum_get (show l[i]? = some t from h)
    rw [openSum]; omega
def z0 (ar : MA) (i : Nat) : Prop := ar 3 i = 0 ∧ ar 4 i = 0 ∧ ar 5 i = 0 ∧ ar 9 i = 0 ∧ ar 11 i = 0
theorem z0_row {ar ar' : MA} {i : Nat} (r : rowEq ar ar' i) (h : z0 ar i) : z0 ar' i := ⟨by rw [r.1 3 (by omega)]; exact h.1, by rw [r.1 4 (by omega)]; exact h.2.1, by rw [r.1 5 (by omega)]; exact h.2.2.1, by rw [r.1 9 (by omega)]; exact h.2.2.2.1, by rw [r.1 11 (by omega)]; exact h.2.2.2.2⟩
/-- the reference's state stands for the class's, after N calls -/
def Sim (N : Nat) (ck sf nt : Int32) (kl : LK) (tl : List CT) (iv : MI) (ar : MA) (nv : Nat) : Prop :=
  (iv 1 = ck ∧ iv 2 = sf ∧ iv 3 = nI tl.length ∧ iv 4 = nI nv) ∧ (∃ c s k, c ≤ N ∧ s ≤ c ∧ k ≤ N ∧ ck = nI c ∧ sf = nI s ∧ nt = nI k) ∧ (∀ i t, tl[i]? = some t → txS ar i N (known kl) t) ∧ (∀ i, tl.length ≤ i → i < 120 → z0 ar i) ∧ nv + openSum tl ≤ N ∧ ((∀ j, ar 8 j = 0 ∨ ar 8 j = 1) ∧ ∀ j, j < nv → ar 17 j = 0 ∨ ar 17 j = 1) ∧ VSim kl (vlist ar nv)
section SM
variable {N : Nat} {ck sf nt : Int32} {kl : LK} {tl : List CT} {iv : MI} {ar : MA} {nv : Nat}
theorem Sim.i1 (s : Sim N ck sf nt kl tl iv ar nv) : iv 1 = ck := s.1.1
theorem Sim.i2 (s : Sim N ck sf nt kl tl iv ar nv) : iv 2 = sf := s.1.2.1
theorem Sim.i3 (s : Sim N ck sf nt kl tl iv ar nv) : iv 3 = nI tl.length := s.1.2.2.1
theorem Sim.i4 (s : Sim N ck sf nt kl tl iv ar nv) : iv 4 = nI nv := s.1.2.2.2
theorem Sim.ns (s : Sim N ck sf nt kl tl iv ar nv) : ∃ c s k, c ≤ N ∧ s ≤ c ∧ k ≤ N ∧ ck = nI c ∧ sf = nI s ∧ nt = nI k := s.2.1
theorem Sim.tx (s : Sim N ck sf nt kl tl iv ar nv) {i : Nat} {t : CT} (h : tl[i]? = some t) : txS ar i N (known kl) t := s.2.2.1 i t h
theorem Sim.z (s : Sim N ck sf nt kl tl iv ar nv) : ∀ i, tl.length ≤ i → i < 120 → z0 ar i := s.2.2.2.1
theorem Sim.n (s : Sim N ck sf nt kl tl iv ar nv) : nv + openSum tl ≤ N := s.2.2.2.2.1
theorem Sim.b8 (s : Sim N ck sf nt kl tl iv ar nv) : ∀ j, ar 8 j = 0 ∨ ar 8 j = 1 := s.2.2.2.2.2.1.1
theorem Sim.b17 (s : Sim N ck sf nt kl tl iv ar nv) : ∀ j, j < nv → ar 17 j = 0 ∨ ar 17 j = 1 := s.2.2.2.2.2.1.2
theorem Sim.v (s : Sim N ck sf nt kl tl iv ar nv) : VSim kl (vlist ar nv) := s.2.2.2.2.2.2
def wcF (tl : List CT) (i : Nat) : Nat := match tl[i]? with
  | none => 0
  | some t => (ctW t).length
def rcF (tl : List CT) (i : Nat) : Nat := match tl[i]? with
  | none => 0
  | some t => (ctR t).length
def pcF (tl : List CT) (i : Nat) : Nat := match tl[i]? with
  | none => 0
  | some t => (ctP t).length
theorem wcF_t {i : Nat} {t : CT} (h : tl[i]? = some t) : wcF tl i = (ctW t).length := by rw [wcF, h]
theorem rcF_t {i : Nat} {t : CT} (h : tl[i]? = some t) : rcF tl i = (ctR t).length := by rw [rcF, h]
theorem pcF_t {i : Nat} {t : CT} (h : tl[i]? = some t) : pcF tl i = (ctP t).length := by rw [pcF, h]
theorem MB_of {g : GG} {s0 ta : Nat} {h : Mp} (w : World g s0 ta h ck sf nt kl tl) (s : Sim N ck sf nt kl tl iv ar nv) (hN : N ≤ 512) : MB iv ar tl.length nv (wcF tl) (rcF tl) (pcF tl) := by
  refine ⟨s.i3, w.len, s.i4, by have := s.n; omega, vrise_of s.v w.hv, fun i hi => ?_⟩
  have ht : tl[i]? = some tl[i] := List.getElem?_eq_getElem hi
  have := s.tx ht
  rw [wcF_t ht, rcF_t ht, pcF_t ht]
  generalize tl[i] = t at this
  obtain ⟨a, lv, sn, se, sp, ha, ws, rs, ps⟩ := t
  obtain ⟨⟨a1, a2, a3, a4, a5, a6, a7, a8⟩, b1, b2, b3, b4, b5, b6, b7, b8, b9, b10, b11⟩ := this
  exact ⟨⟨a6, show ws.length < 600 by omega⟩, ⟨a7, show rs.length < 600 by omega⟩, a8, b8⟩
/-- numbers alone change -/
theorem Sim.num (s : Sim N ck sf nt kl tl iv ar nv) (hN : N ≤ 512) {iv' : MI} (h : ∀ i, 1 ≤ i → i ≤ 4 → iv' i = iv i) : Sim (N + 1) ck sf nt kl tl iv' ar nv := by
  obtain ⟨c, q, k, h1, h2, h3, e1, e2, e3⟩ := s.ns
  refine ⟨⟨(h 1 (by decide) (by decide)).trans s.i1, (h 2 (by decide) (by decide)).trans s.i2, (h 3 (by decide) (by decide)).trans s.i3, (h 4 (by decide) (by decide)).trans s.i4⟩, ⟨c, q, k, by omega, h2, by omega, e1, e2, e3⟩, fun i t ht => txS_row (by omega) hN (fun _ z => z) (rowEq.refl ar i) (s.tx ht), s.z, by have := s.n; omega, ⟨s.b8, s.b17⟩, s.v⟩
/-- one transaction changes -/
theorem Sim.set (s : Sim N ck sf nt kl tl iv ar nv) (hN : N ≤ 512) {iv' : MI} {ar' : MA} {kl' : LK} {nt' : Int32} {i : Nat} {t t' : CT} (ht : tl[i]? = some t) (h : ∀ i, 1 ≤ i → i ≤ 4 → iv' i = iv i) (hn : nt' = nt ∨ nt' = nt + 1) (hr : ∀ j, j ≠ i → rowEq ar ar' j) (hk : ∀ n, known kl n → known kl' n) (hv : VSim kl' (vlist ar' nv)) (ht' : txS ar' i (N + 1) (known kl') t') (ho : opn1 t' ≤ opn1 t + 1) (h8 : ∀ j, ar' 8 j = 0 ∨ ar' 8 j = 1) (h17 : ar' 17 = ar 17) : Sim (N + 1) ck sf nt' kl' (tl.set i t') iv' ar' nv := by
  obtain ⟨c, q, k, h1, h2, h3, e1, e2, e3⟩ := s.ns
  have hi : i < tl.length := (List.getElem?_eq_some_iff.mp ht).1
  refine ⟨⟨(h 1 (by decide) (by decide)).trans s.i1, (h 2 (by decide) (by decide)).trans s.i2, ?_, (h 4 (by decide) (by decide)).trans s.i4⟩, ?_, fun j u hu => ?_, fun j hj hj2 => ?_, ?_, ⟨h8, by rw [h17]; exact s.b17⟩, hv⟩
  · rw [List.length_set]; exact (h 3 (by decide) (by decide)).trans s.i3
  · rcases hn with rfl | rfl
    · exact ⟨c, q, k, by omega, h2, by omega, e1, e2, e3⟩
    · exact ⟨c, q, k + 1, by omega, h2, by omega, e1, e2, by rw [e3]; exact nI_1 k⟩
  · by_cases e : j = i
    · subst e
      rw [List.getElem?_set_self hi] at hu
      cases hu
      exact ht'
    · rw [List.getElem?_set_ne (fun z => e z.symm)] at hu
      exact txS_row (by omega) hN hk (hr j e) (s.tx hu)
  · rw [List.length_set] at hj
    exact z0_row (hr j (by omega)) (s.z j hj hj2)
  · have := openSum_set (t' := t') ht
    have := s.n
    omega
end SM
/-- both worlds, N calls in; k is what the reference notes as thrown -/
def St (g : GG) (s ta m : Nat) (ad : Nat → Nat) (hc hm : Mp) (N : Nat) (k : Int32) : Prop := ∃ ck sf nt kl tl iv ar nv, World g s ta hc ck sf nt kl tl ∧ MW g m ad hm iv ar ∧ Sim N ck sf nt kl tl iv ar nv ∧ iv 0 = k
abbrev CtP : Type := MethodName × ByteArray × Nat × Option FieldType × Nat × Nat × Nat × Nat
def CtT (l : Launch) (T : CtP) (g : GG) (N0 : Nat → Prop) (h : Mp) (av : List Value) (post : Option Value → Mp → Prop) (xp : String → Mp → Prop) : Prop := Ct l T.1 T.2.1 T.2.2.1 T.2.2.2.1 T.2.2.2.2.1 T.2.2.2.2.2.1 T.2.2.2.2.2.2.1 T.2.2.2.2.2.2.2 g N0 h av post xp
/-- a contract that gives at least this -/
def CtW (l : Launch) (T : CtP) (g : GG) (h : Mp) (av : List Value) (post : Option Value → Mp → Prop) : Prop := ∃ post', (∀ N0, CtT l T g N0 h av post' nox) ∧ ∀ v h', post' v h' → post v h'
def kI (v : Value) : Prop := ∃ b, v = .int b
def kL (v : Value) : Prop := ∃ b, v = .long b
def kZ (v : Value) : Prop := ∃ b, v = .int (b01 b)
/-- class and reference, called with the same arguments -/
def JS (l : Launch) (g : GG) (s ta m : Nat) (ad : Nat → Nat) (N : Nat) (TS TM : CtP) (kd : Value → Prop) (es : List String) (cd : String → Int32) (av : List Value) : Prop := ∀ (hc hm : Mp) (k0 : Int32), St g s ta m ad hc hm N k0 → ∃ post xp, (∀ N0, CtT l TS g N0 hc (va_rf (some s) :: av) post xp) ∧ (∀ v h', post v h' → ∃ x, v = some x ∧ kd x ∧ CtW l TM g hm (va_rf (some m) :: av) (fun v' h'' => v' = some x ∧ St g s ta m ad h' h'' (N + 1) 0)) ∧ (∀ E h', xp E h' → E ∈ es ∧ cd E ≠ 0 ∧ CtW l TM g hm (va_rf (some m) :: av) (fun v' h'' => (∃ x, v' = some x ∧ kd x) ∧ St g s ta m ad h' h'' (N + 1) (cd E)))
def eB : List String := ["java/lang/IllegalArgumentException", "java/lang/IllegalStateException"]
def eI : List String := ["java/lang/IndexOutOfBoundsException", "java/lang/IllegalStateException"]
def eJ : List String := ["java/lang/IndexOutOfBoundsException", "java/lang/IllegalStateException", "java/lang/IllegalArgumentException"]
def eT : List String := ["java/lang/IndexOutOfBoundsException", "java/lang/IllegalArgumentException"]
theorem eJ_of {E : String} (h : E ∈ eI) : E ∈ eJ := by
  rw [eI, List.mem_cons, List.mem_singleton] at h
  rcases h with rfl | rfl
  · exact List.mem_cons_self
  · exact List.mem_cons_of_mem _ List.mem_cons_self
