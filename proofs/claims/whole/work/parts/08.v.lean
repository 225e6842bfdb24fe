-- the judgement V: the machine at a point of a method, over a map of cells (own work)
theorem rf_cat (r : Option Nat) : (va_rf r).category = 1 := by cases r <;> rfl
abbrev Mp : Type := Nat → Option va_E
def mUp (h : Mp) (a : Nat) (e : va_E) : Mp := fun b => if b = a then some e else h b
theorem mUp_s (h : Mp) (a : Nat) (e : va_E) : mUp h a e a = some e := by simp [mUp]
theorem mUp_n (h : Mp) {a b : Nat} (e : va_E) (hb : b ≠ a) : mUp h a e b = h b := by simp [mUp, hb]
theorem mUp_uu (h : Mp) (a : Nat) (e e' : va_E) : mUp (mUp h a e) a e' = mUp h a e' := by
  funext b; simp only [mUp]; split <;> rfl
theorem mUp_ne {h : Mp} {a b : Nat} {e0 e1 : va_E} (ha : h a = some e0) (hb : h b = some e1) (hne : e1 ≠ e0) : b ≠ a := fun q => hne (by subst q; exact Option.some.inj (hb.symm.trans ha))
theorem mUp_nn {h : Mp} {a b : Nat} {e1 : va_E} (ha : h a = none) (hb : h b = some e1) : b ≠ a := fun q => by subst q; rw [ha] at hb; cases hb
abbrev GG : Type := va_G × (Nat → ClassId)
def tysG (g : GG) : List (ClassId × FieldType) := [(g.2 0, .int), (g.2 1, .long), (g.2 2, .boolean), (g.2 3, .object R_Tx)]
abbrev AA (N0 : Nat → Prop) : Nat → Prop := N0
def mW (g : GG) (N0 : Nat → Prop) (h : Mp) (H : Heap) : Prop := ∃ ws : va_W, va_P g.1 CL ws H ∧ va_D (AA N0) ws ∧ ∀ a e, h a = some e ↔ (a, e) ∈ ws
theorem mW_at {g : GG} {N0 : Nat → Prop} {h : Mp} {H : Heap} (hM : mW g N0 h H) {a : Nat} {e : va_E} (ha : h a = some e) : ∃ (ws : va_W) (q0 : Nat), va_P g.1 CL ws H ∧ va_D (AA N0) ws ∧ (∀ a e, h a = some e ↔ (a, e) ∈ ws) ∧ ws[q0]? = some (a, e) := by
  obtain ⟨ws, h1, h2, h3⟩ := hM
  obtain ⟨q0, hq⟩ := List.getElem?_of_mem ((h3 a e).mp ha)
  exact ⟨ws, q0, h1, h2, h3, hq⟩
theorem mW_set {g : GG} {N0 : Nat → Prop} {h : Mp} {ws : va_W} {H1 : Heap} {q0 a : Nat} {e0 e : va_E} (h3 : ∀ a e, h a = some e ↔ (a, e) ∈ ws) (hD : va_D (AA N0) ws) (hq : ws[q0]? = some (a, e0)) (hP1 : va_P g.1 CL (ws.set q0 (a, e)) H1) (hD1 : va_D (AA N0) (ws.set q0 (a, e))) : mW g N0 (mUp h a e) H1 := by
  refine ⟨_, hP1, hD1, fun b e' => ?_⟩
  have hlt : q0 < ws.length := (List.getElem?_eq_some_iff.mp hq).1
  constructor
  · intro hb
    by_cases hba : b = a
    · subst hba
      rw [mUp_s] at hb
      cases hb
      exact List.mem_of_getElem? (i := q0) (by rw [List.getElem?_set_self hlt])
    · rw [mUp_n h e hba] at hb
      obtain ⟨j, hj⟩ := List.getElem?_of_mem ((h3 b e').mp hb)
      refine List.mem_of_getElem? (i := j) ?_
      rw [List.getElem?_set_ne]
      · exact hj
      · intro q
        subst q
        rw [hj] at hq
        cases hq
        exact hba rfl
  · intro hm
    obtain ⟨j, hj⟩ := List.getElem?_of_mem hm
    by_cases hjq : q0 = j
    · subst hjq
      rw [List.getElem?_set_self hlt] at hj
      cases hj
      exact mUp_s h a e
    · rw [List.getElem?_set_ne hjq] at hj
      have hne : b ≠ a := fun q => by
        subst q
        exact hjq (hD.1 _ _ _ _ hq hj rfl)
      rw [mUp_n h e hne]
      exact (h3 b e').mpr (List.mem_of_getElem? hj)
theorem mW_push {g : GG} {N0 : Nat → Prop} {h : Mp} {ws : va_W} {H1 : Heap} {q : Nat} {e : va_E} (h3 : ∀ a e, h a = some e ↔ (a, e) ∈ ws) (hP1 : va_P g.1 CL (ws ++ [(q, e)]) H1) (hD1 : va_D (AA N0) (ws ++ [(q, e)])) : h q = none ∧ mW g N0 (mUp h q e) H1 := by
  have hq : h q = none := by
    cases hc : h q with
    | none => rfl
    | some e' =>
      obtain ⟨j, hj⟩ := List.getElem?_of_mem ((h3 q e').mp hc)
      have hl := (List.getElem?_eq_some_iff.mp hj).1
      have h1 : (ws ++ [(q, e)])[j]? = some (q, e') := by rw [List.getElem?_append_left hl]; exact hj
      have h2 : (ws ++ [(q, e)])[ws.length]? = some (q, e) := by rw [List.getElem?_append_right (Nat.le_refl _), Nat.sub_self]; rfl
      have := hD1.1 _ _ _ _ h1 h2 rfl
      omega
  refine ⟨hq, _, hP1, hD1, fun b e' => ?_⟩
  rw [List.mem_append, List.mem_singleton]
  by_cases hb : b = q
  · subst hb
    rw [mUp_s]
    constructor
    · intro z; cases z; exact Or.inr rfl
    · intro z
      rcases z with z | z
      · rw [← h3] at z; rw [hq] at z; cases z
      · cases z; rfl
  · rw [mUp_n h e hb, h3]
    constructor
    · exact Or.inl
    · intro z
      rcases z with z | z
      · exact z
      · cases z; exact absurd rfl hb
theorem mW_nil (g : GG) (N0 : Nat → Prop) (H : Heap) : mW g N0 (fun _ => none) H := ⟨[], fun k q h => by simp at h, ⟨fun i j p q h => by simp at h, fun k q h => by simp at h⟩, fun a e => by simp⟩
theorem mW_lo {g : GG} {N0 : Nat → Prop} {h : Mp} {H : Heap} (hM : mW g N0 h H) {a : Nat} {e : va_E} (ha : h a = some e) : N0 a := by
  obtain ⟨ws, q0, -, hD, -, hq⟩ := mW_at hM ha
  exact hD.2 q0 _ hq
-- locals
def lH (ls : Array Slot) (nL : Nat) (lv : List (Option Value)) : Prop := ls.size = nL ∧ lv_wf ls ∧ ∀ (i : Nat) (v : Value), lv[i]? = some (some v) → ls[i]? = some (.val v)
def toL : Nat → List (Option Value) → List (Nat × Value)
  | _, [] => []
  | i, none :: r => toL (i + 1) r
  | i, some v :: r => (i, v) :: toL (i + 1) r
theorem toL_mem : ∀ (lv : List (Option Value)) (i j : Nat) (v : Value), (j, v) ∈ toL i lv ↔ ∃ k, j = i + k ∧ lv[k]? = some (some v)
  | [], i, j, v => by simp [toL]
  | none :: r, i, j, v => by
    rw [toL, toL_mem r]
    constructor
    · rintro ⟨k, h1, h2⟩
      exact ⟨k + 1, by omega, by simpa using h2⟩
    · rintro ⟨k, h1, h2⟩
      cases k with
      | zero => simp at h2
      | succ k => exact ⟨k, by omega, by simpa using h2⟩
  | some w :: r, i, j, v => by
    rw [toL, List.mem_cons, toL_mem r]
    constructor
    · rintro (h | ⟨k, h1, h2⟩)
      · cases h; exact ⟨0, rfl, rfl⟩
      · exact ⟨k + 1, by omega, by simpa using h2⟩
    · rintro ⟨k, h1, h2⟩
      cases k with
      | zero => left; simp at h2; rw [h2, h1]; rfl
      | succ k => right; exact ⟨k, by omega, by simpa using h2⟩
theorem lH_has {ls : Array Slot} {nL : Nat} {lv : List (Option Value)} (h : lH ls nL lv) : lv_has ls nL (toL 0 lv) := by
  refine ⟨h.1, h.2.1, fun q hq => ?_⟩
  obtain ⟨k, h1, h2⟩ := (toL_mem lv 0 q.1 q.2).mp hq
  have h3 := h.2.2 k _ h2
  rw [h1, Nat.zero_add]
  exact h3
theorem lH_of {ls : Array Slot} {nL : Nat} {lv : List (Option Value)} {l : List (Nat × Value)} (h : lv_has ls nL l) (hs : ∀ i v, lv[i]? = some (some v) → (i, v) ∈ l) : lH ls nL lv := ⟨h.1, h.2.1, fun i v hi => h.2.2 _ (hs i v hi)⟩
/-- nothing wide lies just ahead of place i -/
def lvOK (lv : List (Option Value)) (i : Nat) : Prop := ∀ j v, j + 1 = i → lv[j]? = some (some v) → v.category = 1
theorem lvOK_0 {lv : List (Option Value)} : lvOK lv 0 := fun j v h => by omega
theorem lvOK_n {lv : List (Option Value)} {i : Nat} (h : lv[i]? = some none) : lvOK lv (i + 1) := fun j v hj hv => by
  have : j = i := by omega
  subst this; rw [h] at hv; cases hv
theorem lvOK_v {lv : List (Option Value)} {i : Nat} {w : Value} (h : lv[i]? = some (some w)) (hw : w.category = 1) : lvOK lv (i + 1) := fun j v hj hv => by
  have : j = i := by omega
  subst this; rw [h] at hv; cases hv; exact hw
theorem lH_st1 {ls : Array Slot} {nL : Nat} {lv : List (Option Value)} {i : Nat} {v : Value} (hi : i < lv.length) (ho : lvOK lv i) (h : lv_has ls nL ((i, v) :: (toL 0 lv).filter (fun q => !(q.1 == i) && !(q.1 + 1 == i && q.2.category == 2)))) : lH ls nL (lv.set i (some v)) := by
  refine lH_of h (fun j w hj => ?_)
  by_cases hji : j = i
  · subst hji
    rw [List.getElem?_set_self hi] at hj
    cases hj
    exact List.mem_cons_self
  · rw [List.getElem?_set_ne (Ne.symm hji)] at hj
    refine List.mem_cons_of_mem _ (List.mem_filter.mpr ⟨(toL_mem lv 0 j w).mpr ⟨j, by omega, hj⟩, ?_⟩)
    by_cases h1 : j + 1 = i
    · have hc := ho j w h1 hj
      simp [hji, hc]
    · simp [hji, h1]
theorem lH_st2 {ls : Array Slot} {nL : Nat} {lv : List (Option Value)} {i : Nat} {v : Value} (hi : i + 1 < lv.length) (ho : lvOK lv i) (h : lv_has ls nL ((i, v) :: (toL 0 lv).filter (fun q => !(q.1 == i) && (!(q.1 == i + 1) && !(q.1 + 1 == i && q.2.category == 2))))) : lH ls nL ((lv.set i (some v)).set (i + 1) none) := by
  refine lH_of h (fun j w hj => ?_)
  by_cases hj1 : j = i + 1
  · subst hj1
    rw [List.getElem?_set_self (by rw [List.length_set]; exact hi)] at hj
    cases hj
  · rw [List.getElem?_set_ne (Ne.symm hj1)] at hj
    by_cases hji : j = i
    · subst hji
      rw [List.getElem?_set_self (by omega)] at hj
      cases hj
      exact List.mem_cons_self
    · rw [List.getElem?_set_ne (Ne.symm hji)] at hj
      refine List.mem_cons_of_mem _ (List.mem_filter.mpr ⟨(toL_mem lv 0 j w).mpr ⟨j, by omega, hj⟩, ?_⟩)
      by_cases h1 : j + 1 = i
      · have hc := ho j w h1 hj
        simp [hji, hj1, hc]
      · simp [hji, hj1, h1]
-- strings of the class that are thrown
def dcls : List MethodName := [({ cls := "java/lang/RuntimeException", name := "<init>", desc := "()V" } : Jvm.MethodName), ({ cls := "java/lang/RuntimeException", name := "<init>", desc := "(Ljava/lang/String;)V" } : Jvm.MethodName), ({ cls := "java/lang/Exception", name := "<init>", desc := "()V" } : Jvm.MethodName), ({ cls := "java/lang/Exception", name := "<init>", desc := "(Ljava/lang/String;)V" } : Jvm.MethodName), ({ cls := "java/lang/Throwable", name := "<init>", desc := "()V" } : Jvm.MethodName), ({ cls := "java/lang/Throwable", name := "<init>", desc := "(Ljava/lang/String;)V" } : Jvm.MethodName)]
def strs : List (Nat × String) := [(17, "there is no such level"), (28, "there are as many transactions as there can be"), (196, "there is no such transaction"), (199, "the transaction is not open"), (204, "the store is used up"), (75, "the place of a key is below 0"), (88, "there are as many places as there can be"), (107, "there is no such place"), (169, "nothing of that kind is told")]
def exNames : List String := ["java/lang/IllegalArgumentException", "java/lang/IllegalStateException", "java/lang/IndexOutOfBoundsException"]
def TZ (l : Launch) (N0 : Nat → Prop) (U : State) (H : Heap) : Prop := l.stackTraces = false ∧ vx_Zq Bundle.tN "UNASSIGNED_STACK" Bundle.steD (AA N0) U H ∧ vx_Zq Bundle.tN "SUPPRESSED_SENTINEL" Bundle.listD (AA N0) U H ∧ (∀ (k : Nat) (q : Nat × String), strs[k]? = some q → ∃ sa, vk_R "SnapshotStore" q.1 q.2 sa U) ∧ va_AO R_Tx U ∧ (∀ E ∈ exNames, va_Nw (.castable E E) U) ∧ (∀ E ∈ exNames, ∀ F ∈ exNames, E ≠ F → va_Nc E F U) ∧ ∀ x ∈ dcls, va_Nw (.declares x) U
theorem TZ.warm {l : Launch} {N0 : Nat → Prop} {s U : State} {H : Heap} (hW : s.WarmedH U.vm) (hq : ∀ a : Nat, a < s.heap.size → ¬ AA N0 a → H[a]? = s.heap[a]?) (h : TZ l N0 s s.heap) : TZ l N0 U H := by
  obtain ⟨h1, h2, h3, h4, h5, h6, h7, h8⟩ := h
  refine ⟨h1, vx_Zq.moved hW.alike (h2.kept hq), vx_Zq.moved hW.alike (h3.kept hq), fun k q hk => ?_, va_AO.moved hW.alike h5, fun E hE => va_Nw.warmC hW (h6 E hE), fun E hE F hF hne => va_Nc.moved hW.alike (h7 E hE F hF hne), fun x hx => va_Nw.warmD hW (h8 x hx)⟩
  obtain ⟨sa, hs⟩ := h4 k q hk
  exact ⟨sa, vk_R.warm hW hs⟩
theorem TZ.same {l : Launch} {N0 : Nat → Prop} {s U : State} {H : Heap} (hv : U.vm = s.vm) (h : TZ l N0 s H) : TZ l N0 U H := by
  have ha : s.vm.Alike U.vm := by rw [hv]; exact Vm.Alike.refl _
  obtain ⟨h1, h2, h3, h4, h5, h6, h7, h8⟩ := h
  refine ⟨h1, vx_Zq.moved ha h2, vx_Zq.moved ha h3, fun k q hk => ?_, va_AO.moved ha h5, fun E hE => va_Nw.same rfl hv.symm (h6 E hE), fun E hE F hF hne => va_Nc.moved ha (h7 E hE F hF hne), fun x hx => va_Nw.same rfl hv.symm (h8 x hx)⟩
  obtain ⟨sa, hs⟩ := h4 k q hk
  exact ⟨sa, vk_R.same hv hs⟩
-- the context of a method's walk
abbrev Cx : Type := Program × Launch × Env × Room × State × MethodId × Array Value × List Frame × Method × Code
abbrev Kp (K : Cx) : Program := K.1
abbrev Kl (K : Cx) : Launch := K.2.1
abbrev Ke (K : Cx) : Env := K.2.2.1
abbrev KR (K : Cx) : Room := K.2.2.2.1
abbrev Ks (K : Cx) : State := K.2.2.2.2.1
abbrev Km (K : Cx) : MethodId := K.2.2.2.2.2.1
abbrev Ka (K : Cx) : Array Value := K.2.2.2.2.2.2.1
abbrev Kb (K : Cx) : List Frame := K.2.2.2.2.2.2.2.1
abbrev Kt (K : Cx) : Method := K.2.2.2.2.2.2.2.2.1
abbrev Kc (K : Cx) : Code := K.2.2.2.2.2.2.2.2.2
def KW (K : Cx) (H : Heap) (locs : List Loc) (cells slots : Nat) (Q : State → Prop) (f : JFrame) : Prop := W (Kp K) (Kl K) (Ke K) (KR K) (Ks K) (Km K) (Ka K) (Kb K) (Kt K) (Kc K) H locs cells slots Q f
def V (K : Cx) (g : GG) (N0 : Nat → Prop) (nL : Nat) (Q : State → Prop) (h : Mp) (cells slots pc : Nat) (lv : List (Option Value)) (st : List Value) : Prop :=
  ∀ (H : Heap) (locs : List Loc) (ls : Array Slot), mW g N0 h H → va_S (AA N0) (Ks K).heap H locs → lH ls nL lv → W (Kp K) (Kl K) (Ke K) (KR K) (Ks K) (Km K) (Ka K) (Kb K) (Kt K) (Kc K) H locs cells slots Q (F0 (Km K) pc ls st)
/-- the fixed facts of a walk: machine, bytes, room, own class, the tables' words, class numbers, what throws need -/
def Fx (K : Cx) (g : GG) (N0 : Nat → Prop) (cc : ByteArray) (nL : Nat) (own : String) (R0 : Room) (rt : Option FieldType) (nm : String) (ex : List ExceptionTableEntry) : Prop :=
  (Kp K).tables.exec = Jvm.exec ∧ (Kc K).code = cc ∧ (Kc K).maxLocals = nL ∧ (Ks K).vm.findClass own = some (Km K).cls ∧ (∀ w ∈ TT, w.before (Ka K) (Ks K) = true) ∧ va_K g.1 CL (tysG g) (Ks K) ∧ (Kt K).locks = false ∧ (∀ q, (Ks K).heap.size ≤ q → N0 q) ∧ TZ (Kl K) N0 (Ks K) (Ks K).heap ∧ KR K = R0 ∧ (Kt K).sig.returnType = rt ∧ (Kt K).name = nm ∧ (Kc K).exceptionTable.toList = ex
section VR
variable {K : Cx} {g : GG} {N0 : Nat → Prop} {nL : Nat} {Q : State → Prop} {h : Mp} {cells slots pc : Nat} {lv : List (Option Value)} {st : List Value} {cc : ByteArray} {own : String} {R0 : Room} {rt : Option FieldType} {nm : String} {ex : List ExceptionTableEntry}
theorem Fx.hx (X : Fx K g N0 cc nL own R0 rt nm ex) : (Kp K).tables.exec = Jvm.exec := X.1
theorem Fx.hb (X : Fx K g N0 cc nL own R0 rt nm ex) : (Kc K).code = cc := X.2.1
theorem Fx.hml (X : Fx K g N0 cc nL own R0 rt nm ex) : (Kc K).maxLocals = nL := X.2.2.1
theorem Fx.hown (X : Fx K g N0 cc nL own R0 rt nm ex) : (Ks K).vm.findClass own = some (Km K).cls := X.2.2.2.1
theorem Fx.hts (X : Fx K g N0 cc nL own R0 rt nm ex) : ∀ w ∈ TT, w.before (Ka K) (Ks K) = true := X.2.2.2.2.1
theorem Fx.hK (X : Fx K g N0 cc nL own R0 rt nm ex) : va_K g.1 CL (tysG g) (Ks K) := X.2.2.2.2.2.1
theorem Fx.hlocks (X : Fx K g N0 cc nL own R0 rt nm ex) : (Kt K).locks = false := X.2.2.2.2.2.2.1
theorem Fx.hN (X : Fx K g N0 cc nL own R0 rt nm ex) : (∀ q, (Ks K).heap.size ≤ q → N0 q) := X.2.2.2.2.2.2.2.1
theorem Fx.hZ (X : Fx K g N0 cc nL own R0 rt nm ex) : TZ (Kl K) N0 (Ks K) (Ks K).heap := X.2.2.2.2.2.2.2.2.1
theorem Fx.hR (X : Fx K g N0 cc nL own R0 rt nm ex) : KR K = R0 := X.2.2.2.2.2.2.2.2.2.1
theorem Fx.hr (X : Fx K g N0 cc nL own R0 rt nm ex) : (Kt K).sig.returnType = rt := X.2.2.2.2.2.2.2.2.2.2.1
theorem Fx.hnm (X : Fx K g N0 cc nL own R0 rt nm ex) : (Kt K).name = nm := X.2.2.2.2.2.2.2.2.2.2.2.1
theorem Fx.hex (X : Fx K g N0 cc nL own R0 rt nm ex) : (Kc K).exceptionTable.toList = ex := X.2.2.2.2.2.2.2.2.2.2.2.2
theorem Fx.hA (X : Fx K g N0 cc nL own R0 rt nm ex) : ∀ q, (Ks K).heap.size ≤ q → AA N0 q := fun q hq => X.hN q hq
theorem V.widen {c2 s2 : Nat} (h1 : cells ≤ c2) (h2 : slots ≤ s2) (kk : V K g N0 nL Q h c2 s2 pc lv st) : V K g N0 nL Q h cells slots pc lv st := fun H locs ls hM hS hl => W.widen h1 h2 (kk H locs ls hM hS hl)
theorem V.forget {lv2 : List (Option Value)} (hs : ∀ (i : Nat) (v : Value), lv2[i]? = some (some v) → lv[i]? = some (some v)) (kk : V K g N0 nL Q h cells slots pc lv2 st) : V K g N0 nL Q h cells slots pc lv st := fun H locs ls hM hS hl => kk H locs ls hM hS ⟨hl.1, hl.2.1, fun i v hi => hl.2.2 i v (hs i v hi)⟩

theorem V_iconst (X : Fx K g N0 cc nL own R0 rt nm ex) {n : Int} {v : Int32} (d : decode cc pc = .ok (.iconst n, 1)) (hv : Int32.ofInt n = v) (kk : V K g N0 nL Q h cells slots (pc + 1) lv (.int v :: st)) : V K g N0 nL Q h cells slots pc lv st := fun H locs ls hM hS hl => lv_iconst X.hx X.hb d hv (kk H locs ls hM hS hl)
theorem V_bipush (X : Fx K g N0 cc nL own R0 rt nm ex) {n : Int} {v : Int32} (d : decode cc pc = .ok (.bipush n, 2)) (hv : (Int8.ofInt n).toInt32 = v) (kk : V K g N0 nL Q h cells slots (pc + 2) lv (.int v :: st)) : V K g N0 nL Q h cells slots pc lv st := fun H locs ls hM hS hl => lv_bipush X.hx X.hb d hv (kk H locs ls hM hS hl)
theorem V_sipush (X : Fx K g N0 cc nL own R0 rt nm ex) {n : Int} {v : Int32} (d : decode cc pc = .ok (.sipush n, 3)) (hv : (Int16.ofInt n).toInt32 = v) (kk : V K g N0 nL Q h cells slots (pc + 3) lv (.int v :: st)) : V K g N0 nL Q h cells slots pc lv st := fun H locs ls hM hS hl => lv_sipush X.hx X.hb d hv (kk H locs ls hM hS hl)
theorem V_lconst (X : Fx K g N0 cc nL own R0 rt nm ex) {n : Fin 2} {v : Int64} (d : decode cc pc = .ok (.lconst n, 1)) (hv : Int64.ofNat (n : Nat) = v) (kk : V K g N0 nL Q h cells slots (pc + 1) lv (.long v :: st)) : V K g N0 nL Q h cells slots pc lv st := fun H locs ls hM hS hl => lv_lconst X.hx X.hb d hv (kk H locs ls hM hS hl)
theorem V_ldc (X : Fx K g N0 cc nL own R0 rt nm ex) {idx : Nat} {v : Int32} (hc : Cond.constant own idx v ∈ TT) (d : decode cc pc = .ok (.ldc idx, 2)) (kk : V K g N0 nL Q h cells slots (pc + 2) lv (.int v :: st)) : V K g N0 nL Q h cells slots pc lv st := fun H locs ls hM hS hl => lv_ldc X.hx X.hb X.hown (X.hts _ hc) d (kk H locs ls hM hS hl)
theorem V_ldc2 (X : Fx K g N0 cc nL own R0 rt nm ex) {idx : Nat} {v : Int64} (hc : Cond.constantLong own idx v ∈ TT) (d : decode cc pc = .ok (.ldc2_w idx, 3)) (kk : V K g N0 nL Q h cells slots (pc + 3) lv (.long v :: st)) : V K g N0 nL Q h cells slots pc lv st := fun H locs ls hM hS hl => lv_ldc2 X.hx X.hb X.hown (X.hts _ hc) d (kk H locs ls hM hS hl)
theorem V_null (X : Fx K g N0 cc nL own R0 rt nm ex)  (d : decode cc pc = .ok (.aconst_null, 1)) (kk : V K g N0 nL Q h cells slots (pc + 1) lv (va_rf none :: st)) : V K g N0 nL Q h cells slots pc lv st := fun H locs ls hM hS hl => lv_null X.hx X.hb d (kk H locs ls hM hS hl)
theorem V_iadd (X : Fx K g N0 cc nL own R0 rt nm ex) {x y : Int32} (d : decode cc pc = .ok (.iadd, 1)) (kk : V K g N0 nL Q h cells slots (pc + 1) lv (.int (x + y) :: st)) : V K g N0 nL Q h cells slots pc lv (.int y :: .int x :: st) := fun H locs ls hM hS hl => lv_iadd X.hx X.hb d (kk H locs ls hM hS hl)
theorem V_isub (X : Fx K g N0 cc nL own R0 rt nm ex) {x y : Int32} (d : decode cc pc = .ok (.isub, 1)) (kk : V K g N0 nL Q h cells slots (pc + 1) lv (.int (x - y) :: st)) : V K g N0 nL Q h cells slots pc lv (.int y :: .int x :: st) := fun H locs ls hM hS hl => lv_isub X.hx X.hb d (kk H locs ls hM hS hl)
theorem V_imul (X : Fx K g N0 cc nL own R0 rt nm ex) {x y : Int32} (d : decode cc pc = .ok (.imul, 1)) (kk : V K g N0 nL Q h cells slots (pc + 1) lv (.int (x * y) :: st)) : V K g N0 nL Q h cells slots pc lv (.int y :: .int x :: st) := fun H locs ls hM hS hl => lv_imul X.hx X.hb d (kk H locs ls hM hS hl)
theorem V_iand (X : Fx K g N0 cc nL own R0 rt nm ex) {x y : Int32} (d : decode cc pc = .ok (.iand, 1)) (kk : V K g N0 nL Q h cells slots (pc + 1) lv (.int (x &&& y) :: st)) : V K g N0 nL Q h cells slots pc lv (.int y :: .int x :: st) := fun H locs ls hM hS hl => lv_iand X.hx X.hb d (kk H locs ls hM hS hl)
theorem V_ladd (X : Fx K g N0 cc nL own R0 rt nm ex) {x y : Int64} (d : decode cc pc = .ok (.ladd, 1)) (kk : V K g N0 nL Q h cells slots (pc + 1) lv (.long (x + y) :: st)) : V K g N0 nL Q h cells slots pc lv (.long y :: .long x :: st) := fun H locs ls hM hS hl => lv_ladd X.hx X.hb d (kk H locs ls hM hS hl)
theorem V_lsub (X : Fx K g N0 cc nL own R0 rt nm ex) {x y : Int64} (d : decode cc pc = .ok (.lsub, 1)) (kk : V K g N0 nL Q h cells slots (pc + 1) lv (.long (x - y) :: st)) : V K g N0 nL Q h cells slots pc lv (.long y :: .long x :: st) := fun H locs ls hM hS hl => lv_lsub X.hx X.hb d (kk H locs ls hM hS hl)
theorem V_i2l (X : Fx K g N0 cc nL own R0 rt nm ex) {x : Int32} (d : decode cc pc = .ok (.i2l, 1)) (kk : V K g N0 nL Q h cells slots (pc + 1) lv (.long x.toInt64 :: st)) : V K g N0 nL Q h cells slots pc lv (.int x :: st) := fun H locs ls hM hS hl => lv_i2l X.hx X.hb d rfl (kk H locs ls hM hS hl)
theorem V_l2i (X : Fx K g N0 cc nL own R0 rt nm ex) {x : Int64} (d : decode cc pc = .ok (.l2i, 1)) (kk : V K g N0 nL Q h cells slots (pc + 1) lv (.int x.toInt32 :: st)) : V K g N0 nL Q h cells slots pc lv (.long x :: st) := fun H locs ls hM hS hl => lv_l2i X.hx X.hb d rfl (kk H locs ls hM hS hl)
theorem V_lcmp (X : Fx K g N0 cc nL own R0 rt nm ex) {x y : Int64} (d : decode cc pc = .ok (.lcmp, 1)) (kk : V K g N0 nL Q h cells slots (pc + 1) lv (.int (lg_cmp x y) :: st)) : V K g N0 nL Q h cells slots pc lv (.long y :: .long x :: st) := fun H locs ls hM hS hl => W.lcmp X.hx X.hb d (kk H locs ls hM hS hl)
theorem V_dup (X : Fx K g N0 cc nL own R0 rt nm ex) {v : Value} (d : decode cc pc = .ok (.dup, 1)) (hv : v.category = 1) (kk : V K g N0 nL Q h cells slots (pc + 1) lv (v :: v :: st)) : V K g N0 nL Q h cells slots pc lv (v :: st) := fun H locs ls hM hS hl => lv_dup X.hx X.hb d hv (kk H locs ls hM hS hl)
theorem V_pop (X : Fx K g N0 cc nL own R0 rt nm ex) {v : Value} (d : decode cc pc = .ok (.pop, 1)) (hv : v.category = 1) (kk : V K g N0 nL Q h cells slots (pc + 1) lv st) : V K g N0 nL Q h cells slots pc lv (v :: st) := fun H locs ls hM hS hl => lv_pop X.hx X.hb d hv (kk H locs ls hM hS hl)
theorem V_dup2 (X : Fx K g N0 cc nL own R0 rt nm ex) {v w : Value} (d : decode cc pc = .ok (.dup2, 1)) (hv : v.category = 1) (hw : w.category = 1) (kk : V K g N0 nL Q h cells slots (pc + 1) lv (v :: w :: v :: w :: st)) : V K g N0 nL Q h cells slots pc lv (v :: w :: st) := fun H locs ls hM hS hl => lv_dup2_11 X.hx X.hb d hv hw (kk H locs ls hM hS hl)
theorem V_goto (X : Fx K g N0 cc nL own R0 rt nm ex) {off : Int} {tgt : Nat} (d : decode cc pc = .ok (.goto off, 3)) (ht : (pc : Int) + off = (tgt : Int)) (kk : V K g N0 nL Q h cells slots tgt lv st) : V K g N0 nL Q h cells slots pc lv st := fun H locs ls hM hS hl => lv_goto X.hx X.hb d ht (kk H locs ls hM hS hl)
theorem V_if_eq (X : Fx K g N0 cc nL own R0 rt nm ex) {x : Int32} {off : Int} {tgt : Nat} (d : decode cc pc = .ok (.ifCond .eq off, 3)) (ht : (pc : Int) + off = (tgt : Int)) (kt : x = 0 → V K g N0 nL Q h cells slots tgt lv st) (kf : ¬ x = 0 → V K g N0 nL Q h cells slots (pc + 3) lv st) : V K g N0 nL Q h cells slots pc lv (.int x :: st) := fun H locs ls hM hS hl => lv_if_eq X.hx X.hb d ht (fun z => kt z H locs ls hM hS hl) (fun z => kf z H locs ls hM hS hl)
theorem V_icmp_eq (X : Fx K g N0 cc nL own R0 rt nm ex) {x y : Int32} {off : Int} {tgt : Nat} (d : decode cc pc = .ok (.if_icmp .eq off, 3)) (ht : (pc : Int) + off = (tgt : Int)) (kt : x = y → V K g N0 nL Q h cells slots tgt lv st) (kf : ¬ x = y → V K g N0 nL Q h cells slots (pc + 3) lv st) : V K g N0 nL Q h cells slots pc lv (.int y :: .int x :: st) := fun H locs ls hM hS hl => lv_icmp_eq X.hx X.hb d ht (fun z => kt z H locs ls hM hS hl) (fun z => kf z H locs ls hM hS hl)
theorem V_if_ne (X : Fx K g N0 cc nL own R0 rt nm ex) {x : Int32} {off : Int} {tgt : Nat} (d : decode cc pc = .ok (.ifCond .ne off, 3)) (ht : (pc : Int) + off = (tgt : Int)) (kt : ¬ x = 0 → V K g N0 nL Q h cells slots tgt lv st) (kf : x = 0 → V K g N0 nL Q h cells slots (pc + 3) lv st) : V K g N0 nL Q h cells slots pc lv (.int x :: st) := fun H locs ls hM hS hl => lv_if_ne X.hx X.hb d ht (fun z => kt z H locs ls hM hS hl) (fun z => kf z H locs ls hM hS hl)
theorem V_icmp_ne (X : Fx K g N0 cc nL own R0 rt nm ex) {x y : Int32} {off : Int} {tgt : Nat} (d : decode cc pc = .ok (.if_icmp .ne off, 3)) (ht : (pc : Int) + off = (tgt : Int)) (kt : ¬ x = y → V K g N0 nL Q h cells slots tgt lv st) (kf : x = y → V K g N0 nL Q h cells slots (pc + 3) lv st) : V K g N0 nL Q h cells slots pc lv (.int y :: .int x :: st) := fun H locs ls hM hS hl => lv_icmp_ne X.hx X.hb d ht (fun z => kt z H locs ls hM hS hl) (fun z => kf z H locs ls hM hS hl)
theorem V_if_lt (X : Fx K g N0 cc nL own R0 rt nm ex) {x : Int32} {off : Int} {tgt : Nat} (d : decode cc pc = .ok (.ifCond .lt off, 3)) (ht : (pc : Int) + off = (tgt : Int)) (kt : x < 0 → V K g N0 nL Q h cells slots tgt lv st) (kf : ¬ x < 0 → V K g N0 nL Q h cells slots (pc + 3) lv st) : V K g N0 nL Q h cells slots pc lv (.int x :: st) := fun H locs ls hM hS hl => lv_if_lt X.hx X.hb d ht (fun z => kt z H locs ls hM hS hl) (fun z => kf z H locs ls hM hS hl)
theorem V_icmp_lt (X : Fx K g N0 cc nL own R0 rt nm ex) {x y : Int32} {off : Int} {tgt : Nat} (d : decode cc pc = .ok (.if_icmp .lt off, 3)) (ht : (pc : Int) + off = (tgt : Int)) (kt : x < y → V K g N0 nL Q h cells slots tgt lv st) (kf : ¬ x < y → V K g N0 nL Q h cells slots (pc + 3) lv st) : V K g N0 nL Q h cells slots pc lv (.int y :: .int x :: st) := fun H locs ls hM hS hl => lv_icmp_lt X.hx X.hb d ht (fun z => kt z H locs ls hM hS hl) (fun z => kf z H locs ls hM hS hl)
theorem V_if_ge (X : Fx K g N0 cc nL own R0 rt nm ex) {x : Int32} {off : Int} {tgt : Nat} (d : decode cc pc = .ok (.ifCond .ge off, 3)) (ht : (pc : Int) + off = (tgt : Int)) (kt : 0 ≤ x → V K g N0 nL Q h cells slots tgt lv st) (kf : ¬ 0 ≤ x → V K g N0 nL Q h cells slots (pc + 3) lv st) : V K g N0 nL Q h cells slots pc lv (.int x :: st) := fun H locs ls hM hS hl => lv_if_ge X.hx X.hb d ht (fun z => kt z H locs ls hM hS hl) (fun z => kf z H locs ls hM hS hl)
theorem V_icmp_ge (X : Fx K g N0 cc nL own R0 rt nm ex) {x y : Int32} {off : Int} {tgt : Nat} (d : decode cc pc = .ok (.if_icmp .ge off, 3)) (ht : (pc : Int) + off = (tgt : Int)) (kt : y ≤ x → V K g N0 nL Q h cells slots tgt lv st) (kf : ¬ y ≤ x → V K g N0 nL Q h cells slots (pc + 3) lv st) : V K g N0 nL Q h cells slots pc lv (.int y :: .int x :: st) := fun H locs ls hM hS hl => lv_icmp_ge X.hx X.hb d ht (fun z => kt z H locs ls hM hS hl) (fun z => kf z H locs ls hM hS hl)
theorem V_if_gt (X : Fx K g N0 cc nL own R0 rt nm ex) {x : Int32} {off : Int} {tgt : Nat} (d : decode cc pc = .ok (.ifCond .gt off, 3)) (ht : (pc : Int) + off = (tgt : Int)) (kt : 0 < x → V K g N0 nL Q h cells slots tgt lv st) (kf : ¬ 0 < x → V K g N0 nL Q h cells slots (pc + 3) lv st) : V K g N0 nL Q h cells slots pc lv (.int x :: st) := fun H locs ls hM hS hl => lv_if_gt X.hx X.hb d ht (fun z => kt z H locs ls hM hS hl) (fun z => kf z H locs ls hM hS hl)
theorem V_icmp_gt (X : Fx K g N0 cc nL own R0 rt nm ex) {x y : Int32} {off : Int} {tgt : Nat} (d : decode cc pc = .ok (.if_icmp .gt off, 3)) (ht : (pc : Int) + off = (tgt : Int)) (kt : y < x → V K g N0 nL Q h cells slots tgt lv st) (kf : ¬ y < x → V K g N0 nL Q h cells slots (pc + 3) lv st) : V K g N0 nL Q h cells slots pc lv (.int y :: .int x :: st) := fun H locs ls hM hS hl => lv_icmp_gt X.hx X.hb d ht (fun z => kt z H locs ls hM hS hl) (fun z => kf z H locs ls hM hS hl)
theorem V_if_le (X : Fx K g N0 cc nL own R0 rt nm ex) {x : Int32} {off : Int} {tgt : Nat} (d : decode cc pc = .ok (.ifCond .le off, 3)) (ht : (pc : Int) + off = (tgt : Int)) (kt : x ≤ 0 → V K g N0 nL Q h cells slots tgt lv st) (kf : ¬ x ≤ 0 → V K g N0 nL Q h cells slots (pc + 3) lv st) : V K g N0 nL Q h cells slots pc lv (.int x :: st) := fun H locs ls hM hS hl => lv_if_le X.hx X.hb d ht (fun z => kt z H locs ls hM hS hl) (fun z => kf z H locs ls hM hS hl)
theorem V_icmp_le (X : Fx K g N0 cc nL own R0 rt nm ex) {x y : Int32} {off : Int} {tgt : Nat} (d : decode cc pc = .ok (.if_icmp .le off, 3)) (ht : (pc : Int) + off = (tgt : Int)) (kt : x ≤ y → V K g N0 nL Q h cells slots tgt lv st) (kf : ¬ x ≤ y → V K g N0 nL Q h cells slots (pc + 3) lv st) : V K g N0 nL Q h cells slots pc lv (.int y :: .int x :: st) := fun H locs ls hM hS hl => lv_icmp_le X.hx X.hb d ht (fun z => kt z H locs ls hM hS hl) (fun z => kf z H locs ls hM hS hl)
theorem V_acmp_eq (X : Fx K g N0 cc nL own R0 rt nm ex) {rx ry : Option Nat} {off : Int} {tgt : Nat} (d : decode cc pc = .ok (.if_acmp .eq off, 3)) (ht : (pc : Int) + off = (tgt : Int)) (kt : rx = ry → V K g N0 nL Q h cells slots tgt lv st) (kf : ¬ rx = ry → V K g N0 nL Q h cells slots (pc + 3) lv st) : V K g N0 nL Q h cells slots pc lv (va_rf ry :: va_rf rx :: st) := fun H locs ls hM hS hl => lv_acmp_eq X.hx X.hb d ht (fun z => kt z H locs ls hM hS hl) (fun z => kf z H locs ls hM hS hl)
theorem V_acmp_ne (X : Fx K g N0 cc nL own R0 rt nm ex) {rx ry : Option Nat} {off : Int} {tgt : Nat} (d : decode cc pc = .ok (.if_acmp .ne off, 3)) (ht : (pc : Int) + off = (tgt : Int)) (kt : ¬ rx = ry → V K g N0 nL Q h cells slots tgt lv st) (kf : rx = ry → V K g N0 nL Q h cells slots (pc + 3) lv st) : V K g N0 nL Q h cells slots pc lv (va_rf ry :: va_rf rx :: st) := fun H locs ls hM hS hl => lv_acmp_ne X.hx X.hb d ht (fun z => kt z H locs ls hM hS hl) (fun z => kf z H locs ls hM hS hl)
theorem V_ifnull (X : Fx K g N0 cc nL own R0 rt nm ex) {r : Option Nat} {off : Int} {tgt : Nat} (d : decode cc pc = .ok (.ifnull off, 3)) (ht : (pc : Int) + off = (tgt : Int)) (kn : r = none → V K g N0 nL Q h cells slots tgt lv st) (ks : ∀ a, r = some a → V K g N0 nL Q h cells slots (pc + 3) lv st) : V K g N0 nL Q h cells slots pc lv (va_rf r :: st) := by
  intro H locs ls hM hS hl
  cases r with
  | none => exact lv_ifnullN X.hx X.hb d ht (kn rfl H locs ls hM hS hl)
  | some a => exact lv_ifnull X.hx X.hb d (ks a rfl H locs ls hM hS hl)
theorem V_ifnonnull (X : Fx K g N0 cc nL own R0 rt nm ex) {r : Option Nat} {off : Int} {tgt : Nat} (d : decode cc pc = .ok (.ifnonnull off, 3)) (ht : (pc : Int) + off = (tgt : Int)) (ks : ∀ a, r = some a → V K g N0 nL Q h cells slots tgt lv st) (kn : r = none → V K g N0 nL Q h cells slots (pc + 3) lv st) : V K g N0 nL Q h cells slots pc lv (va_rf r :: st) := by
  intro H locs ls hM hS hl
  cases r with
  | none => exact lv_ifnonnullN X.hx X.hb d (kn rfl H locs ls hM hS hl)
  | some a => exact lv_ifnonnull X.hx X.hb d ht (ks a rfl H locs ls hM hS hl)
theorem V_iload_n (X : Fx K g N0 cc nL own R0 rt nm ex) {k : Fin 4} {x : Int32} (d : decode cc pc = .ok (.iload_n k, 1)) (hl0 : lv[(k : Nat)]? = some (some (.int x))) (kk : V K g N0 nL Q h cells slots (pc + 1) lv (.int x :: st)) : V K g N0 nL Q h cells slots pc lv st := fun H locs ls hM hS hl => lv_iload_n X.hx X.hb d rfl (hl.2.2 _ _ hl0) (kk H locs ls hM hS hl)
theorem V_iload (X : Fx K g N0 cc nL own R0 rt nm ex) {k : Nat} {x : Int32} (d : decode cc pc = .ok (.iload k, 2)) (hl0 : lv[k]? = some (some (.int x))) (kk : V K g N0 nL Q h cells slots (pc + 2) lv (.int x :: st)) : V K g N0 nL Q h cells slots pc lv st := fun H locs ls hM hS hl => lv_iload X.hx X.hb d (hl.2.2 _ _ hl0) (kk H locs ls hM hS hl)
theorem V_lload_n (X : Fx K g N0 cc nL own R0 rt nm ex) {k : Fin 4} {x : Int64} (d : decode cc pc = .ok (.lload_n k, 1)) (hl0 : lv[(k : Nat)]? = some (some (.long x))) (kk : V K g N0 nL Q h cells slots (pc + 1) lv (.long x :: st)) : V K g N0 nL Q h cells slots pc lv st := fun H locs ls hM hS hl => lv_lload_n X.hx X.hb d rfl (hl.2.2 _ _ hl0) (kk H locs ls hM hS hl)
theorem V_lload (X : Fx K g N0 cc nL own R0 rt nm ex) {k : Nat} {x : Int64} (d : decode cc pc = .ok (.lload k, 2)) (hl0 : lv[k]? = some (some (.long x))) (kk : V K g N0 nL Q h cells slots (pc + 2) lv (.long x :: st)) : V K g N0 nL Q h cells slots pc lv st := fun H locs ls hM hS hl => lv_lload X.hx X.hb d (hl.2.2 _ _ hl0) (kk H locs ls hM hS hl)
theorem V_aload_n (X : Fx K g N0 cc nL own R0 rt nm ex) {k : Fin 4} {r : Option Nat} (d : decode cc pc = .ok (.aload_n k, 1)) (hl0 : lv[(k : Nat)]? = some (some (va_rf r))) (kk : V K g N0 nL Q h cells slots (pc + 1) lv (va_rf r :: st)) : V K g N0 nL Q h cells slots pc lv st := by
  intro H locs ls hM hS hl
  cases r with
  | none => exact lv_aload_nN X.hx X.hb d rfl (hl.2.2 _ _ hl0) (kk H locs ls hM hS hl)
  | some a => exact lv_aload_n X.hx X.hb d rfl (hl.2.2 _ _ hl0) (kk H locs ls hM hS hl)
theorem V_aload (X : Fx K g N0 cc nL own R0 rt nm ex) {k : Nat} {r : Option Nat} (d : decode cc pc = .ok (.aload k, 2)) (hl0 : lv[k]? = some (some (va_rf r))) (kk : V K g N0 nL Q h cells slots (pc + 2) lv (va_rf r :: st)) : V K g N0 nL Q h cells slots pc lv st := by
  intro H locs ls hM hS hl
  cases r with
  | none => exact lv_aloadN X.hx X.hb d (hl.2.2 _ _ hl0) (kk H locs ls hM hS hl)
  | some a => exact lv_aload X.hx X.hb d (hl.2.2 _ _ hl0) (kk H locs ls hM hS hl)
theorem V_istore_n (X : Fx K g N0 cc nL own R0 rt nm ex) {k : Fin 4} {x : Int32} (d : decode cc pc = .ok (.istore_n k, 1)) (hi : (k : Nat) < lv.length) (hlen : lv.length = nL) (ho : lvOK lv (k : Nat)) (kk : V K g N0 nL Q h cells slots (pc + 1) (lv.set (k : Nat) (some (.int x))) st) : V K g N0 nL Q h cells slots pc lv (.int x :: st) := fun H locs ls hM hS hl => lv_istore_n X.hx X.hb d rfl (lH_has hl) (by rw [← hlen]; exact hi) rfl (fun ls1 hl1 => kk H locs ls1 hM hS (lH_st1 hi ho hl1))
theorem V_lstore_n (X : Fx K g N0 cc nL own R0 rt nm ex) {k : Fin 4} {x : Int64} (d : decode cc pc = .ok (.lstore_n k, 1)) (hi : (k : Nat) + 1 < lv.length) (hlen : lv.length = nL) (ho : lvOK lv (k : Nat)) (kk : V K g N0 nL Q h cells slots (pc + 1) ((lv.set (k : Nat) (some (.long x))).set ((k : Nat) + 1) none) st) : V K g N0 nL Q h cells slots pc lv (.long x :: st) := fun H locs ls hM hS hl => lv_lstore_n X.hx X.hb d rfl (lH_has hl) (by rw [← hlen]; exact hi) rfl (fun ls1 hl1 => kk H locs ls1 hM hS (lH_st2 hi ho hl1))
theorem V_astore_n (X : Fx K g N0 cc nL own R0 rt nm ex) {k : Fin 4} {r : Option Nat} (d : decode cc pc = .ok (.astore_n k, 1)) (hi : (k : Nat) < lv.length) (hlen : lv.length = nL) (ho : lvOK lv (k : Nat)) (kk : V K g N0 nL Q h cells slots (pc + 1) (lv.set (k : Nat) (some (va_rf r))) st) : V K g N0 nL Q h cells slots pc lv (va_rf r :: st) := by
  intro H locs ls hM hS hl
  cases r with
  | none => exact lv_astore_nN X.hx X.hb d rfl (lH_has hl) (by rw [← hlen]; exact hi) rfl (fun ls1 hl1 => kk H locs ls1 hM hS (lH_st1 hi ho hl1))
  | some a => exact lv_astore_n X.hx X.hb d rfl (lH_has hl) (by rw [← hlen]; exact hi) rfl (fun ls1 hl1 => kk H locs ls1 hM hS (lH_st1 hi ho hl1))
theorem V_istore (X : Fx K g N0 cc nL own R0 rt nm ex) {k : Nat} {x : Int32} (d : decode cc pc = .ok (.istore k, 2)) (hi : k < lv.length) (hlen : lv.length = nL) (ho : lvOK lv k) (kk : V K g N0 nL Q h cells slots (pc + 2) (lv.set k (some (.int x))) st) : V K g N0 nL Q h cells slots pc lv (.int x :: st) := fun H locs ls hM hS hl => lv_istore X.hx X.hb d (lH_has hl) (by rw [← hlen]; exact hi) rfl (fun ls1 hl1 => kk H locs ls1 hM hS (lH_st1 hi ho hl1))
theorem V_lstore (X : Fx K g N0 cc nL own R0 rt nm ex) {k : Nat} {x : Int64} (d : decode cc pc = .ok (.lstore k, 2)) (hi : k + 1 < lv.length) (hlen : lv.length = nL) (ho : lvOK lv k) (kk : V K g N0 nL Q h cells slots (pc + 2) ((lv.set k (some (.long x))).set (k + 1) none) st) : V K g N0 nL Q h cells slots pc lv (.long x :: st) := fun H locs ls hM hS hl => lv_lstore X.hx X.hb d (lH_has hl) (by rw [← hlen]; exact hi) rfl (fun ls1 hl1 => kk H locs ls1 hM hS (lH_st2 hi ho hl1))
theorem V_astore (X : Fx K g N0 cc nL own R0 rt nm ex) {k : Nat} {r : Option Nat} (d : decode cc pc = .ok (.astore k, 2)) (hi : k < lv.length) (hlen : lv.length = nL) (ho : lvOK lv k) (kk : V K g N0 nL Q h cells slots (pc + 2) (lv.set k (some (va_rf r))) st) : V K g N0 nL Q h cells slots pc lv (va_rf r :: st) := by
  intro H locs ls hM hS hl
  cases r with
  | none => exact lv_astoreN X.hx X.hb d (lH_has hl) (by rw [← hlen]; exact hi) rfl (fun ls1 hl1 => kk H locs ls1 hM hS (lH_st1 hi ho hl1))
  | some a => exact lv_astore X.hx X.hb d (lH_has hl) (by rw [← hlen]; exact hi) rfl (fun ls1 hl1 => kk H locs ls1 hM hS (lH_st1 hi ho hl1))
theorem V_iinc (X : Fx K g N0 cc nL own R0 rt nm ex) {k : Nat} {n : Int} {x v : Int32} (d : decode cc pc = .ok (.iinc k n, 3)) (hl0 : lv[k]? = some (some (.int x))) (hv : x + Int32.ofInt n = v) (hlen : lv.length = nL) (ho : lvOK lv k) (kk : V K g N0 nL Q h cells slots (pc + 3) (lv.set k (some (.int v))) st) : V K g N0 nL Q h cells slots pc lv st := by
  intro H locs ls hM hS hl
  have hi : k < lv.length := (List.getElem?_eq_some_iff.mp hl0).1
  have hm : (k, Value.int x) ∈ toL 0 lv := (toL_mem lv 0 k _).mpr ⟨k, by omega, hl0⟩
  obtain ⟨j, hj⟩ := List.getElem?_of_mem hm
  exact lv_iinc X.hx X.hb d (lH_has hl) hj hv (by rw [← hlen]; exact hi) rfl (fun ls1 hl1 => kk H locs ls1 hM hS (lH_st1 hi ho hl1))
theorem V_get (X : Fx K g N0 cc nL own R0 rt nm ex) {ref C : String} {T : u_T} {N ci idx a : Nat} (hin : ∀ w ∈ u_ws C T N, w ∈ TT) (hc : CL[ci]? = some (C, T, N)) (k : Nat) (hk : k < N) (href : (T k).1 = ref) (hlink : Cond.fieldLink own idx ref (T k).2.1 (T k).2.2.1 ∈ TT) {fs : List Value} (he : h a = some (.inr (ci, fs))) {v : Value} (hv : fs[k]? = some v) (d : decode cc pc = .ok (.getfield idx, 3)) (kk : V K g N0 nL Q h cells slots (pc + 3) lv (v :: st)) : V K g N0 nL Q h cells slots pc lv (va_rf (some a) :: st) := by
  intro H locs ls hM hS hl
  obtain ⟨ws, q0, hP, hD, -, hq⟩ := mW_at hM he
  exact va_get X.hx X.hb X.hts hin X.hown X.hK hP q0 hq hc k hk (X.hts _ hlink) (fun x hx => by rw [← href]; exact hx) hv d (kk H locs ls hM hS hl)
theorem V_put (X : Fx K g N0 cc nL own R0 rt nm ex) {ref C : String} {T : u_T} {N ci idx a : Nat} (hin : ∀ w ∈ u_ws C T N, w ∈ TT) (ty0 : Nat → FieldType) (hty : ∀ k, k < N → parseFieldDescriptor (T k).2.2.1 = some (ty0 k)) (hnn : ∀ a, a < N → ∀ b, b < N → a ≠ b → (T a).2.1 ≠ (T b).2.1) (hc : CL[ci]? = some (C, T, N)) (k : Nat) (hk : k < N) (href : (T k).1 = ref) (hlink : Cond.fieldLink own idx ref (T k).2.1 (T k).2.2.1 ∈ TT) (hfin : (T k).2.2.2 = false) {v : Value} (hn : narrow (ty0 k) v = v) (hfit : fits (ty0 k) v = true) {fs : List Value} (he : h a = some (.inr (ci, fs))) (hlf : k < fs.length) (d : decode cc pc = .ok (.putfield idx, 3)) (kk : V K g N0 nL Q (mUp h a (.inr (ci, fs.set k v))) cells slots (pc + 3) lv st) : V K g N0 nL Q h cells slots pc lv (v :: va_rf (some a) :: st) := by
  intro H locs ls hM hS hl
  obtain ⟨ws, q0, hP, hD, h3, hq⟩ := mW_at hM he
  exact va_put X.hx X.hb X.hts hin ty0 hty hnn X.hown X.hK hP hD hS q0 hq hc k hk (X.hts _ hlink) (fun x hx => by rw [← href]; exact hx) hfin (hty k hk) hn hfit hlf d (fun H1 locs1 hP1 hD1 hS1 => kk H1 locs1 ls (mW_set h3 hD hq hP1 hD1) hS1 hl)
theorem V_putF (X : Fx K g N0 cc nL own R0 rt nm ex) {ref C : String} {T : u_T} {N ci idx a : Nat} (hin : ∀ w ∈ u_ws C T N, w ∈ TT) (ty0 : Nat → FieldType) (hty : ∀ k, k < N → parseFieldDescriptor (T k).2.2.1 = some (ty0 k)) (hnn : ∀ a, a < N → ∀ b, b < N → a ≠ b → (T a).2.1 ≠ (T b).2.1) (hc : CL[ci]? = some (C, T, N)) (k : Nat) (hk : k < N) (href : (T k).1 = ref) (hlink : Cond.fieldLink own idx ref (T k).2.1 (T k).2.2.1 ∈ TT) (hfin : (T k).2.2.2 = true) (hnm : nm = "<init>") (hdecl : (T k).1 = own) {v : Value} (hn : narrow (ty0 k) v = v) (hfit : fits (ty0 k) v = true) {fs : List Value} (he : h a = some (.inr (ci, fs))) (hlf : k < fs.length) (d : decode cc pc = .ok (.putfield idx, 3)) (kk : V K g N0 nL Q (mUp h a (.inr (ci, fs.set k v))) cells slots (pc + 3) lv st) : V K g N0 nL Q h cells slots pc lv (v :: va_rf (some a) :: st) := by
  intro H locs ls hM hS hl
  obtain ⟨ws, q0, hP, hD, h3, hq⟩ := mW_at hM he
  exact va_putF X.hx X.hb X.hts hin ty0 hty hnn X.hown X.hK hP hD hS q0 hq hc k hk (X.hts _ hlink) (fun x hx => by rw [← href]; exact hx) hfin (by rw [X.hnm]; exact hnm) hdecl (hty k hk) hn hfit hlf d (fun H1 locs1 hP1 hD1 hS1 => kk H1 locs1 ls (mW_set h3 hD hq hP1 hD1) hS1 hl)
theorem V_new (X : Fx K g N0 cc nL own R0 rt nm ex) {C : String} {T : u_T} {N ci idx : Nat} (hin : ∀ w ∈ u_ws C T N, w ∈ TT) (ty0 : Nat → FieldType) (hty : ∀ k, k < N → parseFieldDescriptor (T k).2.2.1 = some (ty0 k)) (hcl : Cond.classLink own idx C ∈ TT) (hinst : Cond.instantiable C N ∈ TT) (hini : Cond.initialized C ∈ TT) (hc : CL[ci]? = some (C, T, N)) {fs : List Value} (hfs : ∀ j, j < N → defaultValue (ty0 j) = vp_V fs j) (hcells : cells + 1 ≤ R0.cells) (hslots : slots + N ≤ R0.slots) (d : decode cc pc = .ok (.new idx, 3)) (kk : ∀ q, h q = none → V K g N0 nL Q (mUp h q (.inr (ci, fs))) (cells + 1) (slots + N) (pc + 3) lv (va_rf (some q) :: st)) : V K g N0 nL Q h cells slots pc lv st := by
  intro H locs ls hM hS hl
  obtain ⟨ws, hP, hD, h3⟩ := hM
  exact va_new X.hx X.hb X.hts hin ty0 hty X.hown (X.hts _ hcl) (X.hts _ hinst) (X.hts _ hini) X.hK hP hD hS X.hA hc hfs (by rw [X.hR]; exact hcells) (by rw [X.hR]; exact hslots) d (fun q H1 hP1 hD1 hS1 => kk q (mW_push h3 hP1 hD1).1 H1 locs ls (mW_push h3 hP1 hD1).2 hS1 hl)
theorem V_objInit (X : Fx K g N0 cc nL own R0 rt nm ex) {idx a : Nat} (h1 : Cond.methodLink own idx Lib.objectInit ∈ TT) (h2 : Cond.instanceMethod Lib.objectInit ∈ TT) (h3 : Cond.code Lib.objectInit ⟨#[0xb1]⟩ 1 none ∈ TT) (d : decode cc pc = .ok (.invokespecial idx, 3)) (hfr : 1 ≤ R0.frames) (hlo : (st.map fun v => v.category).sum + 12 ≤ R0.locals) (kk : V K g N0 nL Q h cells slots (pc + 3) lv st) : V K g N0 nL Q h cells slots pc lv (va_rf (some a) :: st) := by
  intro H locs ls hM hS hl
  exact W.objInit X.hx X.hb X.hown (X.hts _ h1) (X.hts _ h2) (X.hts _ h3) rfl (by rw [X.hml]; exact hl.1) rfl d (by rw [X.hR]; exact hfr) (by rw [X.hR]; show 2 * 0 + _ + 12 ≤ _; omega) (kk H locs ls hM hS hl)
theorem V_iald (X : Fx K g N0 cc nL own R0 rt nm ex) {a n j : Nat} {i : Int32} {f : Nat → Int32} (he : h a = some (.inl (g.2 0, n, .inl f))) (hi : i = nI j) (hj : j < n) (hn : n < 2 ^ 31) (d : decode cc pc = .ok (.iaload, 1)) (kk : V K g N0 nL Q h cells slots (pc + 1) lv (.int (f j) :: st)) : V K g N0 nL Q h cells slots pc lv (.int i :: va_rf (some a) :: st) := by
  intro H locs ls hM hS hl
  obtain ⟨ws, q0, hP, hD, -, hq⟩ := mW_at hM he
  subst hi
  have hc : (nI j).toNatClampNeg = j := nI_clamp (by omega)
  have h0 := kk H locs ls hM hS hl
  rw [← hc] at h0
  exact va_iald X.hx X.hb X.hK hP q0 0 hq rfl (vp_in_nI hj hn) d h0
theorem V_zald (X : Fx K g N0 cc nL own R0 rt nm ex) {a n j : Nat} {i : Int32} {f : Nat → Int32} (he : h a = some (.inl (g.2 2, n, .inl f))) (hi : i = nI j) (hj : j < n) (hn : n < 2 ^ 31) (d : decode cc pc = .ok (.baload, 1)) (kk : V K g N0 nL Q h cells slots (pc + 1) lv (.int (f j) :: st)) : V K g N0 nL Q h cells slots pc lv (.int i :: va_rf (some a) :: st) := by
  intro H locs ls hM hS hl
  obtain ⟨ws, q0, hP, hD, -, hq⟩ := mW_at hM he
  subst hi
  have hc : (nI j).toNatClampNeg = j := nI_clamp (by omega)
  have h0 := kk H locs ls hM hS hl
  rw [← hc] at h0
  exact va_zald X.hx X.hb X.hK hP q0 2 hq rfl (vp_in_nI hj hn) d h0
theorem V_lald (X : Fx K g N0 cc nL own R0 rt nm ex) {a n j : Nat} {i : Int32} {f : Nat → Int64} (he : h a = some (.inl (g.2 1, n, .inr (.inl f)))) (hi : i = nI j) (hj : j < n) (hn : n < 2 ^ 31) (d : decode cc pc = .ok (.laload, 1)) (kk : V K g N0 nL Q h cells slots (pc + 1) lv (.long (f j) :: st)) : V K g N0 nL Q h cells slots pc lv (.int i :: va_rf (some a) :: st) := by
  intro H locs ls hM hS hl
  obtain ⟨ws, q0, hP, hD, -, hq⟩ := mW_at hM he
  subst hi
  have hc : (nI j).toNatClampNeg = j := nI_clamp (by omega)
  have h0 := kk H locs ls hM hS hl
  rw [← hc] at h0
  exact va_lald X.hx X.hb X.hK hP q0 1 hq rfl (vp_in_nI hj hn) d h0
theorem V_aald (X : Fx K g N0 cc nL own R0 rt nm ex) {a n j : Nat} {i : Int32} {f : Nat → Option Nat} (he : h a = some (.inl (g.2 3, n, .inr (.inr (.inr (.inr f)))))) (hi : i = nI j) (hj : j < n) (hn : n < 2 ^ 31) (d : decode cc pc = .ok (.aaload, 1)) (kk : V K g N0 nL Q h cells slots (pc + 1) lv (va_rf (f j) :: st)) : V K g N0 nL Q h cells slots pc lv (.int i :: va_rf (some a) :: st) := by
  intro H locs ls hM hS hl
  obtain ⟨ws, q0, hP, hD, -, hq⟩ := mW_at hM he
  subst hi
  have hc : (nI j).toNatClampNeg = j := nI_clamp (by omega)
  have h0 := kk H locs ls hM hS hl
  rw [← hc] at h0
  exact va_aldq X.hx X.hb X.hK hP q0 3 hq rfl (vp_in_nI hj hn) d h0
theorem V_iast (X : Fx K g N0 cc nL own R0 rt nm ex) {a n j : Nat} {i : Int32} {x : Int32} {f : Nat → Int32} (he : h a = some (.inl (g.2 0, n, .inl f))) (hi : i = nI j) (hj : j < n) (hn : n < 2 ^ 31)  (d : decode cc pc = .ok (.iastore, 1)) (kk : V K g N0 nL Q (mUp h a (.inl (g.2 0, n, .inl (upd f j x)))) cells slots (pc + 1) lv st) : V K g N0 nL Q h cells slots pc lv (.int x :: .int i :: va_rf (some a) :: st) := by
  intro H locs ls hM hS hl
  obtain ⟨ws, q0, hP, hD, h3, hq⟩ := mW_at hM he
  subst hi
  have hc : (nI j).toNatClampNeg = j := nI_clamp (by omega)
  rw [← hc] at kk
  refine va_iast X.hx X.hb X.hK hP hD hS q0 0 hq rfl (vp_in_nI hj hn) d (fun H1 locs1 hP1 hD1 hS1 => ?_)
  exact kk H1 locs1 ls (mW_set h3 hD hq hP1 hD1) hS1 hl
theorem V_zast (X : Fx K g N0 cc nL own R0 rt nm ex) {a n j : Nat} {i : Int32} {x : Int32} {f : Nat → Int32} (he : h a = some (.inl (g.2 2, n, .inl f))) (hi : i = nI j) (hj : j < n) (hn : n < 2 ^ 31) (hx : vp_nar .boolean x = x) (d : decode cc pc = .ok (.bastore, 1)) (kk : V K g N0 nL Q (mUp h a (.inl (g.2 2, n, .inl (upd f j x)))) cells slots (pc + 1) lv st) : V K g N0 nL Q h cells slots pc lv (.int x :: .int i :: va_rf (some a) :: st) := by
  intro H locs ls hM hS hl
  obtain ⟨ws, q0, hP, hD, h3, hq⟩ := mW_at hM he
  subst hi
  have hc : (nI j).toNatClampNeg = j := nI_clamp (by omega)
  rw [← hc] at kk
  refine va_zast X.hx X.hb X.hK hP hD hS q0 2 hq rfl (vp_in_nI hj hn) d (fun H1 locs1 hP1 hD1 hS1 => ?_)
  rw [hx] at hP1 hD1
  exact kk H1 locs1 ls (mW_set h3 hD hq hP1 hD1) hS1 hl
theorem V_last (X : Fx K g N0 cc nL own R0 rt nm ex) {a n j : Nat} {i : Int32} {x : Int64} {f : Nat → Int64} (he : h a = some (.inl (g.2 1, n, .inr (.inl f)))) (hi : i = nI j) (hj : j < n) (hn : n < 2 ^ 31)  (d : decode cc pc = .ok (.lastore, 1)) (kk : V K g N0 nL Q (mUp h a (.inl (g.2 1, n, .inr (.inl (vp_updL f j x))))) cells slots (pc + 1) lv st) : V K g N0 nL Q h cells slots pc lv (.long x :: .int i :: va_rf (some a) :: st) := by
  intro H locs ls hM hS hl
  obtain ⟨ws, q0, hP, hD, h3, hq⟩ := mW_at hM he
  subst hi
  have hc : (nI j).toNatClampNeg = j := nI_clamp (by omega)
  rw [← hc] at kk
  refine va_last X.hx X.hb X.hK hP hD hS q0 1 hq rfl (vp_in_nI hj hn) d (fun H1 locs1 hP1 hD1 hS1 => ?_)
  exact kk H1 locs1 ls (mW_set h3 hD hq hP1 hD1) hS1 hl
theorem V_aast (X : Fx K g N0 cc nL own R0 rt nm ex) {a n j v : Nat} {i : Int32} {vs : List Value} {f : Nat → Option Nat} (he : h a = some (.inl (g.2 3, n, .inr (.inr (.inr (.inr f)))))) (hv : h v = some (.inr (3, vs))) (hi : i = nI j) (hj : j < n) (hn : n < 2 ^ 31) (d : decode cc pc = .ok (.aastore, 1)) (kk : V K g N0 nL Q (mUp h a (.inl (g.2 3, n, .inr (.inr (.inr (.inr (va_up f j (some v)))))))) cells slots (pc + 1) lv st) : V K g N0 nL Q h cells slots pc lv (va_rf (some v) :: .int i :: va_rf (some a) :: st) := by
  intro H locs ls hM hS hl
  obtain ⟨ws, q0, hP, hD, h3, hq⟩ := mW_at hM he
  obtain ⟨qk, hqk⟩ := List.getElem?_of_mem ((h3 v _).mp hv)
  subst hi
  have hc : (nI j).toNatClampNeg = j := nI_clamp (by omega)
  rw [← hc] at kk
  exact va_astq X.hx X.hb X.hK hP hD hS q0 3 qk 3 (r := (R_Tx, F_Tx, 8)) hq rfl hqk rfl (vp_in_nI hj hn) d (fun H1 locs1 hP1 hD1 hS1 => kk H1 locs1 ls (mW_set h3 hD hq hP1 hD1) hS1 hl)
theorem V_alen (X : Fx K g N0 cc nL own R0 rt nm ex) {a : Nat} {x : vp_A} (t0 : Nat) {ty : FieldType} (he : h a = some (.inl (g.2 t0, x))) (ht : (tysG g)[t0]? = some (g.2 t0, ty)) (d : decode cc pc = .ok (.arraylength, 1)) (kk : V K g N0 nL Q h cells slots (pc + 1) lv (.int (nI x.1) :: st)) : V K g N0 nL Q h cells slots pc lv (va_rf (some a) :: st) := by
  intro H locs ls hM hS hl
  obtain ⟨ws, q0, hP, hD, -, hq⟩ := mW_at hM he
  exact va_alen X.hx X.hb X.hK hP q0 t0 hq ht rfl d (kk H locs ls hM hS hl)
theorem V_newI (X : Fx K g N0 cc nL own R0 rt nm ex) {n : Int32} {N : Nat} (harr : Cond.arrayClass .int ∈ TT) (hn : n = nI N) (hN : N * 8 ≤ 536870912) (hcells : cells + 1 ≤ R0.cells) (hslots : slots + N ≤ R0.slots) (d : decode cc pc = .ok (.newarray .int, 2)) (kk : ∀ q, h q = none → V K g N0 nL Q (mUp h q (.inl (g.2 0, N, .inl (fun _ => 0)))) (cells + 1) (slots + N) (pc + 2) lv (va_rf (some q) :: st)) : V K g N0 nL Q h cells slots pc lv (.int n :: st) := by
  intro H locs ls hM hS hl
  obtain ⟨ws, hP, hD, h3⟩ := hM
  subst hn
  refine va_newa X.hx X.hb (atype := .int) (X.hts _ harr) (ty := .int) rfl X.hK hP hD hS X.hA (a0 := (N, .inl (fun _ => 0))) (fun cA => rfl) (nI_pos (by omega)) (nI_clamp (by omega)) (by show N * _ ≤ _; simp only [componentBytes]; omega) (by rw [X.hR]; exact hcells) (by rw [X.hR]; exact hslots) d (fun q cA H1 hK1 hP1 hD1 hS1 => ?_)
  have h1 := (hK1.2 4 (cA, .int) rfl).2
  have h2 := (X.hK.2 0 (g.2 0, .int) rfl).2
  have hcA : cA = g.2 0 := Option.some.inj (h1.symm.trans h2)
  subst hcA
  exact kk q (mW_push h3 hP1 hD1).1 H1 locs ls (mW_push h3 hP1 hD1).2 hS1 hl
theorem V_newL (X : Fx K g N0 cc nL own R0 rt nm ex) {n : Int32} {N : Nat} (harr : Cond.arrayClass .long ∈ TT) (hn : n = nI N) (hN : N * 8 ≤ 536870912) (hcells : cells + 1 ≤ R0.cells) (hslots : slots + N ≤ R0.slots) (d : decode cc pc = .ok (.newarray .long, 2)) (kk : ∀ q, h q = none → V K g N0 nL Q (mUp h q (.inl (g.2 1, N, .inr (.inl (fun _ => 0))))) (cells + 1) (slots + N) (pc + 2) lv (va_rf (some q) :: st)) : V K g N0 nL Q h cells slots pc lv (.int n :: st) := by
  intro H locs ls hM hS hl
  obtain ⟨ws, hP, hD, h3⟩ := hM
  subst hn
  refine va_newa X.hx X.hb (atype := .long) (X.hts _ harr) (ty := .long) rfl X.hK hP hD hS X.hA (a0 := (N, .inr (.inl (fun _ => 0)))) (fun cA => rfl) (nI_pos (by omega)) (nI_clamp (by omega)) (by show N * _ ≤ _; simp only [componentBytes]; omega) (by rw [X.hR]; exact hcells) (by rw [X.hR]; exact hslots) d (fun q cA H1 hK1 hP1 hD1 hS1 => ?_)
  have h1 := (hK1.2 4 (cA, .long) rfl).2
  have h2 := (X.hK.2 1 (g.2 1, .long) rfl).2
  have hcA : cA = g.2 1 := Option.some.inj (h1.symm.trans h2)
  subst hcA
  exact kk q (mW_push h3 hP1 hD1).1 H1 locs ls (mW_push h3 hP1 hD1).2 hS1 hl
theorem V_newZ (X : Fx K g N0 cc nL own R0 rt nm ex) {n : Int32} {N : Nat} (harr : Cond.arrayClass .boolean ∈ TT) (hn : n = nI N) (hN : N * 8 ≤ 536870912) (hcells : cells + 1 ≤ R0.cells) (hslots : slots + N ≤ R0.slots) (d : decode cc pc = .ok (.newarray .boolean, 2)) (kk : ∀ q, h q = none → V K g N0 nL Q (mUp h q (.inl (g.2 2, N, .inl (fun _ => 0)))) (cells + 1) (slots + N) (pc + 2) lv (va_rf (some q) :: st)) : V K g N0 nL Q h cells slots pc lv (.int n :: st) := by
  intro H locs ls hM hS hl
  obtain ⟨ws, hP, hD, h3⟩ := hM
  subst hn
  refine va_newa X.hx X.hb (atype := .boolean) (X.hts _ harr) (ty := .boolean) rfl X.hK hP hD hS X.hA (a0 := (N, .inl (fun _ => 0))) (fun cA => rfl) (nI_pos (by omega)) (nI_clamp (by omega)) (by show N * _ ≤ _; simp only [componentBytes]; omega) (by rw [X.hR]; exact hcells) (by rw [X.hR]; exact hslots) d (fun q cA H1 hK1 hP1 hD1 hS1 => ?_)
  have h1 := (hK1.2 4 (cA, .boolean) rfl).2
  have h2 := (X.hK.2 2 (g.2 2, .boolean) rfl).2
  have hcA : cA = g.2 2 := Option.some.inj (h1.symm.trans h2)
  subst hcA
  exact kk q (mW_push h3 hP1 hD1).1 H1 locs ls (mW_push h3 hP1 hD1).2 hS1 hl
theorem V_newQ (X : Fx K g N0 cc nL own R0 rt nm ex) {n : Int32} {N idx : Nat} (hcl : Cond.classLink own idx R_Tx ∈ TT) (hn : n = nI N) (hN : N * 8 ≤ 536870912) (hcells : cells + 1 ≤ R0.cells) (hslots : slots + N ≤ R0.slots) (d : decode cc pc = .ok (.anewarray idx, 3)) (kk : ∀ q, h q = none → V K g N0 nL Q (mUp h q (.inl (g.2 3, N, .inr (.inr (.inr (.inr (fun _ => none))))))) (cells + 1) (slots + N) (pc + 3) lv (va_rf (some q) :: st)) : V K g N0 nL Q h cells slots pc lv (.int n :: st) := by
  intro H locs ls hM hS hl
  obtain ⟨ws, hP, hD, h3⟩ := hM
  subst hn
  refine va_newq X.hx X.hb X.hown (X.hts _ hcl) X.hZ.2.2.2.2.1 X.hK hP hD hS X.hA (nI_pos (by omega)) (nI_clamp (by omega)) (by omega) (by rw [X.hR]; exact hcells) (by rw [X.hR]; exact hslots) d (fun q cA H1 hK1 hP1 hD1 hS1 => ?_)
  obtain ⟨_, _, _, _, _, h1⟩ := (hK1.2 4 (cA, .object R_Tx) rfl).2
  obtain ⟨_, _, _, _, _, h2⟩ := (X.hK.2 3 (g.2 3, .object R_Tx) rfl).2
  have hcA : cA = g.2 3 := Option.some.inj (h1.symm.trans h2)
  subst hcA
  exact kk q (mW_push h3 hP1 hD1).1 H1 locs ls (mW_push h3 hP1 hD1).2 hS1 hl
end VR
