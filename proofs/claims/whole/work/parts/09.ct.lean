-- contracts over a map of cells; calls and ends (own work)
theorem cat_i (x : Int32) : (Value.int x).category = 1 := rfl
theorem cat_l (x : Int64) : (Value.long x).category = 2 := rfl
def b01 (p : Bool) : Int32 := if p then 1 else 0
theorem b01_or (p : Bool) : b01 p = 0 ∨ b01 p = 1 := by cases p <;> simp [b01]
def PP (l : Launch) (g : GG) (N0 : Nat → Prop) (h : Mp) (av : List Value) : Array Value → State → Prop := va_Pc av (fun U => mW g N0 h U.heap ∧ va_K g.1 CL (tysG g) U ∧ (∀ q, U.heap.size ≤ q → N0 q) ∧ TZ l N0 U U.heap)
def QQ (g : GG) (N0 : Nat → Prop) (post : Option Value → Mp → Prop) : Array Value → State → Outcome → State → Prop := fun _ st oc t => (∃ (v : Option Value) (h' : Mp), oc = .returned v ∧ post v h' ∧ mW g N0 h' t.heap) ∧ va_F (AA N0) st t
def XX (g : GG) (N0 : Nat → Prop) (xp : String → Mp → Prop) : String → State → State → Prop := fun E st t => (∃ h' : Mp, xp E h' ∧ mW g N0 h' t.heap) ∧ va_F (AA N0) st t
/-- the contract of a method that may throw -/
def Ct (l : Launch) (y : MethodName) (b : ByteArray) (nL : Nat) (ret : Option FieldType) (fr lo mc ms : Nat) (g : GG) (N0 : Nat → Prop) (h : Mp) (av : List Value) (post : Option Value → Mp → Prop) (xp : String → Mp → Prop) : Prop :=
  vx_Met l y (Cond.code y b nL ret :: TT) { frames := fr, cells := mc, slots := ms, locals := lo } (PP l g N0 h av) (QQ g N0 post) (XX g N0 xp) mc ms (AA N0)
def pI (post : Int32 → Mp → Prop) : Option Value → Mp → Prop := fun v h' => ∃ r, v = some (.int r) ∧ post r h'
def pL (post : Int64 → Mp → Prop) : Option Value → Mp → Prop := fun v h' => ∃ r, v = some (.long r) ∧ post r h'
def pR (post : Option Nat → Mp → Prop) : Option Value → Mp → Prop := fun v h' => ∃ r, v = some (va_rf r) ∧ post r h'
def pV (post : Mp → Prop) : Option Value → Mp → Prop := fun v h' => v = none ∧ post h'
/-- the contract of a constructor -/
def Ci (l : Launch) (y : MethodName) (b : ByteArray) (nL : Nat) (fr lo mc ms : Nat) (g : GG) (N0 : Nat → Prop) (h : Mp) (av : List Value) (post : Mp → Prop) : Prop :=
  Met l y (Cond.code y b nL none :: TT) { frames := fr, cells := mc, slots := ms, locals := lo } (PP l g N0 h av) (QQ g N0 (pV post)) mc ms (AA N0)
def nox : String → Mp → Prop := fun _ _ => False
def RQ (K : Cx) (g : GG) (N0 : Nat → Prop) (post : Option Value → Mp → Prop) (xp : String → Mp → Prop) (mc ms : Nat) : State → Prop := vx_MQ (Kb K) (QQ g N0 post) (XX g N0 xp) (Ka K) (Ks K) mc ms (AA N0)
def RI (K : Cx) (g : GG) (N0 : Nat → Prop) (post : Mp → Prop) (mc ms : Nat) : State → Prop := MQ (Kb K) (QQ g N0 (pV post)) (Ka K) (Ks K) mc ms (AA N0)
/-- something was thrown at pc, not caught yet -/
def VX (K : Cx) (g : GG) (N0 : Nat → Prop) (nL : Nat) (Q : State → Prop) (h : Mp) (cells slots pc : Nat) (lv : List (Option Value)) (E : String) : Prop :=
  ∀ (H : Heap) (locs : List Loc) (ls : Array Slot) (q : Addr) (ce : Cell) (rest : List Value), mW g N0 h H → va_S (AA N0) (Ks K).heap H locs → lH ls nL lv → H[q]? = some ce → ce.vm = .none → (Ks K).vm.findClass E = some ce.cls → vx_W (Kp K) (Kl K) (Ke K) (KR K) (Ks K) (Km K) (Ka K) (Kb K) (Kt K) (Kc K) H locs cells slots Q (F0 (Km K) pc ls rest) q
theorem PP_blind {l : Launch} {g : GG} {N0 : Nat → Prop} {h : Mp} {av : List Value} : FrameBlind (PP l g N0 h av) := fun a U f mk q => ⟨q.1, q.2.1, va_K.moved (u := U) (U := U.calling f mk a) (Vm.Alike.refl U.vm) q.2.2.1, q.2.2.2.1, TZ.same (s := U) (U := U.calling f mk a) rfl q.2.2.2.2⟩
theorem goodTT {ws : List Cond} (h : ∀ w ∈ ws, w ∈ TT) : GoodIn TT (ws ++ TT) := fun w hw => by
  have hm : w ∈ TT := (List.mem_append.mp hw).elim (h w) id
  exact ⟨hm, good_of_word (tt_good hm)⟩
section CT
variable {K : Cx} {g : GG} {N0 : Nat → Prop} {nL : Nat} {Q : State → Prop} {h : Mp} {cells slots pc : Nat} {lv : List (Option Value)} {st : List Value} {cc : ByteArray} {own : String} {R0 : Room} {rt : Option FieldType} {nm : String} {ex : List ExceptionTableEntry}
theorem PP_at (X : Fx K g N0 cc nL own R0 rt nm ex) {H : Heap} {locs : List Loc} (hM : mW g N0 h H) (hS : va_S (AA N0) (Ks K).heap H locs) (av : List Value) : ∀ U : State, U.heap = H → (Ks K).WarmedH U.vm → PP (Kl K) g N0 h av av.toArray U := fun U hU hW => ⟨rfl, by rw [hU]; exact hM, va_K.moved hW.alike X.hK, by rw [hU]; exact fun q hq => X.hN q (Nat.le_trans hS.1 hq), by rw [hU]; exact TZ.warm hW hS.2.1 X.hZ⟩
-- ends
variable {post : Option Value → Mp → Prop} {xp : String → Mp → Prop} {mc ms : Nat}
theorem V_iret (X : Fx K g N0 cc nL own R0 rt nm ex) (hrt : rt = some .int) {v : Int32} (d : decode cc pc = .ok (.ireturn, 1)) (hc : cells ≤ mc) (hs : slots ≤ ms) (hp : post (some (.int v)) h) : V K g N0 nL (RQ K g N0 post xp mc ms) h cells slots pc lv [.int v] :=
  fun H locs ls hM hS hl => W.widen hc hs (vx_ret (W.iret X.hx X.hb (by rw [X.hr]; exact hrt) (fun t ht hW => ⟨⟨_, h, rfl, hp, by rw [ht]; exact hM⟩, hS.F ht⟩) hS.2.2 d X.hlocks))
theorem V_zret (X : Fx K g N0 cc nL own R0 rt nm ex) (hrt : rt = some .boolean) {v : Int32} (hn : narrow .boolean (.int v) = .int v) (d : decode cc pc = .ok (.ireturn, 1)) (hc : cells ≤ mc) (hs : slots ≤ ms) (hp : post (some (.int v)) h) : V K g N0 nL (RQ K g N0 post xp mc ms) h cells slots pc lv [.int v] :=
  fun H locs ls hM hS hl => W.widen hc hs (vx_ret (W.zret X.hx X.hb (by rw [X.hr]; exact hrt) hn (fun t ht hW => ⟨⟨_, h, rfl, hp, by rw [ht]; exact hM⟩, hS.F ht⟩) hS.2.2 d X.hlocks))
theorem V_lret (X : Fx K g N0 cc nL own R0 rt nm ex) (hrt : rt = some .long) {v : Int64} (d : decode cc pc = .ok (.lreturn, 1)) (hc : cells ≤ mc) (hs : slots ≤ ms) (hp : post (some (.long v)) h) : V K g N0 nL (RQ K g N0 post xp mc ms) h cells slots pc lv [.long v] :=
  fun H locs ls hM hS hl => W.widen hc hs (vx_ret (W.lret X.hx X.hb (by rw [X.hr]; exact hrt) (fun t ht hW => ⟨⟨_, h, rfl, hp, by rw [ht]; exact hM⟩, hS.F ht⟩) hS.2.2 d X.hlocks))
theorem V_aret (X : Fx K g N0 cc nL own R0 rt nm ex) {n : String} (hrt : rt = some (.object n)) {r : Option Nat} (d : decode cc pc = .ok (.areturn, 1)) (hc : cells ≤ mc) (hs : slots ≤ ms) (hp : post (some (va_rf r)) h) : V K g N0 nL (RQ K g N0 post xp mc ms) h cells slots pc lv [va_rf r] :=
  fun H locs ls hM hS hl => W.widen hc hs (vx_ret (W.aret X.hx X.hb (by rw [X.hr]; exact hrt) (Or.inl ⟨_, rfl⟩) (va_rf_or r) (fun t ht hW => ⟨⟨_, h, rfl, hp, by rw [ht]; exact hM⟩, hS.F ht⟩) hS.2.2 d X.hlocks))
theorem V_vret (X : Fx K g N0 cc nL own R0 rt nm ex) (hrt : rt = none) (d : decode cc pc = .ok (.return_, 1)) (hc : cells ≤ mc) (hs : slots ≤ ms) (hp : post none h) : V K g N0 nL (RQ K g N0 post xp mc ms) h cells slots pc lv [] :=
  fun H locs ls hM hS hl => W.widen hc hs (vx_ret (W.vret X.hx X.hb (by rw [X.hr]; exact hrt) (fun t ht hW => ⟨⟨_, h, rfl, hp, by rw [ht]; exact hM⟩, hS.F ht⟩) hS.2.2 d X.hlocks))
theorem V_vretI {post : Mp → Prop} (X : Fx K g N0 cc nL own R0 rt nm ex) (hrt : rt = none) (d : decode cc pc = .ok (.return_, 1)) (hc : cells ≤ mc) (hs : slots ≤ ms) (hp : post h) : V K g N0 nL (RI K g N0 post mc ms) h cells slots pc lv [] :=
  fun H locs ls hM hS hl => W.widen hc hs (W.vret X.hx X.hb (by rw [X.hr]; exact hrt) (fun t ht hW => ⟨⟨_, h, rfl, ⟨rfl, hp⟩, by rw [ht]; exact hM⟩, hS.F ht⟩) hS.2.2 d X.hlocks)
theorem VX_out (X : Fx K g N0 cc nL own R0 rt nm ex) (hex : ex = []) {E : String} (hc : cells ≤ mc) (hs : slots ≤ ms) (hp : xp E h) : VX K g N0 nL (RQ K g N0 post xp mc ms) h cells slots pc lv E :=
  fun H locs ls q ce rest hM hS hl h1 h2 h3 => vx_out (by rw [X.hex, hex]; intro x hx; cases hx) X.hlocks h1 h2 h3 (fun t ht _ => ⟨⟨h, hp, by rw [ht]; exact hM⟩, hS.F ht⟩) hS.2.2 hc hs
-- calls
def VRun (K : Cx) (g : GG) (N0 : Nat → Prop) (nL : Nat) (h : Mp) (cells slots mc ms pc : Nat) (lv : List (Option Value)) (st0 rest : List Value) (post : Option Value → Mp → Prop) (xp : String → Mp → Prop) : Prop := ∀ (H : Heap) (locs : List Loc) (ls : Array Slot), mW g N0 h H → va_S (AA N0) (Ks K).heap H locs → lH ls nL lv → ∃ a : Array Value, vx_Run (Kp K) (Kl K) (Ke K) (KR K) (Ks K) (Km K) (Ka K) (Kb K) (Kt K) (Kc K) H locs cells slots mc ms (F0 (Km K) pc ls st0) rest (QQ g N0 post a) (XX g N0 xp) (AA N0)
theorem V_cont {st0 : List Value} (hr : VRun K g N0 nL h cells slots mc ms pc lv st0 st post xp) (kx : ∀ E h', xp E h' → VX K g N0 nL Q h' (cells + mc) (slots + ms) pc lv E) (kk : ∀ v h', post v h' → V K g N0 nL Q h' (cells + mc) (slots + ms) (pc + 3) lv (v.toList ++ st)) : V K g N0 nL Q h cells slots pc lv st0 := by
  intro H locs ls hM hS hl T hT X
  obtain ⟨a, hr⟩ := hr H locs ls hM hS hl
  rcases hr T hT X with ⟨v, st₀, t, T', L, h0, X', hL, e1, e2, ⟨⟨v', h', hv, hp, hm⟩, hF⟩, hst⟩ | ⟨q, st₀, t, T', L, E, ce, h0, X', hL, e1, e2, ⟨⟨h', hp, hm⟩, hF⟩, hce, hcv, hcl, hst⟩
  · cases hv
    obtain ⟨k1, k2, k3⟩ := vx_keep h0 e1 hS (fun _ _ z => z) (fun _ z => z) hL hF
    obtain ⟨t2, a1, b1⟩ := kk v h' hp T'.heap (locs ++ L) ls (by rw [e1]; exact hm) k3 hl T' rfl X'
    exact ⟨t2, hst t2 a1, b1⟩
  · obtain ⟨k1, k2, k3⟩ := vx_keep h0 e1 hS (fun _ _ z => z) (fun _ z => z) hL hF
    obtain ⟨t2, a1, b1⟩ := kx E h' hp T'.heap (locs ++ L) ls q ce st (by rw [e1]; exact hm) k3 hl (by rw [e1]; exact hce) hcv hcl T' rfl X'
    exact ⟨t2, hst.trans a1, b1⟩
theorem V_contI {post : Int32 → Mp → Prop} {st0 : List Value} (hr : VRun K g N0 nL h cells slots mc ms pc lv st0 st (pI post) xp) (kx : ∀ E h', xp E h' → VX K g N0 nL Q h' (cells + mc) (slots + ms) pc lv E) (kk : ∀ r h', post r h' → V K g N0 nL Q h' (cells + mc) (slots + ms) (pc + 3) lv (.int r :: st)) : V K g N0 nL Q h cells slots pc lv st0 := V_cont hr kx (fun v h' hp => by obtain ⟨r, rfl, hp⟩ := hp; exact kk r h' hp)
theorem V_contL {post : Int64 → Mp → Prop} {st0 : List Value} (hr : VRun K g N0 nL h cells slots mc ms pc lv st0 st (pL post) xp) (kx : ∀ E h', xp E h' → VX K g N0 nL Q h' (cells + mc) (slots + ms) pc lv E) (kk : ∀ r h', post r h' → V K g N0 nL Q h' (cells + mc) (slots + ms) (pc + 3) lv (.long r :: st)) : V K g N0 nL Q h cells slots pc lv st0 := V_cont hr kx (fun v h' hp => by obtain ⟨r, rfl, hp⟩ := hp; exact kk r h' hp)
theorem V_contR {post : Option Nat → Mp → Prop} {st0 : List Value} (hr : VRun K g N0 nL h cells slots mc ms pc lv st0 st (pR post) xp) (kx : ∀ E h', xp E h' → VX K g N0 nL Q h' (cells + mc) (slots + ms) pc lv E) (kk : ∀ r h', post r h' → V K g N0 nL Q h' (cells + mc) (slots + ms) (pc + 3) lv (va_rf r :: st)) : V K g N0 nL Q h cells slots pc lv st0 := V_cont hr kx (fun v h' hp => by obtain ⟨r, rfl, hp⟩ := hp; exact kk r h' hp)
theorem V_contV {post : Mp → Prop} {st0 : List Value} (hr : VRun K g N0 nL h cells slots mc ms pc lv st0 st (pV post) xp) (kx : ∀ E h', xp E h' → VX K g N0 nL Q h' (cells + mc) (slots + ms) pc lv E) (kk : ∀ h', post h' → V K g N0 nL Q h' (cells + mc) (slots + ms) (pc + 3) lv st) : V K g N0 nL Q h cells slots pc lv st0 := V_cont hr kx (fun v h' hp => by obtain ⟨rfl, hp⟩ := hp; exact kk h' hp)
variable {y : MethodName} {b' : ByteArray} {nL' fr lo n idx a ci N : Nat} {ret' : Option FieldType} {C : String} {T : u_T} {As fs : List Value}
theorem runV (X : Fx K g N0 cc nL own R0 rt nm ex) (hC : Ct (Kl K) y b' nL' ret' fr lo mc ms g N0 h (va_rf (some a) :: As) post xp)
    (m1 : Cond.methodLink own idx y ∈ TT) (m2 : Cond.instanceMethod y ∈ TT) (m3 : Cond.selects C y y ∈ TT) (m4 : Cond.initialized C ∈ TT) (m5 : Cond.code y b' nL' ret' ∈ TT)
    (hd : y.cls = C ∧ y.cls ≠ "java/lang/invoke/MethodHandle" ∧ y.cls ≠ "java/lang/invoke/VarHandle" ∧ (parseMethodDescriptor y.desc).map (fun d => d.parameters.length) = some n) (hci : CL[ci]? = some (C, T, N)) (hn : As.length = n)
    (he : h a = some (.inr (ci, fs))) (hR : fr + 1 ≤ R0.frames ∧ 8 + (nL' + 11) + lo ≤ R0.locals) (hst : (st.map fun v => v.category).sum ≤ 8) (hf : cells + mc ≤ R0.cells ∧ slots + ms ≤ R0.slots) (d : decode cc pc = .ok (.invokevirtual idx, 3)) :
    VRun K g N0 nL h cells slots mc ms pc lv (As.reverse ++ va_rf (some a) :: st) st post xp := by
  intro H locs ls hM hS hl
  obtain ⟨ws, q0, hP, hD, -, hq⟩ := mW_at hM he
  have hG : GoodIn TT (wsV own idx C y (Cond.code y b' nL' ret' :: TT)) := by
    have h0 := goodTT (ws := [.methodLink own idx y, .instanceMethod y, .selects C y y, .initialized C, Cond.code y b' nL' ret']) (tt_c m1 (tt_c m2 (tt_c m3 (tt_c m4 (tt_c m5 tt_n)))))
    exact h0
  refine ⟨(va_rf (some a) :: As).toArray, vx_runV (As := As) ⟨X.hx, X.hb, X.hml, X.hown, X.hts⟩ hC (cwV n X.hts hG rfl rfl rfl hd (by rw [X.hR]; exact hR)) ⟨PP_blind, va_recv X.hK hP hci hq, PP_at X hM hS _⟩ rfl hn hl.1 rfl ?_ d (by rw [X.hR]; exact hf)⟩
  show 2 * 0 + _ ≤ 8
  omega
theorem runS (X : Fx K g N0 cc nL own R0 rt nm ex) (hC : Ct (Kl K) y b' nL' ret' fr lo mc ms g N0 h As post xp)
    (m1 : Cond.methodLink own idx y ∈ TT) (m2 : Cond.static y ∈ TT) (m4 : Cond.initialized y.cls ∈ TT) (m5 : Cond.code y b' nL' ret' ∈ TT)
    (hd : y.cls ≠ "java/lang/invoke/MethodHandle" ∧ y.cls ≠ "java/lang/invoke/VarHandle" ∧ (parseMethodDescriptor y.desc).map (fun d => d.parameters.length) = some n) (hn : As.length = n)
    (hR : fr + 1 ≤ R0.frames ∧ 8 + (nL' + 11) + lo ≤ R0.locals) (hst : (st.map fun v => v.category).sum ≤ 8) (hf : cells + mc ≤ R0.cells ∧ slots + ms ≤ R0.slots) (d : decode cc pc = .ok (.invokestatic idx, 3)) :
    VRun K g N0 nL h cells slots mc ms pc lv (As.reverse ++ st) st post xp := by
  intro H locs ls hM hS hl
  have hG : GoodIn TT (va_wsS own idx y (Cond.code y b' nL' ret' :: TT)) := by
    have h0 := goodTT (ws := [.methodLink own idx y, .static y, .initialized y.cls, Cond.code y b' nL' ret']) (tt_c m1 (tt_c m2 (tt_c m4 (tt_c m5 tt_n))))
    exact h0
  refine ⟨As.toArray, vx_runS (As := As) ⟨X.hx, X.hb, X.hml, X.hown, X.hts⟩ hC (va_cwS n X.hts hG rfl rfl rfl hd (by rw [X.hR]; exact hR)) ⟨PP_blind, PP_at X hM hS _⟩ rfl hn hl.1 rfl ?_ d (by rw [X.hR]; exact hf)⟩
  show 2 * 0 + _ ≤ 8
  omega
theorem V_init {post : Mp → Prop} (X : Fx K g N0 cc nL own R0 rt nm ex) (hC : Ci (Kl K) y b' nL' fr lo mc ms g N0 h (va_rf (some a) :: As) post)
    (m1 : Cond.methodLink own idx y ∈ TT) (m2 : Cond.instanceMethod y ∈ TT) (m4 : Cond.initialized y.cls ∈ TT) (m5 : Cond.code y b' nL' none ∈ TT) (hy1 : y.name = "<init>")
    (hd : y.cls ≠ "java/lang/invoke/MethodHandle" ∧ y.cls ≠ "java/lang/invoke/VarHandle" ∧ (parseMethodDescriptor y.desc).map (fun d => d.parameters.length) = some n) (hn : As.length = n)
    (hR : fr + 1 ≤ R0.frames ∧ 8 + (nL' + 11) + lo ≤ R0.locals) (hst : (st.map fun v => v.category).sum ≤ 8) (hf : cells + mc ≤ R0.cells ∧ slots + ms ≤ R0.slots) (d : decode cc pc = .ok (.invokespecial idx, 3))
    (kk : ∀ h', post h' → V K g N0 nL Q h' (cells + mc) (slots + ms) (pc + 3) lv st) : V K g N0 nL Q h cells slots pc lv (As.reverse ++ va_rf (some a) :: st) := by
  intro H locs ls hM hS hl T hT Z
  have hG : GoodIn TT (Cond.code y b' nL' none :: TT) := by
    have h0 := goodTT (ws := [Cond.code y b' nL' none]) (tt_c m5 tt_n)
    exact h0
  have hr : va_Run (Kp K) (Kl K) (Ke K) (KR K) (Ks K) (Km K) (Ka K) (Kb K) (Kt K) (Kc K) H locs cells slots mc ms (F0 (Km K) pc ls (As.reverse ++ va_rf (some a) :: st)) st (QQ g N0 (pV post) (Value.ref a :: As).toArray) (AA N0) :=
    va_runI (As := As) ⟨X.hx, X.hb, X.hml, X.hown, X.hts⟩ hC (cwI n X.hts hG rfl rfl rfl (X.hts _ m4) (X.hts _ m1) (X.hts _ m2) hy1 hd (by rw [X.hR]; exact hR)) ⟨PP_blind, PP_at X hM hS _⟩ rfl hn hl.1 rfl (by show 2 * 0 + _ ≤ 8; omega) d (by rw [X.hR]; exact hf)
  obtain ⟨v, st₀, t, T', L, h0, X', hL, e1, e2, ⟨⟨v', h', hv, ⟨rfl, hp⟩, hm⟩, hF⟩, hst2⟩ := hr T hT Z
  cases hv
  obtain ⟨k1, k2, k3⟩ := vx_keep h0 e1 hS (fun _ _ z => z) (fun _ z => z) hL hF
  obtain ⟨t2, a1, b1⟩ := kk h' hp T'.heap (locs ++ L) ls (by rw [e1]; exact hm) k3 hl T' rfl X'
  exact ⟨t2, hst2 t2 a1, b1⟩
end CT
/-- a contract out of the walk of the body -/
theorem Ct_of {l : Launch} {y : MethodName} {b : ByteArray} {nL : Nat} {ret : Option FieldType} {fr lo mc ms : Nat} {g : GG} {N0 : Nat → Prop} {h : Mp} {av : List Value} {post : Option Value → Mp → Prop} {xp : String → Mp → Prop} (own nm : String) (lv : List (Option Value)) (hy : plainName y.cls = true) (ho : y.cls = own) (hn : y.name = nm) (hlen : (lg_sl av).length ≤ nL) (hlv : toL 0 lv = lv_args 0 av)
    (body : ∀ K : Cx, Kl K = l → Fx K g N0 b nL own { frames := fr, cells := mc, slots := ms, locals := lo } ret nm [] → V K g N0 nL (RQ K g N0 post xp mc ms) h 0 0 0 lv []) : Ct l y b nL ret fr lo mc ms g N0 h av post xp := by
  refine vx_ofW (cc := b) (maxL := nL) (ret := ret) hy rfl ?_
  intro p e s m args below meth c s₁ B hml hex hv
  obtain ⟨rfl, hM, hK, hN, hZ⟩ := hv
  have hts := atoms_spec (ws := Cond.code y b nL ret :: TT) B.pre
  have X : Fx (p, l, e, { frames := fr, cells := mc, slots := ms, locals := lo }, s, m, av.toArray, below, meth, c) g N0 b nL own { frames := fr, cells := mc, slots := ms, locals := lo } ret nm [] := by
    refine ⟨B.exec, B.bytes, hml, ?_, fun w hw => hts w (List.mem_cons_of_mem _ hw), hK, B.notSynchronized, hN, hZ, rfl, B.returns, ?_, ?_⟩
    · rw [← ho]; exact findClass_of_methodNamed B.named
    · rw [← hn]; exact (name_of_methodNamed B.named B.method).1
    · cases hc : c.exceptionTable.toList with
      | nil => rfl
      | cons x r => exact (hex x (by rw [hc]; exact List.mem_cons_self)).elim
  have hl := lv_entry av (n := nL) hlen
  rw [lg_entry_eq]
  exact body _ rfl X s.heap [] _ hM va_S.rf (lH_of hl (fun i v hi => by rw [← hlv]; exact (toL_mem lv 0 i v).mpr ⟨i, by omega, hi⟩))
theorem Ci_of {l : Launch} {y : MethodName} {b : ByteArray} {nL : Nat} {fr lo mc ms : Nat} {g : GG} {N0 : Nat → Prop} {h : Mp} {av : List Value} {post : Mp → Prop} (own : String) (lv : List (Option Value)) (hy : plainName y.cls = true) (ho : y.cls = own) (hn : y.name = "<init>") (hlen : (lg_sl av).length ≤ nL) (hlv : toL 0 lv = lv_args 0 av)
    (body : ∀ K : Cx, Kl K = l → Fx K g N0 b nL own { frames := fr, cells := mc, slots := ms, locals := lo } none "<init>" [] → V K g N0 nL (RI K g N0 post mc ms) h 0 0 0 lv []) : Ci l y b nL fr lo mc ms g N0 h av post := by
  refine Met.ofW (cc := b) (maxL := nL) (ret := none) hy rfl ?_
  intro p e s m args below meth c s₁ B hml hv
  obtain ⟨rfl, hM, hK, hN, hZ⟩ := hv
  have hts := atoms_spec (ws := Cond.code y b nL none :: TT) B.pre
  have X : Fx (p, l, e, { frames := fr, cells := mc, slots := ms, locals := lo }, s, m, av.toArray, below, meth, c) g N0 b nL own { frames := fr, cells := mc, slots := ms, locals := lo } none "<init>" [] := by
    refine ⟨B.exec, B.bytes, hml, ?_, fun w hw => hts w (List.mem_cons_of_mem _ hw), hK, B.notSynchronized, hN, hZ, rfl, B.returns, ?_, ?_⟩
    · rw [← ho]; exact findClass_of_methodNamed B.named
    · rw [← hn]; exact (name_of_methodNamed B.named B.method).1
    · obtain ⟨meth9, c9, h1, h2, -, -, -, -, h7, -⟩ := Cond.code_spec B.named (hts _ List.mem_cons_self)
      cases Option.some.inj (h1.symm.trans B.method)
      cases Option.some.inj (h2.symm.trans (Stand.of_body B).code)
      show c.exceptionTable.toList = []
      rw [Array.isEmpty_iff.mp h7]
  have hl := lv_entry av (n := nL) hlen
  rw [lg_entry_eq]
  exact body _ rfl X s.heap [] _ hM va_S.rf (lH_of hl (fun i v hi => by rw [← hlv]; exact (toL_mem lv 0 i v).mpr ⟨i, by omega, hi⟩))
