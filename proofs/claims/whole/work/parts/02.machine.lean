/-! ===== the memory: cells by their numbers, in the order of their making =====
A heap of ours: (next number, shape of each cell, ints, longs, references). Shape (kind, n): kind 1 int[], 2 byte[], 3 boolean[], 4 an int[] that is only read, 5 long[],
6 int[][], 7 byte[][], 8 long[][], 9 Book[], 10 Slot[] of length n; 20 + ci an object of the class vwCl[ci]. Ints, longs, references: by number of the cell and place (an array's index, an object's field). Reference 0 is null. -/
abbrev Hp : Type := Nat × (Nat → Nat × Nat) × (Nat → Nat → Int32) × (Nat → Nat → Int64) × (Nat → Nat → Nat)
def hs (h : Hp) : Nat → Nat × Nat := h.2.1
def hI (h : Hp) : Nat → Nat → Int32 := h.2.2.1
def hL (h : Hp) : Nat → Nat → Int64 := h.2.2.2.1
def hR (h : Hp) : Nat → Nat → Nat := h.2.2.2.2
def u2 {α : Type} (f : Nat → Nat → α) (a i : Nat) (v : α) : Nat → Nat → α := fun b j => if b = a ∧ j = i then v else f b j
def sI (h : Hp) (a i : Nat) (v : Int32) : Hp := (h.1, h.2.1, u2 h.2.2.1 a i v, h.2.2.2.1, h.2.2.2.2)
def sL (h : Hp) (a i : Nat) (v : Int64) : Hp := (h.1, h.2.1, h.2.2.1, u2 h.2.2.2.1 a i v, h.2.2.2.2)
def sR (h : Hp) (a i : Nat) (v : Nat) : Hp := (h.1, h.2.1, h.2.2.1, h.2.2.2.1, u2 h.2.2.2.2 a i v)
/-- a new cell of shape z: all its places are 0 -/
def mk (h : Hp) (z : Nat × Nat) : Hp := (h.1 + 1, (fun b => if b = h.1 then z else h.2.1 b), (fun b j => if b = h.1 then 0 else h.2.2.1 b j), (fun b j => if b = h.1 then 0 else h.2.2.2.1 b j), (fun b j => if b = h.1 then 0 else h.2.2.2.2 b j))
theorem u2_s {α : Type} {f : Nat → Nat → α} {a i : Nat} {v : α} : u2 f a i v a i = v := if_pos ⟨rfl, rfl⟩
theorem u2_n {α : Type} {f : Nat → Nat → α} {a i b j : Nat} {v : α} (h : b ≠ a ∨ j ≠ i) : u2 f a i v b j = f b j := if_neg (fun q => h.elim (fun z => z q.1) (fun z => z q.2))
theorem hs_sI (h : Hp) (a i : Nat) (v : Int32) : hs (sI h a i v) = hs h := rfl
theorem hs_sL (h : Hp) (a i : Nat) (v : Int64) : hs (sL h a i v) = hs h := rfl
theorem hs_sR (h : Hp) (a i : Nat) (v : Nat) : hs (sR h a i v) = hs h := rfl
theorem hI_sI (h : Hp) (a i : Nat) (v : Int32) : hI (sI h a i v) = u2 (hI h) a i v := rfl
theorem hI_sL (h : Hp) (a i : Nat) (v : Int64) : hI (sL h a i v) = hI h := rfl
theorem hI_sR (h : Hp) (a i : Nat) (v : Nat) : hI (sR h a i v) = hI h := rfl
theorem hL_sI (h : Hp) (a i : Nat) (v : Int32) : hL (sI h a i v) = hL h := rfl
theorem hL_sL (h : Hp) (a i : Nat) (v : Int64) : hL (sL h a i v) = u2 (hL h) a i v := rfl
theorem hL_sR (h : Hp) (a i : Nat) (v : Nat) : hL (sR h a i v) = hL h := rfl
theorem hR_sI (h : Hp) (a i : Nat) (v : Int32) : hR (sI h a i v) = hR h := rfl
theorem hR_sL (h : Hp) (a i : Nat) (v : Int64) : hR (sL h a i v) = hR h := rfl
theorem hR_sR (h : Hp) (a i : Nat) (v : Nat) : hR (sR h a i v) = u2 (hR h) a i v := rfl
/-! ===== the world: launch, classes' numbers and slots, the first new address, the old addresses of numbers 1 .. 4 ===== -/
abbrev Wd : Type := Launch × va_G × Nat × (Nat → Nat)
def ad (w : Wd) (i : Nat) : Nat := if i < 5 then w.2.2.2 i else w.2.2.1 + (i - 5)
def cv (w : Wd) (v : Value) : Value := match v with
  | .ref i => .ref (ad w i)
  | u => u
def rv (w : Wd) (r : Nat) : Value := va_rf (if r = 0 then none else some (ad w r))
def fA (w : Wd) : Nat → Prop := fun q => w.2.2.1 ≤ q
theorem cv_cat (w : Wd) (v : Value) : (cv w v).category = v.category := by cases v <;> rfl
theorem rv_ne {w : Wd} {r : Nat} (h : r ≠ 0) : rv w r = .ref (ad w r) := by simp [rv, h, va_rf]
theorem ad_new {w : Wd} {i : Nat} (h : 5 ≤ i) : ad w i = w.2.2.1 + (i - 5) := if_neg (by omega)
theorem ad_inj {w : Wd} {i j : Nat} (hi : 5 ≤ i) (hj : 5 ≤ j) (h : ad w i = ad w j) : i = j := by
  rw [ad_new hi, ad_new hj] at h; omega
def kty (k : Nat) : FieldType := match k with
  | 1 => .int
  | 2 => .byte
  | 3 => .boolean
  | 5 => .long
  | 6 => .array .int
  | 7 => .array .byte
  | 8 => .array .long
  | 9 => .object RX0
  | _ => .object RX5
def ftys (ci : Nat) : Nat → FieldType := match ci with
  | 0 => tyX0
  | 1 => tyX1
  | 2 => tyX2
  | 3 => tyX3
  | 4 => tyX4
  | 5 => tyX5
  | 6 => tyX6
  | 7 => tyX7
  | 8 => tyX8
  | 9 => tyX9
  | _ => tyX10
/-- what a field of a type holds, at place k of the cell id -/
def fval (w : Wd) (h : Hp) (id k : Nat) (ty : FieldType) : Value := match ty with
  | .int => .int (hI h id k)
  | .boolean => .int (hI h id k)
  | .long => .long (hL h id k)
  | _ => rv w (hR h id k)
def snm (k : Nat) : String := match k with
  | 1 => "LEFT_SIDE"
  | 2 => "RIGHT_SIDE"
  | _ => "BASE_PRICE"
def cellAt (w : Wd) (U : State) (h : Hp) (id : Nat) (H : Heap) : Prop :=
  ((1 ≤ (hs h id).1 ∧ (hs h id).1 ≤ 3) → ∃ cA, va_K w.2.1 vwCl [(cA, kty (hs h id).1)] U ∧ H[ad w id]? = some (arrV cA (hs h id).2 (fun j => .int (hI h id j)))) ∧
  ((hs h id).1 = 5 → ∃ cA, va_K w.2.1 vwCl [(cA, .long)] U ∧ H[ad w id]? = some (arrV cA (hs h id).2 (fun j => .long (hL h id j)))) ∧
  ((6 ≤ (hs h id).1 ∧ (hs h id).1 ≤ 10) → ∃ cA, va_K w.2.1 vwCl [(cA, kty (hs h id).1)] U ∧ H[ad w id]? = some (arrV cA (hs h id).2 (fun j => rv w (hR h id j)))) ∧
  (∀ ci, (hs h id).1 = 20 + ci → ∃ r, vwCl[ci]? = some r ∧ t_OB (ad w id) (w.2.1.1 ci) r.2.2 (w.2.1.2 ci) H (fun k => fval w h id k (ftys ci k)))
/-- the machine's heap H holds the memory h -/
def Rp (w : Wd) (U : State) (h : Hp) (H : Heap) : Prop :=
  (5 ≤ h.1 ∧ H.size = w.2.2.1 + (h.1 - 5)) ∧ (∀ id, (hs h id).1 ≠ 0 → id < h.1 ∧ ((hs h id).1 ≠ 4 → 5 ≤ id) ∧ ((hs h id).1 = 4 → id < 5)) ∧
  (∀ id, 5 ≤ id → id < h.1 → cellAt w U h id H) ∧ (∀ id, id < 5 → (hs h id).1 = 4 → va_T .int (ad w id) (hs h id).2 (fun j => .int (hI h id j)) (fA w) U H) ∧
  (∀ k, 1 ≤ k → k ≤ 3 → va_Z RX9 (snm k) "[I" (.ref (ad w k)) (fA w) U H)
theorem cellAt.moved {w : Wd} {u U : State} {h : Hp} {id : Nat} {H : Heap} (hvm : u.vm.Alike U.vm) (c : cellAt w u h id H) : cellAt w U h id H := by
  obtain ⟨c1, c2, c3, c4⟩ := c
  refine ⟨fun z => ?_, fun z => ?_, fun z => ?_, c4⟩
  · obtain ⟨cA, k, e⟩ := c1 z; exact ⟨cA, k.moved hvm, e⟩
  · obtain ⟨cA, k, e⟩ := c2 z; exact ⟨cA, k.moved hvm, e⟩
  · obtain ⟨cA, k, e⟩ := c3 z; exact ⟨cA, k.moved hvm, e⟩
theorem Rp.moved {w : Wd} {u U : State} {h : Hp} {H : Heap} (hvm : u.vm.Alike U.vm) (r : Rp w u h H) : Rp w U h H := by
  obtain ⟨r1, r2, r3, r4, r5⟩ := r
  exact ⟨r1, r2, fun id a b => (r3 id a b).moved hvm, fun id a b => (r4 id a b).moved hvm, fun k a b => (r5 k a b).moved hvm⟩
theorem Rp.id {w : Wd} {U : State} {h : Hp} {H : Heap} (r : Rp w U h H) {id : Nat} (h1 : (hs h id).1 ≠ 0) (h2 : (hs h id).1 ≠ 4) : 5 ≤ id ∧ id < h.1 := ⟨(r.2.1 id h1).2.1 h2, (r.2.1 id h1).1⟩
/-- the words that a callee can be given -/
def gd : List Cond := lw_tbl.filter goodWord
theorem gd_in {w : Cond} (h : w ∈ lw_tbl) (g : goodWord w = true) : w ∈ gd := List.mem_filter.mpr ⟨h, g⟩
theorem gd_of {i : Nat} {w : Cond} (h : lw_tbl[i]? = some w) (g : goodWord w = true) : w ∈ gd := gd_in (List.mem_of_getElem? h) g
theorem gd_good : ∀ w ∈ gd, goodWord w = true := fun _ h => (List.mem_filter.mp h).2
/-- links to private members of nest mates -/
def ngW : List Cond := lw_tbl.filter (fun q => match q with | .fieldLinkNest .. => true | .methodLinkNest .. => true | _ => false)
def ovW : List Cond := lw_tbl.filter (fun q => match q with | .arrayOver .. => true | _ => false)
/-! ===== what the tables say beside the words: moved to every later state ===== -/
def En (w : Wd) (U : State) : Prop := va_K w.2.1 vwCl [] U ∧ (∀ q ∈ ngW, va_Nw q U) ∧ ∀ q ∈ ovW, va_Nw q U
theorem ng_warm {s U : State} (hW : s.WarmedH U.vm) (q : Cond) (hq : q ∈ ngW) (h : va_Nw q s) : va_Nw q U := by
  have := (List.mem_filter.mp hq).2
  cases q with
  | fieldLinkNest a i b n d x => exact va_Nw.warmF hW h
  | methodLinkNest a i y x => exact va_Nw.warmM hW h
  | _ => cases this
theorem ov_bind {o o' : Option Nat} {f g : Nat → Option Bool} (e : o = o') (h : o'.bind g = some true) (k : ∀ c, g c = some true → f c = some true) : o.bind f = some true := by
  subst e
  cases o with
  | none => simp at h
  | some c => exact k c h
theorem ov_warm {s U : State} (hW : s.WarmedH U.vm) (q : Cond) (hq : q ∈ ovW) (h : va_Nw q s) : va_Nw q U := by
  have hvm := hW.alike
  have := (List.mem_filter.mp hq).2
  have hi : ∀ comp : ClassId, (U.vm.classes.findIdx? fun (x : Class) => match x.kind with | .array component _ => component == comp | _ => false) = (s.vm.classes.findIdx? fun (x : Class) => match x.kind with | .array component _ => component == comp | _ => false) := by
    intro comp
    have e : U.vm.bare = s.vm.bare := by first | exact hvm.bare_eq | exact hvm.bare_eq.symm
    have a := va_idx_bare U.vm comp
    have b := va_idx_bare s.vm comp
    rw [e] at a
    exact a.symm.trans b
  cases q with
  | arrayOver ty =>
    cases ty with
    | object C => exact va_AO.moved hvm h
    | array t =>
      unfold va_Nw Cond.before at h ⊢
      simp only [Cond.holds, Cond.value, beq_iff_eq] at h ⊢
      rw [hvm.findClass]
      cases hc : s.vm.findClass (FieldType.array t).toString with
      | none => simp [hc] at h
      | some comp =>
        simp only [hc, Option.bind_some] at h ⊢
        refine ov_bind (hi comp) h (fun c hg => ?_)
        cases hk : s.vm.classes[c]? with
        | none => rw [hk] at hg; simp at hg
        | some k =>
          obtain ⟨k', hk', he⟩ := hvm.2.2 _ _ hk
          rw [hk] at hg
          rw [hk', hvm.findClass]
          simp only [Option.map_some] at hg ⊢
          rw [show k'.kind = k.kind by rw [he]]
          exact hg
    | _ => simp [va_Nw, Cond.before, Cond.holds, Cond.value] at h
  | _ => cases this
theorem En.moved {w : Wd} {s U : State} (hW : s.WarmedH U.vm) (h : En w s) : En w U :=
  ⟨h.1.moved hW.alike, fun q hq => ng_warm hW q hq (h.2.1 q hq), fun q hq => ov_warm hW q hq (h.2.2 q hq)⟩
/-- a method: its name, bytes, locals, return type, frames and locals' words of the room below it -/
abbrev Mi : Type := MethodName × ByteArray × Nat × Option FieldType × Nat × Nat
def rmO (M : Mi) (mc ms : Nat) : Room := { frames := M.2.2.2.2.1, cells := mc, slots := ms, locals := M.2.2.2.2.2 }
def wsM (M : Mi) : List Cond := .code M.1 M.2.1 M.2.2.1 M.2.2.2.1 :: gd
def Qw (w : Wd) (Q : Option Value → Hp → Prop) : Array Value → State → Outcome → State → Prop := fun _ st o t => (∃ r h', o = .returned (r.map (cv w)) ∧ Q r h' ∧ Rp w t h' t.heap) ∧ va_F (fA w) st t
def Pw (w : Wd) (h : Hp) : State → Prop := fun U => En w U ∧ Rp w U h U.heap
/-- THE CONTRACT of a method at arguments av and memory h: it returns, and Q holds of its answer and the memory behind it -/
def AC (w : Wd) (M : Mi) (mc ms : Nat) (Q : Option Value → Hp → Prop) (av : List Value) (h : Hp) : Prop :=
  Met w.1 M.1 (wsM M) (rmO M mc ms) (va_Pc (av.map (cv w)) (Pw w h)) (Qw w Q) mc ms (fA w)
def Lc (w : Wd) (ls : Array Slot) (nL : Nat) (loc : List (Option Value)) : Prop := ls.size = nL ∧ lv_wf ls ∧ ∀ (i : Nat) (v : Value), loc[i]? = some (some v) → ls[i]? = some (.val (cv w v))
def Cx (M : Mi) (p : Program) (s : State) (m : MethodId) (args : Array Value) (meth : Method) (c : Code) : Prop :=
  (p.tables.exec = Jvm.exec ∧ c.code = M.2.1 ∧ c.maxLocals = M.2.2.1 ∧ s.vm.findClass M.1.cls = some m.cls ∧ ∀ w ∈ gd, w.before args s = true) ∧ meth.sig.returnType = M.2.2.2.1 ∧ meth.locks = false ∧ meth.name = M.1.name
/-- THE WALK: from pc with locals loc, stack stk, memory h (k cells and n slots made so far) the method comes to its return with Q -/
def AW (w : Wd) (M : Mi) (mc ms : Nat) (Q : Option Value → Hp → Prop) (k n pc : Nat) (loc : List (Option Value)) (stk : List Value) (h : Hp) : Prop :=
  ∀ (p : Program) (e : Env) (s : State) (m : MethodId) (args : Array Value) (below : List Frame) (meth : Method) (c : Code), Cx M p s m args meth c → En w s → ∀ (H : Heap) (locs : List Loc) (ls : Array Slot), va_S (fA w) s.heap H locs → Rp w s h H → Lc w ls M.2.2.1 loc →
    W p w.1 e (rmO M mc ms) s m args below meth c H locs k n (MQ below (Qw w Q) args s mc ms (fA w)) (F0 m pc ls (stk.map (cv w)))
/-- an entry's locals out of its arguments -/
def enl (vs : List Value) : List (Option Value) := vs.flatMap (fun v => if v.category = 2 then [some v, none] else [some v])
