/-! the small machine: ids instead of addresses, Ints instead of ints -/
/-- words that ride along by rows of their own -/
def mvw : Cond → Bool
  | .fieldLinkNest .. => true
  | .methodLinkNest .. => true
  | .castable .. => true
  | .arrayOver (.object _) => true
  | _ => false
def Gw : List Cond := lw_tbl.filter goodWord
def Tw : List Cond := lw_tbl.filter (fun w => goodWord w || mvw w)
abbrev MT : Type := Nat → Nat → Int
/-- shapes, the next id, cells and slots that were made or set aside -/
abbrev ST : Type := (Nat → Nat × Nat) × Nat × Nat × Nat
abbrev ET : Type := Nat × List (Nat × Nat) × List (List (Option Nat))
abbrev GT : Type := Nat × (Nat → Nat) × (Nat → ClassId) × va_G × Heap
def ad (G : GT) (a : Nat) : Nat := bif Nat.blt a 16 then G.2.1 a else G.1 + (a - 16)
def tr (G : GT) : Value → Value
  | .ref a => bif Nat.beq a 0 then .null else .ref (ad G a)
  | v => v
def shp (E : ET) (S : ST) (a : Nat) : Nat × Nat := bif Nat.blt a E.1 then E.2.1.getD a (0, 0) else S.1 a
/-- a reference that never changes: the id it holds -/
def fin (E : ET) (a j : Nat) : Option Nat := (E.2.2.getD a []).getD j none
def ek : Nat → FieldType
  | 2 => .int
  | 3 => .byte
  | 4 => .boolean
  | 5 => .long
  | _ => .object RX10
def tyC : Nat → Nat → FieldType
  | 0 => tyX0
  | 1 => tyX1
  | 2 => tyX2
  | 3 => tyX3
  | 4 => tyX4
  | 5 => tyX5
  | 6 => tyX6
  | 7 => tyX7
  | 8 => tyX8
  | 9 => tyX9
  | 10 => tyX10
  | 11 => tyX11
  | _ => tyX12
def fval (G : GT) (ty : FieldType) (x : Int) : Value := match ty with
  | .long => .long (zl x)
  | .object _ => tr G (.ref x.toNat)
  | .array _ => tr G (.ref x.toNat)
  | _ => .int (z x)
def celA (G : GT) (sh : Nat × Nat) (f : Nat → Int) (H : Heap) (q : Nat) : Prop := match sh.1 with
  | 0 => False
  | 1 => ∃ r : vw_C, vwCl[sh.2]? = some r ∧ t_OB q (G.2.2.2.1.1 sh.2) r.2.2 (G.2.2.2.1.2 sh.2) H (fun j => fval G (tyC sh.2 j) (f j))
  | k + 2 => H[q]? = some (arrV (G.2.2.1 (k + 2)) sh.2 (fun j => fval G (ek (k + 2)) (f j)))
def Rel (E : ET) (G : GT) (S : ST) (M : MT) (H : Heap) : Prop :=
  16 ≤ S.2.1 ∧ E.1 ≤ S.2.1 ∧ H.size = G.1 + (S.2.1 - 16) ∧ (∀ a, 16 ≤ a → a < S.2.1 → celA G (shp E S a) (M a) H (ad G a)) ∧ (∀ q : Nat, q < G.1 → H[q]? = G.2.2.2.2[q]?) ∧ ∀ a j b, fin E a j = some b → M a j = (b : Int)
abbrev ctys (G : GT) : List (ClassId × FieldType) := [(G.2.2.1 2, .int), (G.2.2.1 3, .byte), (G.2.2.1 4, .boolean), (G.2.2.1 5, .long), (G.2.2.1 6, .object RX10)]
/-- the two texts of the class, their bytes -/
def SW : String := "stone weight height vein laid top hour quarry lift may fits lay out lend to or and not "
def SG : String := "<>=#+-*/();"
def sLn : List Nat := [87, 11]
def sBt : List (List Int32) := [SW.toList.map (fun c => Int32.ofNat c.toNat), SG.toList.map (fun c => Int32.ofNat c.toNat)]
/-- ids 2 and 4: the texts; 3 and 5: their bytes -/
def KS (G : GT) (U : State) : Prop := vk_R "WalledIn$Tape" 69 SW (G.2.1 2) U ∧ vk_R "WalledIn$Tape" 84 SG (G.2.1 4) U ∧ vk_S 2 sLn sBt (fun i => G.2.1 (2 + 2 * i)) (fun i => G.2.1 (3 + 2 * i)) (fun q => G.1 ≤ q) U G.2.2.2.2 ∧ va_Z "java/lang/String" "COMPACT_STRINGS" "Z" (.int 1) (fun q => G.1 ≤ q) U G.2.2.2.2 ∧ (va_Z "jdk/internal/util/Preconditions" "SIOOBE_FORMATTER" "Ljava/util/function/BiFunction;" .null (fun q => G.1 ≤ q) U G.2.2.2.2 ∨ va_Z "jdk/internal/util/Preconditions" "SIOOBE_FORMATTER" "Ljava/util/function/BiFunction;" (.ref (G.2.1 6)) (fun q => G.1 ≤ q) U G.2.2.2.2)
theorem KS.moved {G : GT} {u U : State} (hW : u.WarmedH U.vm) (h : KS G u) : KS G U := ⟨h.1.warm hW, h.2.1.warm hW, h.2.2.1.moved hW.alike, h.2.2.2.1.moved hW.alike, h.2.2.2.2.imp (fun q => q.moved hW.alike) (fun q => q.moved hW.alike)⟩
theorem KS.same {G : GT} {u U : State} (hvm : u.vm = U.vm) (h : KS G u) : KS G U := by
  have ha : u.vm.Alike U.vm := hvm ▸ Vm.Alike.refl u.vm
  exact ⟨h.1.same hvm.symm, h.2.1.same hvm.symm, h.2.2.1.moved ha, h.2.2.2.1.moved ha, h.2.2.2.2.imp (fun q => q.moved ha) (fun q => q.moved ha)⟩
/-- what is known of the tables and of what was there before -/
def KF (G : GT) (U : State) : Prop := (∀ w ∈ lw_tbl, mvw w = true → va_Nw w U) ∧ va_K G.2.2.2.1 vwCl (ctys G) U ∧ G.1 = G.2.2.2.2.size ∧ va_Z "WalledIn" "NO_CODE" "[I" (.ref (G.2.1 1)) (fun q => G.1 ≤ q) U G.2.2.2.2 ∧ va_T .int (G.2.1 1) 0 (fun _ => .null) (fun q => G.1 ≤ q) U G.2.2.2.2 ∧ KS G U
abbrev mkV : Value := .retAddr 0
def lvs (G : GT) (n : Nat) (ls : Array Slot) (L : List Value) : Prop := ls.size = n ∧ lv_wf ls ∧ ∀ (i : Nat) (v : Value), L[i]? = some v → v ≠ mkV → ls[i]? = some (.val (tr G v))
abbrev XT := Program × Launch × Env × Room × State × MethodId × Array Value × List Frame × Method × Code × (State → Prop) × GT × Nat × Nat
def Wp (E : ET) (X : XT) (pc : Nat) (L st : List Value) (S : ST) (M : MT) : Prop := match X with
  | (p, l, e, R, s, m, args, below, meth, c, Q, G, z0, l0) => ∀ (ls : Array Slot) (H : Heap) (locs : List Loc), lvs G c.maxLocals ls L → Rel E G S M H → (∀ q ∈ locs, G.1 ≤ q.base) → z0 ≤ S.2.2.1 ∧ l0 ≤ S.2.2.2 →
    W p l e R s m args below meth c H locs (S.2.2.1 - z0) (S.2.2.2 - l0) Q (F0 m pc ls (st.map (tr G)))
def Qp (E : ET) (G : GT) (P : Option Value → ST → MT → Prop) (S0 : ST) (rm : Room) : Array Value → State → Outcome → State → Prop := fun _ _ o t => ∃ r S' M', o = .returned (r.map (tr G)) ∧ P r S' M' ∧ Rel E G S' M' t.heap ∧ S'.2.2.1 = S0.2.2.1 + rm.cells ∧ S'.2.2.2 = S0.2.2.2 + rm.slots
def bud (S S0 : ST) (rm : Room) : ST := (S.1, S.2.1, S0.2.2.1 + rm.cells, S0.2.2.2 + rm.slots)
def Ok (E : ET) (X : XT) (y : MethodName) (cc : ByteArray) (nL : Nat) (ret : Option FieldType) (rm : Room) (P : Option Value → ST → MT → Prop) (S0 : ST) : Prop := match X with
  | (p, l, e, R, s, m, args, below, meth, c, Q, G, z0, l0) => p.tables.exec = Jvm.exec ∧ c.code = cc ∧ c.maxLocals = nL ∧ s.vm.findClass y.cls = some m.cls ∧ (∀ w ∈ Tw, w.before args s = true) ∧ KF G s ∧ R = rm ∧ meth.sig.returnType = ret ∧ meth.locks = false ∧ meth.name = y.name ∧ Q = MQ below (Qp E G P S0 rm) args s rm.cells rm.slots (fun q => G.1 ≤ q) ∧ z0 = S0.2.2.1 ∧ l0 = S0.2.2.2
def Pc0 (E : ET) (G : GT) (A : List Value) (S : ST) (M : MT) : Array Value → State → Prop := fun a U => a = (A.map (tr G)).toArray ∧ Rel E G S M U.heap ∧ KF G U
def Ct (E : ET) (y : MethodName) (cc : ByteArray) (nL : Nat) (ret : Option FieldType) (rm : Room) (A : List Value) (S : ST) (M : MT) (P : Option Value → ST → MT → Prop) : Prop :=
  ∀ (l : Launch) (G : GT), Met l y (.code y cc nL ret :: Gw) rm (Pc0 E G A S M) (Qp E G P S rm) rm.cells rm.slots (fun q => G.1 ≤ q)
def lent : List Value → List Value
  | [] => []
  | v :: A => bif v.category == 2 then v :: mkV :: lent A else v :: lent A
theorem tr_cat (G : GT) (v : Value) : (tr G v).category = v.category := by
  cases v <;> simp only [tr, Value.category]
  rename_i a
  cases h : Nat.beq a 0 <;> rfl
theorem mvw_use {w : Cond} (h : mvw w = true) {A : Array Value} {U : State} (hw : va_Nw w U) : w.before A U = true := by
  cases w <;> first | exact va_Nw.use rfl hw | (exfalso; exact Bool.false_ne_true h) | exact hw
theorem mvw_same {w : Cond} (h : mvw w = true) {u U : State} (hvm : u.vm = U.vm) (hw : va_Nw w u) : va_Nw w U := by
  cases w <;> first | exact va_Nw.same rfl hvm hw | (exfalso; exact Bool.false_ne_true h) | skip
  rename_i t
  cases t <;> first | (exfalso; exact Bool.false_ne_true h) | exact va_AO.moved (hvm ▸ Vm.Alike.refl u.vm) hw
theorem mvw_moved {w : Cond} (h : mvw w = true) {u U : State} (hW : u.WarmedH U.vm) (hw : va_Nw w u) : va_Nw w U := by
  cases w <;> first | exact va_Nw.warmF hW hw | exact va_Nw.warmM hW hw | exact va_Nw.warmC hW hw | (exfalso; exact Bool.false_ne_true h) | skip
  rename_i t
  cases t <;> first | (exfalso; exact Bool.false_ne_true h) | exact va_AO.moved hW.alike hw
theorem KF.moved {G : GT} {u U : State} (hW : u.WarmedH U.vm) (h : KF G u) : KF G U := by
  obtain ⟨h0, h1, h2, h3, h4, h5⟩ := h
  exact ⟨fun w hw hm => mvw_moved hm hW (h0 w hw hm), h1.moved hW.alike, h2, h3.moved hW.alike, h4.moved hW.alike, h5.moved hW⟩
theorem KF.same {G : GT} {u U : State} (hvm : u.vm = U.vm) (h : KF G u) : KF G U := by
  obtain ⟨h0, h1, h2, h3, h4, h5⟩ := h
  have ha : u.vm.Alike U.vm := hvm ▸ Vm.Alike.refl u.vm
  exact ⟨fun w hw hm => mvw_same hm hvm (h0 w hw hm), h1.moved ha, h2, h3.moved ha, h4.moved ha, h5.same hvm⟩
theorem Tw_of {args : Array Value} {s : State} {G : GT} (h : ∀ w ∈ Gw, w.before args s = true) (hK : KF G s) : ∀ w ∈ Tw, w.before args s = true := by
  intro w hw
  obtain ⟨h1, h2⟩ := List.mem_filter.mp hw
  cases hg : goodWord w with
  | true => exact h w (List.mem_filter.mpr ⟨h1, hg⟩)
  | false =>
    have hm : mvw w = true := by simpa [hg] using h2
    exact mvw_use hm (hK.1 w h1 hm)
theorem in_Tw {w : Cond} (h : w ∈ lw_tbl) (hg : (goodWord w || mvw w) = true) : w ∈ Tw := List.mem_filter.mpr ⟨h, hg⟩
