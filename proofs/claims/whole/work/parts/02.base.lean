/-! NAMES: the classes, their fields in the order of the slots -/
def cl_R0 : String := "NeverInLine$Law"
def cl_T0 : u_T := fun k => match k with
  | 0 => ("NeverInLine$Law", "code", "[I", true)
  | 1 => ("NeverInLine$Law", "stack", "[I", true)
  | _ => ("NeverInLine$Law", "length", "I", false)
def cl_R1 : String := "NeverInLine$Reader"
def cl_T1 : u_T := fun k => match k with
  | 0 => ("NeverInLine$Reader", "draft", "[I", true)
  | 1 => ("NeverInLine$Reader", "drafted", "I", false)
  | 2 => ("NeverInLine$Reader", "fed", "I", false)
  | 3 => ("NeverInLine$Reader", "tape", "[I", true)
  | 4 => ("NeverInLine$Reader", "at", "I", false)
  | _ => ("NeverInLine$Reader", "fault", "I", false)
def cl_R2 : String := "NeverInLine$Plain"
def cl_T2 : u_T := fun k => match k with
  | 0 => ("NeverInLine$Plain", "x", "[I", true)
  | 1 => ("NeverInLine$Plain", "y", "[I", true)
  | 2 => ("NeverInLine$Plain", "height", "[I", true)
  | 3 => ("NeverInLine$Plain", "price", "[I", true)
  | 4 => ("NeverInLine$Plain", "old", "[I", true)
  | 5 => ("NeverInLine$Plain", "standing", "I", false)
  | 6 => ("NeverInLine$Plain", "turns", "[I", true)
  | 7 => ("NeverInLine$Plain", "roads", "I", false)
  | 8 => ("NeverInLine$Plain", "forests", "I", false)
  | 9 => ("NeverInLine$Plain", "corners", "[I", true)
  | 10 => ("NeverInLine$Plain", "forestAx", "[I", true)
  | 11 => ("NeverInLine$Plain", "forestAy", "[I", true)
  | 12 => ("NeverInLine$Plain", "forestBx", "[I", true)
  | 13 => ("NeverInLine$Plain", "forestBy", "[I", true)
  | 14 => ("NeverInLine$Plain", "rule", "LNeverInLine$Law;", true)
  | 15 => ("NeverInLine$Plain", "names", "[I", true)
  | _ => ("NeverInLine$Plain", "verdicts", "[I", true)
def cl_R3 : String := "NeverInLine$Planner"
def cl_T3 : u_T := fun k => match k with
  | 0 => ("NeverInLine$Planner", "plain", "LNeverInLine$Plain;", true)
  | 1 => ("NeverInLine$Planner", "quarrels", "[I", true)
  | 2 => ("NeverInLine$Planner", "steps", "[I", true)
  | 3 => ("NeverInLine$Planner", "queue", "[I", true)
  | _ => ("NeverInLine$Planner", "savedByBend", "I", false)
def cl_R4 : String := "NeverInLine$Game"
def cl_T4 : u_T := fun k => match k with
  | 0 => ("NeverInLine$Game", "plain", "LNeverInLine$Plain;", true)
  | 1 => ("NeverInLine$Game", "clashes", "[I", true)
  | 2 => ("NeverInLine$Game", "wins", "[Z", true)
  | 3 => ("NeverInLine$Game", "least", "I", false)
  | 4 => ("NeverInLine$Game", "side", "I", false)
  | _ => ("NeverInLine$Game", "open", "I", false)
def cl_R5 : String := "NeverInLine$Walker"
def cl_T5 : u_T := fun k => match k with
  | 0 => ("NeverInLine$Walker", "told", "I", false)
  | 1 => ("NeverInLine$Walker", "plain", "LNeverInLine$Plain;", true)
  | 2 => ("NeverInLine$Walker", "points", "[I", true)
  | 3 => ("NeverInLine$Walker", "sights", "[I", true)
  | _ => ("NeverInLine$Walker", "without", "[I", true)
def cl_R6 : String := "NeverInLine$History"
def cl_T6 : u_T := fun k => match k with
  | 0 => ("NeverInLine$History", "past", "I", false)
  | 1 => ("NeverInLine$History", "undone", "I", false)
  | 2 => ("NeverInLine$History", "plain", "LNeverInLine$Plain;", true)
  | 3 => ("NeverInLine$History", "towers", "[I", true)
  | 4 => ("NeverInLine$History", "traits", "[I", true)
  | 5 => ("NeverInLine$History", "before", "[I", true)
  | _ => ("NeverInLine$History", "after", "[I", true)
def cl_R7 : String := "NeverInLine$Ways"
def cl_T7 : u_T := fun k => match k with
  | 0 => ("NeverInLine$Ways", "bodies", "I", false)
  | 1 => ("NeverInLine$Ways", "ran", "I", false)
  | 2 => ("NeverInLine$Ways", "kinds", "[I", true)
  | 3 => ("NeverInLine$Ways", "began", "[I", true)
  | _ => ("NeverInLine$Ways", "self", "I", false)
def cl_R8 : String := "NeverInLine$Shelf"
def cl_T8 : u_T := fun k => match k with
  | 0 => ("NeverInLine$Shelf", "cells", "[J", true)
  | 1 => ("NeverInLine$Shelf", "body", "I", false)
  | 2 => ("NeverInLine$Shelf", "sort", "I", false)
  | _ => ("NeverInLine$Shelf", "size", "I", false)
def cl_R9 : String := "NeverInLine"
def cl_T9 : u_T := fun k => match k with
  | 0 => ("NeverInLine", "rule", "LNeverInLine$Law;", true)
  | 1 => ("NeverInLine", "reader", "LNeverInLine$Reader;", true)
  | 2 => ("NeverInLine", "plain", "LNeverInLine$Plain;", true)
  | 3 => ("NeverInLine", "planner", "LNeverInLine$Planner;", true)
  | 4 => ("NeverInLine", "match", "LNeverInLine$Game;", true)
  | 5 => ("NeverInLine", "walker", "LNeverInLine$Walker;", true)
  | 6 => ("NeverInLine", "history", "LNeverInLine$History;", true)
  | 7 => ("NeverInLine", "ways", "LNeverInLine$Ways;", true)
  | _ => ("NeverInLine", "shelves", "[LNeverInLine$Shelf;", true)
def cl_R10 : String := "NeverInLineModel"
def cl_T10 : u_T := fun k => match k with
  | 0 => ("NeverInLineModel", "may", "[I", true)
  | 1 => ("NeverInLineModel", "changeAt", "[I", true)
  | 2 => ("NeverInLineModel", "changeWas", "[I", true)
  | 3 => ("NeverInLineModel", "changeIs", "[I", true)
  | 4 => ("NeverInLineModel", "keptMany", "I", false)
  | 5 => ("NeverInLineModel", "done", "I", false)
  | 6 => ("NeverInLineModel", "towers", "I", false)
  | 7 => ("NeverInLineModel", "at1", "[I", true)
  | 8 => ("NeverInLineModel", "number", "[I", true)
  | 9 => ("NeverInLineModel", "thoughtHeight", "[I", true)
  | 10 => ("NeverInLineModel", "roads", "I", false)
  | 11 => ("NeverInLineModel", "corners", "[I", true)
  | 12 => ("NeverInLineModel", "road", "[I", true)
  | 13 => ("NeverInLineModel", "forests", "I", false)
  | 14 => ("NeverInLineModel", "forest", "[I", true)
  | 15 => ("NeverInLineModel", "tape", "[I", true)
  | 16 => ("NeverInLineModel", "tapeMany", "I", false)
  | 17 => ("NeverInLineModel", "text", "[I", true)
  | 18 => ("NeverInLineModel", "textMany", "I", false)
  | 19 => ("NeverInLineModel", "base", "I", false)
  | 20 => ("NeverInLineModel", "at", "I", false)
  | 21 => ("NeverInLineModel", "ends", "I", false)
  | 22 => ("NeverInLineModel", "fault", "I", false)
  | 23 => ("NeverInLineModel", "opened", "I", false)
  | 24 => ("NeverInLineModel", "names", "[I", true)
  | 25 => ("NeverInLineModel", "above", "J", false)
  | 26 => ("NeverInLineModel", "below", "J", false)
  | 27 => ("NeverInLineModel", "against", "[I", true)
  | 28 => ("NeverInLineModel", "mayGo", "[Z", true)
  | 29 => ("NeverInLineModel", "steps", "[I", true)
  | 30 => ("NeverInLineModel", "row1", "[I", true)
  | 31 => ("NeverInLineModel", "won", "[I", true)
  | 32 => ("NeverInLineModel", "gameAt", "I", false)
  | 33 => ("NeverInLineModel", "gameSide", "I", false)
  | 34 => ("NeverInLineModel", "gameHeight", "I", false)
  | 35 => ("NeverInLineModel", "firstWin", "I", false)
  | 36 => ("NeverInLineModel", "sights", "I", false)
  | 37 => ("NeverInLineModel", "sightAt", "[I", true)
  | 38 => ("NeverInLineModel", "sightBits", "[I", true)
  | 39 => ("NeverInLineModel", "bodies", "I", false)
  | 40 => ("NeverInLineModel", "bodyKind", "[I", true)
  | 41 => ("NeverInLineModel", "trace", "[I", true)
  | 42 => ("NeverInLineModel", "ran", "I", false)
  | 43 => ("NeverInLineModel", "ownKind", "I", false)
  | 44 => ("NeverInLineModel", "ownNumber", "I", false)
  | 45 => ("NeverInLineModel", "shelf", "[I", true)
  | 46 => ("NeverInLineModel", "many", "[I", true)
  | 47 => ("NeverInLineModel", "items", "[J", true)
  | _ => ("NeverInLineModel", "carried", "[J", true)
def gk_cl : List vw_C := [("NeverInLine$Law", cl_T0, 3), ("NeverInLine$Reader", cl_T1, 6), ("NeverInLine$Plain", cl_T2, 17), ("NeverInLine$Planner", cl_T3, 5), ("NeverInLine$Game", cl_T4, 6), ("NeverInLine$Walker", cl_T5, 5), ("NeverInLine$History", cl_T6, 7), ("NeverInLine$Ways", cl_T7, 5), ("NeverInLine$Shelf", cl_T8, 4), ("NeverInLine", cl_T9, 9), ("NeverInLineModel", cl_T10, 49)]
def gk_nest : List Cond := [Cond.methodLinkNest "NeverInLine$Plain" 67 ⟨"NeverInLine", "isPoint", "(I)Z"⟩ "NeverInLine", Cond.methodLinkNest "NeverInLine$Plain" 71 ⟨"NeverInLine", "isHeight", "(I)Z"⟩ "NeverInLine"]
theorem gk_nest_ok : ∀ w ∈ gk_nest, ∃ a i x b, w = Cond.methodLinkNest a i x b := by
  intro w hw
  simp only [gk_nest, List.mem_cons, List.not_mem_nil, or_false] at hw
  rcases hw with rfl | rfl <;> exact ⟨_, _, _, _, rfl⟩
/-! THE BASE: a memory of numbers behind a fixed world of cells; a judgement that hides the heap; a row an instruction. -/
abbrev gk_M : Type := (Nat → Nat → Int32) × (Nat → Nat → Int64)
/-- a field: a reference to a cell (by its number), an int (false), a long (true) -/
abbrev gk_f : Type := Nat ⊕ Bool
/-- a cell: an array (sort, length, first cell of an array of cells), or an object (class, fields) -/
abbrev gk_c : Type := (Nat × Nat × Nat) ⊕ (Nat × List gk_f)
/-- a world: its cells, its static tables -/
abbrev gk_T : Type := List gk_c × List (String × String × List Int32)
def gk_mi (mem : gk_M) (k j : Nat) (v : Int32) : gk_M := (fun a b => if a = k ∧ b = j then v else mem.1 a b, mem.2)
def gk_ml (mem : gk_M) (k j : Nat) (v : Int64) : gk_M := (mem.1, fun a b => if a = k ∧ b = j then v else mem.2 a b)
def gk_v (ad : Nat → Nat) : Value → Value
  | .ref k => .ref (ad k)
  | .int x => .int x
  | .long x => .long x
  | .float x => .float x
  | .double x => .double x
  | .null => .null
  | .retAddr x => .retAddr x
theorem gk_v_cat (ad : Nat → Nat) (v : Value) : (gk_v ad v).category = v.category := by cases v <;> rfl
def gk_fa (mem : gk_M) (k j : Nat) : gk_f → Value
  | .inl r => .ref r
  | .inr false => .int (mem.1 k j)
  | .inr true => .long (mem.2 k j)
def gk_ac (ad : Nat → Nat) (mem : gk_M) (k b : Nat) : Nat → ((Nat → Int32) ⊕ (Nat → Int64) ⊕ (Nat → UInt32) ⊕ (Nat → UInt64) ⊕ (Nat → Option Nat))
  | 0 => .inl (mem.1 k)
  | 1 => .inl (mem.1 k)
  | 2 => .inr (.inl (mem.2 k))
  | _ => .inr (.inr (.inr (.inr (fun i => some (ad (b + i))))))
def gk_ce (ad : Nat → Nat) (dA : Nat → ClassId) (mem : gk_M) (k : Nat) : gk_c → va_E
  | .inl (t, n, b) => .inl (dA k, n, gk_ac ad mem k b t)
  | .inr (ci, fs) => .inr (ci, fs.mapIdx (fun j f => gk_v ad (gk_fa mem k j f)))
def gk_pw (t : gk_T) (ad : Nat → Nat) (dA : Nat → ClassId) (mem : gk_M) : va_W := t.1.mapIdx (fun k c => (ad k, gk_ce ad dA mem k c))
def gk_ty : Nat → FieldType
  | 0 => .int
  | 1 => .boolean
  | 2 => .long
  | _ => .object "NeverInLine$Shelf"
def gk_tl (dA : Nat → ClassId) (k : Nat) : gk_c → List (ClassId × FieldType)
  | .inl (t, _, _) => [(dA k, gk_ty t)]
  | .inr _ => []
def gk_tys (t : gk_T) (dA : Nat → ClassId) : List (ClassId × FieldType) := (t.1.mapIdx (fun k c => gk_tl dA k c)).flatten
theorem gk_pw_at {t : gk_T} {ad : Nat → Nat} {dA : Nat → ClassId} {mem : gk_M} {k : Nat} {c : gk_c} (h : t.1[k]? = some c) : (gk_pw t ad dA mem)[k]? = some (ad k, gk_ce ad dA mem k c) := by
  simp [gk_pw, List.getElem?_mapIdx, h]
theorem gk_tys_at {t : gk_T} {dA : Nat → ClassId} {k y n b : Nat} (h : t.1[k]? = some (.inl (y, n, b))) : ∃ t0 : Nat, (gk_tys t dA)[t0]? = some (dA k, gk_ty y) := by
  apply List.getElem?_of_mem
  unfold gk_tys
  rw [List.mem_flatten]
  refine ⟨[(dA k, gk_ty y)], ?_, List.mem_singleton.mpr rfl⟩
  exact List.mem_of_getElem? (i := k) (by simp [List.getElem?_mapIdx, h, gk_tl])
/-- a cell set anew, where the others are as they were -/
theorem gk_set {t : gk_T} {ad : Nat → Nat} {dA : Nat → ClassId} {mem mem' : gk_M} {k : Nat} {c : gk_c} {x : Nat × va_E} (h : t.1[k]? = some c) (hx : x = (ad k, gk_ce ad dA mem' k c)) (ho : ∀ j c', j ≠ k → gk_ce ad dA mem' j c' = gk_ce ad dA mem j c') : (gk_pw t ad dA mem).set k x = gk_pw t ad dA mem' := by
  subst hx
  apply List.ext_getElem?
  intro i
  rw [List.getElem?_set]
  by_cases hi : k = i
  · subst hi
    have hlt : k < t.1.length := (List.getElem?_eq_some_iff.mp h).1
    rw [if_pos rfl, if_pos (by simpa [gk_pw] using hlt)]
    exact (gk_pw_at h).symm
  · rw [if_neg hi]
    cases hc : t.1[i]? with
    | none => simp [gk_pw, List.getElem?_mapIdx, hc]
    | some c' =>
      simp [gk_pw, List.getElem?_mapIdx, hc]
      exact (ho i c' (fun e => hi e.symm)).symm
theorem gk_ce_mi {ad : Nat → Nat} {dA : Nat → ClassId} {mem : gk_M} {k j a : Nat} {v : Int32} (c : gk_c) (h : a ≠ k) : gk_ce ad dA (gk_mi mem k j v) a c = gk_ce ad dA mem a c := by
  have e1 : (gk_mi mem k j v).1 a = mem.1 a := by funext b; simp [gk_mi, h]
  have e2 : (gk_mi mem k j v).2 = mem.2 := rfl
  cases c with
  | inl q =>
    obtain ⟨t, n, b⟩ := q
    simp only [gk_ce]
    congr 3
    match t with
    | 0 => simp [gk_ac, e1]
    | 1 => simp [gk_ac, e1]
    | 2 => simp [gk_ac, e2]
    | (m + 3) => simp [gk_ac]
  | inr q =>
    obtain ⟨ci, fs⟩ := q
    simp only [gk_ce]
    congr 2
    apply List.ext_getElem?
    intro i
    simp only [List.getElem?_mapIdx]
    cases fs[i]? with
    | none => rfl
    | some f =>
      match f with
      | .inl r => rfl
      | .inr false => simp [gk_fa, e1]
      | .inr true => simp [gk_fa, e2]
theorem gk_ce_ml {ad : Nat → Nat} {dA : Nat → ClassId} {mem : gk_M} {k j a : Nat} {v : Int64} (c : gk_c) (h : a ≠ k) : gk_ce ad dA (gk_ml mem k j v) a c = gk_ce ad dA mem a c := by
  have e1 : (gk_ml mem k j v).2 a = mem.2 a := by funext b; simp [gk_ml, h]
  have e2 : (gk_ml mem k j v).1 = mem.1 := rfl
  cases c with
  | inl q =>
    obtain ⟨t, n, b⟩ := q
    simp only [gk_ce]
    congr 3
    match t with
    | 0 => simp [gk_ac, e2]
    | 1 => simp [gk_ac, e2]
    | 2 => simp [gk_ac, e1]
    | (m + 3) => simp [gk_ac]
  | inr q =>
    obtain ⟨ci, fs⟩ := q
    simp only [gk_ce]
    congr 2
    apply List.ext_getElem?
    intro i
    simp only [List.getElem?_mapIdx]
    cases fs[i]? with
    | none => rfl
    | some f =>
      match f with
      | .inl r => rfl
      | .inr false => simp [gk_fa, e2]
      | .inr true => simp [gk_fa, e1]
/-- the words that every contract stands on: those of the tables that a call may carry on -/
def gk_W : List Cond := lw_tbl.filter goodWord
theorem gk_in {w : Cond} (i : Nat) (h : lw_tbl[i]? = some w) (g : goodWord w = true) : w ∈ gk_W := List.mem_filter.mpr ⟨List.mem_of_getElem? h, g⟩
theorem gk_good {big : List Cond} (hb : ∀ w ∈ gk_W, w ∈ big) {c : Cond} (hc : c ∈ gk_W) : GoodIn big (c :: gk_W) := by
  intro w hw
  have hw2 : w ∈ gk_W := by
    rcases List.mem_cons.mp hw with rfl | h
    · exact hc
    · exact h
  exact ⟨hb w hw2, good_of_word (List.mem_filter.mp hw2).2⟩
/-- a method: its name, its code, its locals, what it answers -/
abbrev gk_Y : Type := MethodName × ByteArray × Nat × Option FieldType
/-- where the world lies: the classes, the addresses of its cells, their array classes -/
abbrev gk_U : Type := va_G × (Nat → Nat) × (Nat → ClassId)
/-- a frame that runs -/
abbrev gk_Z : Type := Launch × gk_U × Program × Env × Room × State × MethodId × Array Value × List Frame × Method × Code × Nat × Nat × (Nat → Prop)
abbrev gk_zl (z : gk_Z) : Launch := z.1
abbrev gk_zu (z : gk_Z) : gk_U := z.2.1
abbrev gk_zp (z : gk_Z) : Program := z.2.2.1
abbrev gk_ze (z : gk_Z) : Env := z.2.2.2.1
abbrev gk_zR (z : gk_Z) : Room := z.2.2.2.2.1
abbrev gk_zs (z : gk_Z) : State := z.2.2.2.2.2.1
abbrev gk_zm (z : gk_Z) : MethodId := z.2.2.2.2.2.2.1
abbrev gk_za (z : gk_Z) : Array Value := z.2.2.2.2.2.2.2.1
abbrev gk_zb (z : gk_Z) : List Frame := z.2.2.2.2.2.2.2.2.1
abbrev gk_zt (z : gk_Z) : Method := z.2.2.2.2.2.2.2.2.2.1
abbrev gk_zc (z : gk_Z) : Code := z.2.2.2.2.2.2.2.2.2.2.1
abbrev gk_z1 (z : gk_Z) : Nat := z.2.2.2.2.2.2.2.2.2.2.2.1
abbrev gk_z2 (z : gk_Z) : Nat := z.2.2.2.2.2.2.2.2.2.2.2.2.1
abbrev gk_zA (z : gk_Z) : Nat → Prop := z.2.2.2.2.2.2.2.2.2.2.2.2.2
/-- the machine at a frame z with heap H comes to Q -/
abbrev gk_w (z : gk_Z) (H : Heap) (locs : List Loc) (Q : State → Prop) (g : JFrame) : Prop := W (gk_zp z) (gk_zl z) (gk_ze z) (gk_zR z) (gk_zs z) (gk_zm z) (gk_za z) (gk_zb z) (gk_zt z) (gk_zc z) H locs (gk_z1 z) (gk_z2 z) Q g
abbrev gk_pz (t : gk_T) (u : gk_U) (mem : gk_M) : va_W := gk_pw t u.2.1 u.2.2 mem
def gk_lq (ad : Nat → Nat) (q : Nat × Value) : Nat × Value := (q.1, gk_v ad q.2)
/-- from here (memory, locals, stack, place) the machine comes to Q, whatever heap bears the memory -/
def gk_G (t : gk_T) (z : gk_Z) (y : gk_Y) (Q : State → Prop) (mem : gk_M) (lv : List (Nat × Value)) (st : List Value) (pc : Nat) : Prop :=
  ∀ (H : Heap) (locs : List Loc) (ls : Array Slot), va_P (gk_zu z).1 gk_cl (gk_pz t (gk_zu z) mem) H → va_S (gk_zA z) (gk_zs z).heap H locs → lv_has ls y.2.2.1 (lv.map (gk_lq (gk_zu z).2.1)) → gk_w z H locs Q (F0 (gk_zm z) pc ls (st.map (gk_v (gk_zu z).2.1)))
/-- what a state knows of the world: the classes; the static tables; the nest mates' links -/
def gk_K (t : gk_T) (u : gk_U) (A : Nat → Prop) (U : State) (H : Heap) : Prop :=
  va_K u.1 gk_cl (gk_tys t u.2.2) U ∧ (∀ (i : Nat) (q : String × String × List Int32), t.2[i]? = some q → va_Z q.1 q.2.1 "[I" (.ref (u.2.1 (1000 + i))) A U H ∧ va_T .int (u.2.1 (1000 + i)) q.2.2.length (fun j => .int (q.2.2.getD j 0)) A U H) ∧ ∀ w ∈ gk_nest, va_Nw w U
def gk_A (t : gk_T) (u : gk_U) (sz : Nat) : Nat → Prop := fun q => (∃ k : Nat, k < t.1.length ∧ q = u.2.1 k) ∨ sz ≤ q
def gk_rm (lev : Nat) : Room := { frames := lev, cells := 0, slots := 0, locals := 64 * lev }
/-- the facts of a frame: the machine, the code, the words, the world, the room for calls below 'lev' -/
def gk_F (t : gk_T) (z : gk_Z) (y : gk_Y) (lev : Nat) : Prop :=
  (gk_zp z).tables.exec = Jvm.exec ∧ (gk_zc z).code = y.2.1 ∧ (gk_zc z).maxLocals = y.2.2.1 ∧ (gk_zs z).vm.findClass y.1.cls = some (gk_zm z).cls ∧ (∀ w ∈ gk_W, w.before (gk_za z) (gk_zs z) = true) ∧ gk_K t (gk_zu z) (gk_zA z) (gk_zs z) (gk_zs z).heap ∧ (∀ q, (gk_zs z).heap.size ≤ q → gk_zA z q) ∧ (∀ mem, va_D (gk_zA z) (gk_pz t (gk_zu z) mem)) ∧ (lev ≤ (gk_zR z).frames ∧ 64 * lev ≤ (gk_zR z).locals ∧ gk_z1 z ≤ (gk_zR z).cells ∧ gk_z2 z ≤ (gk_zR z).slots) ∧ (gk_zt z).locks = false ∧ (gk_zt z).sig.returnType = y.2.2.2
/-- behind a method: its answer, its memory, nothing else changed -/
def gk_Q (t : gk_T) (u : gk_U) (A : Nat → Prop) (r : Option Value) (mem : gk_M) : Array Value → State → Outcome → State → Prop := fun _ st oc T => oc = .returned (r.map (gk_v u.2.1)) ∧ va_P u.1 gk_cl (gk_pz t u mem) T.heap ∧ va_F A st T
def gk_P (t : gk_T) (u : gk_U) (As : List Value) (mem : gk_M) (sz : Nat) : Array Value → State → Prop := va_Pc (As.map (gk_v u.2.1)) (fun U => U.heap.size = sz ∧ va_P u.1 gk_cl (gk_pz t u mem) U.heap ∧ gk_K t u (gk_A t u sz) U U.heap)
/-- THE CONTRACT: at these arguments and this memory the method answers r, and the memory is mem' -/
def gk_C (t : gk_T) (l : Launch) (u : gk_U) (y : gk_Y) (lev : Nat) (As : List Value) (mem : gk_M) (r : Option Value) (mem' : gk_M) : Prop :=
  ∀ sz : Nat, Met l y.1 (.code y.1 y.2.1 y.2.2.1 y.2.2.2 :: gk_W) (gk_rm lev) (gk_P t u As mem sz) (gk_Q t u (gk_A t u sz) r mem') 0 0 (gk_A t u sz)
/-- a frame's end -/
def gk_R (t : gk_T) (z : gk_Z) (r : Option Value) (mem : gk_M) : State → Prop := MQ (gk_zb z) (gk_Q t (gk_zu z) (gk_zA z) r mem) (gk_za z) (gk_zs z) (gk_z1 z) (gk_z2 z) (gk_zA z)

def gk_lg : List (Nat × Value) → Nat → Option Value
  | [], _ => none
  | q :: l, i => if q.1 = i then some q.2 else gk_lg l i
theorem gk_lg_mem {i : Nat} {v : Value} : ∀ {l : List (Nat × Value)}, gk_lg l i = some v → (i, v) ∈ l
  | [], h => by cases h
  | q :: l, h => by
    unfold gk_lg at h
    by_cases hq : q.1 = i
    · rw [if_pos hq] at h
      cases h
      subst hq
      exact List.mem_cons_self
    · rw [if_neg hq] at h
      exact List.mem_cons_of_mem _ (gk_lg_mem h)
theorem gk_lg_at {ls : Array Slot} {n : Nat} {lv : List (Nat × Value)} {ad : Nat → Nat} (hl : lv_has ls n (lv.map (gk_lq ad))) {i : Nat} {v : Value} (h : gk_lg lv i = some v) : ls[i]? = some (.val (gk_v ad v)) :=
  hl.2.2 (i, gk_v ad v) (List.mem_map.mpr ⟨(i, v), gk_lg_mem h, rfl⟩)
def gk_s1 (lv : List (Nat × Value)) (i : Nat) (v : Value) : List (Nat × Value) := (i, v) :: lv.filter (fun q => !(q.1 == i) && !(q.1 + 1 == i && q.2.category == 2))
def gk_s2 (lv : List (Nat × Value)) (i : Nat) (v : Value) : List (Nat × Value) := (i, v) :: lv.filter (fun q => !(q.1 == i) && (!(q.1 == i + 1) && !(q.1 + 1 == i && q.2.category == 2)))
theorem gk_s1_map (ad : Nat → Nat) (lv : List (Nat × Value)) (i : Nat) (v : Value) : (i, gk_v ad v) :: (lv.map (gk_lq ad)).filter (fun q => !(q.1 == i) && !(q.1 + 1 == i && q.2.category == 2)) = (gk_s1 lv i v).map (gk_lq ad) := by
  unfold gk_s1
  rw [List.map_cons, List.filter_map]
  congr 2
  apply List.filter_congr
  intro q _
  simp [gk_lq, gk_v_cat]
theorem gk_s2_map (ad : Nat → Nat) (lv : List (Nat × Value)) (i : Nat) (v : Value) : (i, gk_v ad v) :: (lv.map (gk_lq ad)).filter (fun q => !(q.1 == i) && (!(q.1 == i + 1) && !(q.1 + 1 == i && q.2.category == 2))) = (gk_s2 lv i v).map (gk_lq ad) := by
  unfold gk_s2
  rw [List.map_cons, List.filter_map]
  congr 2
  apply List.filter_congr
  intro q _
  simp [gk_lq, gk_v_cat]
/-! words of the pure side: what a step may do -/
def gk_let {α β : Type} (e : α) (k : α → Option β) : Option β := k e
def gk_bi {β : Type} (r : Option (Int32 × gk_M)) (k : Int32 → gk_M → Option β) : Option β := match r with
  | none => none
  | some q => k q.1 q.2
def gk_bl {β : Type} (r : Option (Int64 × gk_M)) (k : Int64 → gk_M → Option β) : Option β := match r with
  | none => none
  | some q => k q.1 q.2
def gk_bv {β : Type} (r : Option (Unit × gk_M)) (k : gk_M → Option β) : Option β := match r with
  | none => none
  | some q => k q.2
def gk_ai {β : Type} (mem : gk_M) (k L : Nat) (i : Int32) (c : Int32 → Option β) : Option β := if i < 0 ∨ L ≤ i.toNatClampNeg then none else c (mem.1 k i.toNatClampNeg)
def gk_al {β : Type} (mem : gk_M) (k L : Nat) (i : Int32) (c : Int64 → Option β) : Option β := if i < 0 ∨ L ≤ i.toNatClampNeg then none else c (mem.2 k i.toNatClampNeg)
def gk_ar {β : Type} (L : Nat) (i : Int32) (c : Nat → Option β) : Option β := if i < 0 ∨ L ≤ i.toNatClampNeg then none else c i.toNatClampNeg
def gk_at {β : Type} (q : List Int32) (i : Int32) (c : Int32 → Option β) : Option β := if i < 0 ∨ q.length ≤ i.toNatClampNeg then none else c (q.getD i.toNatClampNeg 0)
def gk_si {β : Type} (mem : gk_M) (k L : Nat) (i v : Int32) (c : gk_M → Option β) : Option β := if i < 0 ∨ L ≤ i.toNatClampNeg then none else c (gk_mi mem k i.toNatClampNeg v)
def gk_sl {β : Type} (mem : gk_M) (k L : Nat) (i : Int32) (v : Int64) (c : gk_M → Option β) : Option β := if i < 0 ∨ L ≤ i.toNatClampNeg then none else c (gk_ml mem k i.toNatClampNeg v)
def gk_di {β : Type} (x y : Int32) (c : Int32 → Option β) : Option β := if y = 0 then none else c (x / y)
def gk_re {β : Type} (x y : Int32) (c : Int32 → Option β) : Option β := if y = 0 then none else c (x - x / y * y)
def gk_dl {β : Type} (x y : Int64) (c : Int64 → Option β) : Option β := if y = 0 then none else c (x / y)
def gk_rl {β : Type} (x y : Int64) (c : Int64 → Option β) : Option β := if y = 0 then none else c (x - x / y * y)
def gk_zz {β : Type} (v : Int32) (c : Option β) : Option β := if v = 0 ∨ v = 1 then c else none
def gk_ci {β : Type} (mem : gk_M) (k L : Nat) (sp : Int32) (k2 L2 : Nat) (dp n : Int32) (c : gk_M → Option β) : Option β := if sp < 0 ∨ dp < 0 ∨ n < 0 ∨ L < sp.toNatClampNeg + n.toNatClampNeg ∨ L2 < dp.toNatClampNeg + n.toNatClampNeg then none else c (fun a => if a = k2 then va_cpy (mem.1 k) (mem.1 k2) sp.toNatClampNeg dp.toNatClampNeg n.toNatClampNeg else mem.1 a, mem.2)
def gk_cl2 {β : Type} (mem : gk_M) (k L : Nat) (sp : Int32) (k2 L2 : Nat) (dp n : Int32) (c : gk_M → Option β) : Option β := if sp < 0 ∨ dp < 0 ∨ n < 0 ∨ L < sp.toNatClampNeg + n.toNatClampNeg ∨ L2 < dp.toNatClampNeg + n.toNatClampNeg then none else c (mem.1, fun a => if a = k2 then va_cpy (mem.2 k) (mem.2 k2) sp.toNatClampNeg dp.toNatClampNeg n.toNatClampNeg else mem.2 a)
/-! what the tables say of a class, a field's link, a method's link -/
def gk_CL (ci : Nat) (C : String) (T : u_T) (N : Nat) : Prop := gk_cl[ci]? = some (C, T, N) ∧ (∀ w ∈ u_ws C T N, w ∈ gk_W) ∧ (∃ ty : Nat → FieldType, ∀ k, k < N → parseFieldDescriptor (T k).2.2.1 = some (ty k)) ∧ (∀ a, a < N → ∀ b, b < N → a ≠ b → (T a).2.1 ≠ (T b).2.1)
def gk_FL (own : String) (idx ci j : Nat) : Prop := ∃ (C : String) (T : u_T) (N : Nat), gk_CL ci C T N ∧ j < N ∧ Cond.fieldLink own idx (T j).1 (T j).2.1 (T j).2.2.1 ∈ gk_W
def gk_FP (own : String) (idx ci j : Nat) (ty : FieldType) : Prop := ∃ (C : String) (T : u_T) (N : Nat), gk_CL ci C T N ∧ j < N ∧ Cond.fieldLink own idx (T j).1 (T j).2.1 (T j).2.2.1 ∈ gk_W ∧ (T j).2.2.2 = false ∧ parseFieldDescriptor (T j).2.2.1 = some ty
def gk_MC (yc : gk_Y) (n : Nat) : Prop := Cond.code yc.1 yc.2.1 yc.2.2.1 yc.2.2.2 ∈ gk_W ∧ Cond.initialized yc.1.cls ∈ gk_W ∧ (yc.1.cls ≠ "java/lang/invoke/MethodHandle" ∧ yc.1.cls ≠ "java/lang/invoke/VarHandle" ∧ (parseMethodDescriptor yc.1.desc).map (fun d => d.parameters.length) = some n) ∧ yc.2.2.1 ≤ 45 ∧ plainName yc.1.cls = true
def gk_MV (own : String) (idx : Nat) (yc : gk_Y) : Prop := Cond.methodLink own idx yc.1 ∈ gk_W ∧ Cond.instanceMethod yc.1 ∈ gk_W ∧ Cond.selects yc.1.cls yc.1 yc.1 ∈ gk_W
def gk_MS (own : String) (idx : Nat) (yc : gk_Y) : Prop := Cond.methodLink own idx yc.1 ∈ gk_W ∧ Cond.static yc.1 ∈ gk_W
def gk_MN (own : String) (idx : Nat) (yc : gk_Y) (host : String) : Prop := Cond.methodLinkNest own idx yc.1 host ∈ gk_nest ∧ Cond.static yc.1 ∈ gk_W

section GK
variable {t : gk_T} {z : gk_Z} {y : gk_Y} {lev : Nat} {Q : State → Prop} {mem : gk_M} {lv : List (Nat × Value)} {st : List Value} {pc : Nat}
theorem gk_iconst (K : gk_F t z y lev) {n : Int} {v : Int32} (hd : decode y.2.1 pc = .ok (.iconst n, 1)) (hv : Int32.ofInt n = v) (kk : gk_G t z y Q mem lv (.int v :: st) (pc + 1)) : gk_G t z y Q mem lv (st) pc :=
  fun H locs ls hP hS hl => lv_iconst K.1 K.2.1 hd hv (kk H locs ls hP hS hl)
theorem gk_bipush (K : gk_F t z y lev) {n : Int} {v : Int32} (hd : decode y.2.1 pc = .ok (.bipush n, 2)) (hv : (Int8.ofInt n).toInt32 = v) (kk : gk_G t z y Q mem lv (.int v :: st) (pc + 2)) : gk_G t z y Q mem lv (st) pc :=
  fun H locs ls hP hS hl => lv_bipush K.1 K.2.1 hd hv (kk H locs ls hP hS hl)
theorem gk_sipush (K : gk_F t z y lev) {n : Int} {v : Int32} (hd : decode y.2.1 pc = .ok (.sipush n, 3)) (hv : (Int16.ofInt n).toInt32 = v) (kk : gk_G t z y Q mem lv (.int v :: st) (pc + 3)) : gk_G t z y Q mem lv (st) pc :=
  fun H locs ls hP hS hl => lv_sipush K.1 K.2.1 hd hv (kk H locs ls hP hS hl)
theorem gk_iload_n (K : gk_F t z y lev) {k : Fin 4} {v : Int32} (hd : decode y.2.1 pc = .ok (.iload_n k, 1)) (hg : gk_lg lv k = some (.int v)) (kk : gk_G t z y Q mem lv (.int v :: st) (pc + 1)) : gk_G t z y Q mem lv (st) pc :=
  fun H locs ls hP hS hl => lv_iload_n K.1 K.2.1 hd rfl (gk_lg_at hl hg) (kk H locs ls hP hS hl)
theorem gk_iload (K : gk_F t z y lev) {k : Nat} {v : Int32} (hd : decode y.2.1 pc = .ok (.iload k, 2)) (hg : gk_lg lv k = some (.int v)) (kk : gk_G t z y Q mem lv (.int v :: st) (pc + 2)) : gk_G t z y Q mem lv (st) pc :=
  fun H locs ls hP hS hl => lv_iload K.1 K.2.1 hd (gk_lg_at hl hg) (kk H locs ls hP hS hl)
theorem gk_lload_n (K : gk_F t z y lev) {k : Fin 4} {v : Int64} (hd : decode y.2.1 pc = .ok (.lload_n k, 1)) (hg : gk_lg lv k = some (.long v)) (kk : gk_G t z y Q mem lv (.long v :: st) (pc + 1)) : gk_G t z y Q mem lv (st) pc :=
  fun H locs ls hP hS hl => lv_lload_n K.1 K.2.1 hd rfl (gk_lg_at hl hg) (kk H locs ls hP hS hl)
theorem gk_lload (K : gk_F t z y lev) {k : Nat} {v : Int64} (hd : decode y.2.1 pc = .ok (.lload k, 2)) (hg : gk_lg lv k = some (.long v)) (kk : gk_G t z y Q mem lv (.long v :: st) (pc + 2)) : gk_G t z y Q mem lv (st) pc :=
  fun H locs ls hP hS hl => lv_lload K.1 K.2.1 hd (gk_lg_at hl hg) (kk H locs ls hP hS hl)
theorem gk_aload_n (K : gk_F t z y lev) {k : Fin 4} {v : Nat} (hd : decode y.2.1 pc = .ok (.aload_n k, 1)) (hg : gk_lg lv k = some (.ref v)) (kk : gk_G t z y Q mem lv (.ref v :: st) (pc + 1)) : gk_G t z y Q mem lv (st) pc :=
  fun H locs ls hP hS hl => lv_aload_n K.1 K.2.1 hd rfl (gk_lg_at hl hg) (kk H locs ls hP hS hl)
theorem gk_aload (K : gk_F t z y lev) {k : Nat} {v : Nat} (hd : decode y.2.1 pc = .ok (.aload k, 2)) (hg : gk_lg lv k = some (.ref v)) (kk : gk_G t z y Q mem lv (.ref v :: st) (pc + 2)) : gk_G t z y Q mem lv (st) pc :=
  fun H locs ls hP hS hl => lv_aload K.1 K.2.1 hd (gk_lg_at hl hg) (kk H locs ls hP hS hl)
theorem gk_istore_n (K : gk_F t z y lev) {k : Fin 4} {v : Int32} {lv2 : List (Nat × Value)} (hd : decode y.2.1 pc = .ok (.istore_n k, 1)) (hn : (k : Nat) < y.2.2.1) (hl2 : gk_s1 lv (k : Nat) (.int v) = lv2) (kk : gk_G t z y Q mem lv2 st (pc + 1)) : gk_G t z y Q mem lv (.int v :: st) pc :=
  fun H locs ls hP hS hl => lv_istore_n K.1 K.2.1 hd rfl hl hn (gk_s1_map _ lv (k : Nat) (.int v)) (fun ls2 h2 => kk H locs ls2 hP hS (hl2 ▸ h2))
theorem gk_istore (K : gk_F t z y lev) {k : Nat} {v : Int32} {lv2 : List (Nat × Value)} (hd : decode y.2.1 pc = .ok (.istore k, 2)) (hn : (k : Nat) < y.2.2.1) (hl2 : gk_s1 lv (k : Nat) (.int v) = lv2) (kk : gk_G t z y Q mem lv2 st (pc + 2)) : gk_G t z y Q mem lv (.int v :: st) pc :=
  fun H locs ls hP hS hl => lv_istore K.1 K.2.1 hd hl hn (gk_s1_map _ lv (k : Nat) (.int v)) (fun ls2 h2 => kk H locs ls2 hP hS (hl2 ▸ h2))
theorem gk_lstore_n (K : gk_F t z y lev) {k : Fin 4} {v : Int64} {lv2 : List (Nat × Value)} (hd : decode y.2.1 pc = .ok (.lstore_n k, 1)) (hn : (k : Nat) + 1 < y.2.2.1) (hl2 : gk_s2 lv (k : Nat) (.long v) = lv2) (kk : gk_G t z y Q mem lv2 st (pc + 1)) : gk_G t z y Q mem lv (.long v :: st) pc :=
  fun H locs ls hP hS hl => lv_lstore_n K.1 K.2.1 hd rfl hl hn (gk_s2_map _ lv (k : Nat) (.long v)) (fun ls2 h2 => kk H locs ls2 hP hS (hl2 ▸ h2))
theorem gk_lstore (K : gk_F t z y lev) {k : Nat} {v : Int64} {lv2 : List (Nat × Value)} (hd : decode y.2.1 pc = .ok (.lstore k, 2)) (hn : (k : Nat) + 1 < y.2.2.1) (hl2 : gk_s2 lv (k : Nat) (.long v) = lv2) (kk : gk_G t z y Q mem lv2 st (pc + 2)) : gk_G t z y Q mem lv (.long v :: st) pc :=
  fun H locs ls hP hS hl => lv_lstore K.1 K.2.1 hd hl hn (gk_s2_map _ lv (k : Nat) (.long v)) (fun ls2 h2 => kk H locs ls2 hP hS (hl2 ▸ h2))
theorem gk_astore_n (K : gk_F t z y lev) {k : Fin 4} {v : Nat} {lv2 : List (Nat × Value)} (hd : decode y.2.1 pc = .ok (.astore_n k, 1)) (hn : (k : Nat) < y.2.2.1) (hl2 : gk_s1 lv (k : Nat) (.ref v) = lv2) (kk : gk_G t z y Q mem lv2 st (pc + 1)) : gk_G t z y Q mem lv (.ref v :: st) pc :=
  fun H locs ls hP hS hl => lv_astore_n K.1 K.2.1 hd rfl hl hn (gk_s1_map _ lv (k : Nat) (.ref v)) (fun ls2 h2 => kk H locs ls2 hP hS (hl2 ▸ h2))
theorem gk_astore (K : gk_F t z y lev) {k : Nat} {v : Nat} {lv2 : List (Nat × Value)} (hd : decode y.2.1 pc = .ok (.astore k, 2)) (hn : (k : Nat) < y.2.2.1) (hl2 : gk_s1 lv (k : Nat) (.ref v) = lv2) (kk : gk_G t z y Q mem lv2 st (pc + 2)) : gk_G t z y Q mem lv (.ref v :: st) pc :=
  fun H locs ls hP hS hl => lv_astore K.1 K.2.1 hd hl hn (gk_s1_map _ lv (k : Nat) (.ref v)) (fun ls2 h2 => kk H locs ls2 hP hS (hl2 ▸ h2))
theorem gk_iinc (K : gk_F t z y lev) {i : Nat} {n : Int} {x v : Int32} {lv2 : List (Nat × Value)} (hd : decode y.2.1 pc = .ok (.iinc i n, 3)) (hg : gk_lg lv i = some (.int x)) (hv : x + Int32.ofInt n = v) (hn : i < y.2.2.1) (hl2 : gk_s1 lv i (.int v) = lv2) (kk : gk_G t z y Q mem lv2 st (pc + 3)) : gk_G t z y Q mem lv st pc := by
  intro H locs ls hP hS hl
  obtain ⟨k, hk⟩ := List.getElem?_of_mem (List.mem_map.mpr ⟨(i, .int x), gk_lg_mem hg, rfl⟩ : (gk_lq (gk_zu z).2.1 (i, .int x)) ∈ lv.map (gk_lq (gk_zu z).2.1))
  exact lv_iinc K.1 K.2.1 hd hl hk hv hn (gk_s1_map _ lv i (.int v)) (fun ls2 h2 => kk H locs ls2 hP hS (hl2 ▸ h2))
theorem gk_iadd (K : gk_F t z y lev) {x w : Int32} (hd : decode y.2.1 pc = .ok (.iadd, 1)) (kk : gk_G t z y Q mem lv (.int (x + w) :: st) (pc + 1)) : gk_G t z y Q mem lv (.int w :: .int x :: st) pc :=
  fun H locs ls hP hS hl => lv_iadd K.1 K.2.1 hd (kk H locs ls hP hS hl)
theorem gk_isub (K : gk_F t z y lev) {x w : Int32} (hd : decode y.2.1 pc = .ok (.isub, 1)) (kk : gk_G t z y Q mem lv (.int (x - w) :: st) (pc + 1)) : gk_G t z y Q mem lv (.int w :: .int x :: st) pc :=
  fun H locs ls hP hS hl => lv_isub K.1 K.2.1 hd (kk H locs ls hP hS hl)
theorem gk_imul (K : gk_F t z y lev) {x w : Int32} (hd : decode y.2.1 pc = .ok (.imul, 1)) (kk : gk_G t z y Q mem lv (.int (x * w) :: st) (pc + 1)) : gk_G t z y Q mem lv (.int w :: .int x :: st) pc :=
  fun H locs ls hP hS hl => lv_imul K.1 K.2.1 hd (kk H locs ls hP hS hl)
theorem gk_iand (K : gk_F t z y lev) {x w : Int32} (hd : decode y.2.1 pc = .ok (.iand, 1)) (kk : gk_G t z y Q mem lv (.int (x &&& w) :: st) (pc + 1)) : gk_G t z y Q mem lv (.int w :: .int x :: st) pc :=
  fun H locs ls hP hS hl => lv_iand K.1 K.2.1 hd (kk H locs ls hP hS hl)
theorem gk_ior (K : gk_F t z y lev) {x w : Int32} (hd : decode y.2.1 pc = .ok (.ior, 1)) (kk : gk_G t z y Q mem lv (.int (x ||| w) :: st) (pc + 1)) : gk_G t z y Q mem lv (.int w :: .int x :: st) pc :=
  fun H locs ls hP hS hl => lv_ior K.1 K.2.1 hd (kk H locs ls hP hS hl)
theorem gk_ixor (K : gk_F t z y lev) {x w : Int32} (hd : decode y.2.1 pc = .ok (.ixor, 1)) (kk : gk_G t z y Q mem lv (.int (x ^^^ w) :: st) (pc + 1)) : gk_G t z y Q mem lv (.int w :: .int x :: st) pc :=
  fun H locs ls hP hS hl => lv_ixor K.1 K.2.1 hd (kk H locs ls hP hS hl)
theorem gk_ishl (K : gk_F t z y lev) {x w : Int32} (hd : decode y.2.1 pc = .ok (.ishl, 1)) (kk : gk_G t z y Q mem lv (.int (x <<< (w &&& 31)) :: st) (pc + 1)) : gk_G t z y Q mem lv (.int w :: .int x :: st) pc :=
  fun H locs ls hP hS hl => lv_ishl K.1 K.2.1 hd (kk H locs ls hP hS hl)
theorem gk_ishr (K : gk_F t z y lev) {x w : Int32} (hd : decode y.2.1 pc = .ok (.ishr, 1)) (kk : gk_G t z y Q mem lv (.int (x >>> (w &&& 31)) :: st) (pc + 1)) : gk_G t z y Q mem lv (.int w :: .int x :: st) pc :=
  fun H locs ls hP hS hl => lv_ishr K.1 K.2.1 hd (kk H locs ls hP hS hl)
theorem gk_iushr (K : gk_F t z y lev) {x w : Int32} {v : Int32} (hd : decode y.2.1 pc = .ok (.iushr, 1)) (hv : (x.toUInt32 >>> (w.toUInt32 &&& Int32.toUInt32 31)).toInt32 = v) (kk : gk_G t z y Q mem lv (.int v :: st) (pc + 1)) : gk_G t z y Q mem lv (.int w :: .int x :: st) pc :=
  fun H locs ls hP hS hl => lv_iushr K.1 K.2.1 hd hv (kk H locs ls hP hS hl)
theorem gk_ineg (K : gk_F t z y lev) {x : Int32} (hd : decode y.2.1 pc = .ok (.ineg, 1)) (kk : gk_G t z y Q mem lv (.int (-x) :: st) (pc + 1)) : gk_G t z y Q mem lv (.int x :: st) pc :=
  fun H locs ls hP hS hl => lv_ineg K.1 K.2.1 hd (kk H locs ls hP hS hl)
theorem gk_lneg (K : gk_F t z y lev) {x : Int64} (hd : decode y.2.1 pc = .ok (.lneg, 1)) (kk : gk_G t z y Q mem lv (.long (-x) :: st) (pc + 1)) : gk_G t z y Q mem lv (.long x :: st) pc :=
  fun H locs ls hP hS hl => lv_lneg K.1 K.2.1 hd (kk H locs ls hP hS hl)
theorem gk_ladd (K : gk_F t z y lev) {x w : Int64} (hd : decode y.2.1 pc = .ok (.ladd, 1)) (kk : gk_G t z y Q mem lv (.long (x + w) :: st) (pc + 1)) : gk_G t z y Q mem lv (.long w :: .long x :: st) pc :=
  fun H locs ls hP hS hl => lv_ladd K.1 K.2.1 hd (kk H locs ls hP hS hl)
theorem gk_lsub (K : gk_F t z y lev) {x w : Int64} (hd : decode y.2.1 pc = .ok (.lsub, 1)) (kk : gk_G t z y Q mem lv (.long (x - w) :: st) (pc + 1)) : gk_G t z y Q mem lv (.long w :: .long x :: st) pc :=
  fun H locs ls hP hS hl => lv_lsub K.1 K.2.1 hd (kk H locs ls hP hS hl)
theorem gk_lmul (K : gk_F t z y lev) {x w : Int64} (hd : decode y.2.1 pc = .ok (.lmul, 1)) (kk : gk_G t z y Q mem lv (.long (x * w) :: st) (pc + 1)) : gk_G t z y Q mem lv (.long w :: .long x :: st) pc :=
  fun H locs ls hP hS hl => lv_lmul K.1 K.2.1 hd (kk H locs ls hP hS hl)
theorem gk_land (K : gk_F t z y lev) {x w : Int64} (hd : decode y.2.1 pc = .ok (.land, 1)) (kk : gk_G t z y Q mem lv (.long (x &&& w) :: st) (pc + 1)) : gk_G t z y Q mem lv (.long w :: .long x :: st) pc :=
  fun H locs ls hP hS hl => lv_land K.1 K.2.1 hd (kk H locs ls hP hS hl)
theorem gk_lor (K : gk_F t z y lev) {x w : Int64} (hd : decode y.2.1 pc = .ok (.lor, 1)) (kk : gk_G t z y Q mem lv (.long (x ||| w) :: st) (pc + 1)) : gk_G t z y Q mem lv (.long w :: .long x :: st) pc :=
  fun H locs ls hP hS hl => lv_lor K.1 K.2.1 hd (kk H locs ls hP hS hl)
theorem gk_idivc (K : gk_F t z y lev) {x w : Int32} (hd : decode y.2.1 pc = .ok (.idiv, 1)) (h0 : ¬ w = 0) (kk : gk_G t z y Q mem lv (.int (x / w) :: st) (pc + 1)) : gk_G t z y Q mem lv (.int w :: .int x :: st) pc :=
  fun H locs ls hP hS hl => lv_idiv K.1 K.2.1 hd h0 (kk H locs ls hP hS hl)
theorem gk_iremc (K : gk_F t z y lev) {x w : Int32} (hd : decode y.2.1 pc = .ok (.irem, 1)) (h0 : ¬ w = 0) (kk : gk_G t z y Q mem lv (.int (x - x / w * w) :: st) (pc + 1)) : gk_G t z y Q mem lv (.int w :: .int x :: st) pc :=
  fun H locs ls hP hS hl => lv_irem K.1 K.2.1 hd h0 (kk H locs ls hP hS hl)
theorem gk_lconst (K : gk_F t z y lev) {n : Fin 2} {v : Int64} (hd : decode y.2.1 pc = .ok (.lconst n, 1)) (hv : Int64.ofNat n = v) (kk : gk_G t z y Q mem lv (.long v :: st) (pc + 1)) : gk_G t z y Q mem lv (st) pc :=
  fun H locs ls hP hS hl => lv_lconst K.1 K.2.1 hd hv (kk H locs ls hP hS hl)
theorem gk_i2l (K : gk_F t z y lev) {x : Int32} (hd : decode y.2.1 pc = .ok (.i2l, 1)) (kk : gk_G t z y Q mem lv (.long x.toInt64 :: st) (pc + 1)) : gk_G t z y Q mem lv (.int x :: st) pc :=
  fun H locs ls hP hS hl => lv_i2l K.1 K.2.1 hd rfl (kk H locs ls hP hS hl)
theorem gk_l2i (K : gk_F t z y lev) {x : Int64} (hd : decode y.2.1 pc = .ok (.l2i, 1)) (kk : gk_G t z y Q mem lv (.int x.toInt32 :: st) (pc + 1)) : gk_G t z y Q mem lv (.long x :: st) pc :=
  fun H locs ls hP hS hl => lv_l2i K.1 K.2.1 hd rfl (kk H locs ls hP hS hl)
theorem gk_i2b (K : gk_F t z y lev) {x : Int32} (hd : decode y.2.1 pc = .ok (.i2b, 1)) (kk : gk_G t z y Q mem lv (.int x.toInt8.toInt32 :: st) (pc + 1)) : gk_G t z y Q mem lv (.int x :: st) pc :=
  fun H locs ls hP hS hl => lv_i2b K.1 K.2.1 hd rfl (kk H locs ls hP hS hl)
theorem gk_i2s (K : gk_F t z y lev) {x : Int32} (hd : decode y.2.1 pc = .ok (.i2s, 1)) (kk : gk_G t z y Q mem lv (.int x.toInt16.toInt32 :: st) (pc + 1)) : gk_G t z y Q mem lv (.int x :: st) pc :=
  fun H locs ls hP hS hl => lv_i2s K.1 K.2.1 hd rfl (kk H locs ls hP hS hl)
theorem gk_dup (K : gk_F t z y lev) {v : Value} (hd : decode y.2.1 pc = .ok (.dup, 1)) (hc : v.category = 1) (kk : gk_G t z y Q mem lv (v :: v :: st) (pc + 1)) : gk_G t z y Q mem lv (v :: st) pc :=
  fun H locs ls hP hS hl => lv_dup K.1 K.2.1 hd (by rw [gk_v_cat]; exact hc) (kk H locs ls hP hS hl)
theorem gk_dup2 (K : gk_F t z y lev) {v w : Value} (hd : decode y.2.1 pc = .ok (.dup2, 1)) (hc : v.category = 1) (hw : w.category = 1) (kk : gk_G t z y Q mem lv (v :: w :: v :: w :: st) (pc + 1)) : gk_G t z y Q mem lv (v :: w :: st) pc :=
  fun H locs ls hP hS hl => lv_dup2_11 K.1 K.2.1 hd (by rw [gk_v_cat]; exact hc) (by rw [gk_v_cat]; exact hw) (kk H locs ls hP hS hl)
theorem gk_ldc (K : gk_F t z y lev) {i : Nat} {v : Int32} (hd : decode y.2.1 pc = .ok (.ldc i, 2)) (hw : Cond.constant y.1.cls i v ∈ gk_W) (kk : gk_G t z y Q mem lv (.int v :: st) (pc + 2)) : gk_G t z y Q mem lv (st) pc :=
  fun H locs ls hP hS hl => lv_ldc K.1 K.2.1 K.2.2.2.1 (K.2.2.2.2.1 _ hw) hd (kk H locs ls hP hS hl)
theorem gk_ldcw (K : gk_F t z y lev) {i : Nat} {v : Int32} (hd : decode y.2.1 pc = .ok (.ldc_w i, 3)) (hw : Cond.constant y.1.cls i v ∈ gk_W) (kk : gk_G t z y Q mem lv (.int v :: st) (pc + 3)) : gk_G t z y Q mem lv (st) pc :=
  fun H locs ls hP hS hl => lv_ldcw K.1 K.2.1 K.2.2.2.1 (K.2.2.2.2.1 _ hw) hd (kk H locs ls hP hS hl)
theorem gk_ldc2 (K : gk_F t z y lev) {i : Nat} {v : Int64} (hd : decode y.2.1 pc = .ok (.ldc2_w i, 3)) (hw : Cond.constantLong y.1.cls i v ∈ gk_W) (kk : gk_G t z y Q mem lv (.long v :: st) (pc + 3)) : gk_G t z y Q mem lv (st) pc :=
  fun H locs ls hP hS hl => lv_ldc2 K.1 K.2.1 K.2.2.2.1 (K.2.2.2.2.1 _ hw) hd (kk H locs ls hP hS hl)
theorem gk_goto (K : gk_F t z y lev) {off : Int} {tgt : Nat} (hd : decode y.2.1 pc = .ok (.goto off, 3)) (ht : (pc : Int) + off = (tgt : Int)) (kk : gk_G t z y Q mem lv st tgt) : gk_G t z y Q mem lv st pc :=
  fun H locs ls hP hS hl => lv_goto K.1 K.2.1 hd ht (kk H locs ls hP hS hl)
theorem gk_if_eq (K : gk_F t z y lev) {off : Int} {tgt : Nat} {x : Int32} {β : Type} {a b r : Option β} (hd : decode y.2.1 pc = .ok (.ifCond .eq off, 3)) (ht : (pc : Int) + off = (tgt : Int)) (h : (if x = 0 then a else b) = r) (kt : a = r → gk_G t z y Q mem lv st tgt) (kf : b = r → gk_G t z y Q mem lv st (pc + 3)) : gk_G t z y Q mem lv (.int x :: st) pc :=
  fun H locs ls hP hS hl => lv_if_eq K.1 K.2.1 hd ht (fun q => kt (by rw [if_pos q] at h; exact h) H locs ls hP hS hl) (fun q => kf (by rw [if_neg (q)] at h; exact h) H locs ls hP hS hl)
theorem gk_if_ne (K : gk_F t z y lev) {off : Int} {tgt : Nat} {x : Int32} {β : Type} {a b r : Option β} (hd : decode y.2.1 pc = .ok (.ifCond .ne off, 3)) (ht : (pc : Int) + off = (tgt : Int)) (h : (if ¬ x = 0 then a else b) = r) (kt : a = r → gk_G t z y Q mem lv st tgt) (kf : b = r → gk_G t z y Q mem lv st (pc + 3)) : gk_G t z y Q mem lv (.int x :: st) pc :=
  fun H locs ls hP hS hl => lv_if_ne K.1 K.2.1 hd ht (fun q => kt (by rw [if_pos q] at h; exact h) H locs ls hP hS hl) (fun q => kf (by rw [if_neg (fun nq => nq q)] at h; exact h) H locs ls hP hS hl)
theorem gk_if_lt (K : gk_F t z y lev) {off : Int} {tgt : Nat} {x : Int32} {β : Type} {a b r : Option β} (hd : decode y.2.1 pc = .ok (.ifCond .lt off, 3)) (ht : (pc : Int) + off = (tgt : Int)) (h : (if x < 0 then a else b) = r) (kt : a = r → gk_G t z y Q mem lv st tgt) (kf : b = r → gk_G t z y Q mem lv st (pc + 3)) : gk_G t z y Q mem lv (.int x :: st) pc :=
  fun H locs ls hP hS hl => lv_if_lt K.1 K.2.1 hd ht (fun q => kt (by rw [if_pos q] at h; exact h) H locs ls hP hS hl) (fun q => kf (by rw [if_neg (q)] at h; exact h) H locs ls hP hS hl)
theorem gk_if_ge (K : gk_F t z y lev) {off : Int} {tgt : Nat} {x : Int32} {β : Type} {a b r : Option β} (hd : decode y.2.1 pc = .ok (.ifCond .ge off, 3)) (ht : (pc : Int) + off = (tgt : Int)) (h : (if 0 ≤ x then a else b) = r) (kt : a = r → gk_G t z y Q mem lv st tgt) (kf : b = r → gk_G t z y Q mem lv st (pc + 3)) : gk_G t z y Q mem lv (.int x :: st) pc :=
  fun H locs ls hP hS hl => lv_if_ge K.1 K.2.1 hd ht (fun q => kt (by rw [if_pos q] at h; exact h) H locs ls hP hS hl) (fun q => kf (by rw [if_neg (q)] at h; exact h) H locs ls hP hS hl)
theorem gk_if_gt (K : gk_F t z y lev) {off : Int} {tgt : Nat} {x : Int32} {β : Type} {a b r : Option β} (hd : decode y.2.1 pc = .ok (.ifCond .gt off, 3)) (ht : (pc : Int) + off = (tgt : Int)) (h : (if 0 < x then a else b) = r) (kt : a = r → gk_G t z y Q mem lv st tgt) (kf : b = r → gk_G t z y Q mem lv st (pc + 3)) : gk_G t z y Q mem lv (.int x :: st) pc :=
  fun H locs ls hP hS hl => lv_if_gt K.1 K.2.1 hd ht (fun q => kt (by rw [if_pos q] at h; exact h) H locs ls hP hS hl) (fun q => kf (by rw [if_neg (q)] at h; exact h) H locs ls hP hS hl)
theorem gk_if_le (K : gk_F t z y lev) {off : Int} {tgt : Nat} {x : Int32} {β : Type} {a b r : Option β} (hd : decode y.2.1 pc = .ok (.ifCond .le off, 3)) (ht : (pc : Int) + off = (tgt : Int)) (h : (if x ≤ 0 then a else b) = r) (kt : a = r → gk_G t z y Q mem lv st tgt) (kf : b = r → gk_G t z y Q mem lv st (pc + 3)) : gk_G t z y Q mem lv (.int x :: st) pc :=
  fun H locs ls hP hS hl => lv_if_le K.1 K.2.1 hd ht (fun q => kt (by rw [if_pos q] at h; exact h) H locs ls hP hS hl) (fun q => kf (by rw [if_neg (q)] at h; exact h) H locs ls hP hS hl)
theorem gk_ic_eq (K : gk_F t z y lev) {off : Int} {tgt : Nat} {x w : Int32} {β : Type} {a b r : Option β} (hd : decode y.2.1 pc = .ok (.if_icmp .eq off, 3)) (ht : (pc : Int) + off = (tgt : Int)) (h : (if x = w then a else b) = r) (kt : a = r → gk_G t z y Q mem lv st tgt) (kf : b = r → gk_G t z y Q mem lv st (pc + 3)) : gk_G t z y Q mem lv (.int w :: .int x :: st) pc :=
  fun H locs ls hP hS hl => lv_icmp_eq K.1 K.2.1 hd ht (fun q => kt (by rw [if_pos q] at h; exact h) H locs ls hP hS hl) (fun q => kf (by rw [if_neg (q)] at h; exact h) H locs ls hP hS hl)
theorem gk_ic_ne (K : gk_F t z y lev) {off : Int} {tgt : Nat} {x w : Int32} {β : Type} {a b r : Option β} (hd : decode y.2.1 pc = .ok (.if_icmp .ne off, 3)) (ht : (pc : Int) + off = (tgt : Int)) (h : (if ¬ x = w then a else b) = r) (kt : a = r → gk_G t z y Q mem lv st tgt) (kf : b = r → gk_G t z y Q mem lv st (pc + 3)) : gk_G t z y Q mem lv (.int w :: .int x :: st) pc :=
  fun H locs ls hP hS hl => lv_icmp_ne K.1 K.2.1 hd ht (fun q => kt (by rw [if_pos q] at h; exact h) H locs ls hP hS hl) (fun q => kf (by rw [if_neg (fun nq => nq q)] at h; exact h) H locs ls hP hS hl)
theorem gk_ic_lt (K : gk_F t z y lev) {off : Int} {tgt : Nat} {x w : Int32} {β : Type} {a b r : Option β} (hd : decode y.2.1 pc = .ok (.if_icmp .lt off, 3)) (ht : (pc : Int) + off = (tgt : Int)) (h : (if x < w then a else b) = r) (kt : a = r → gk_G t z y Q mem lv st tgt) (kf : b = r → gk_G t z y Q mem lv st (pc + 3)) : gk_G t z y Q mem lv (.int w :: .int x :: st) pc :=
  fun H locs ls hP hS hl => lv_icmp_lt K.1 K.2.1 hd ht (fun q => kt (by rw [if_pos q] at h; exact h) H locs ls hP hS hl) (fun q => kf (by rw [if_neg (q)] at h; exact h) H locs ls hP hS hl)
theorem gk_ic_ge (K : gk_F t z y lev) {off : Int} {tgt : Nat} {x w : Int32} {β : Type} {a b r : Option β} (hd : decode y.2.1 pc = .ok (.if_icmp .ge off, 3)) (ht : (pc : Int) + off = (tgt : Int)) (h : (if w ≤ x then a else b) = r) (kt : a = r → gk_G t z y Q mem lv st tgt) (kf : b = r → gk_G t z y Q mem lv st (pc + 3)) : gk_G t z y Q mem lv (.int w :: .int x :: st) pc :=
  fun H locs ls hP hS hl => lv_icmp_ge K.1 K.2.1 hd ht (fun q => kt (by rw [if_pos q] at h; exact h) H locs ls hP hS hl) (fun q => kf (by rw [if_neg (q)] at h; exact h) H locs ls hP hS hl)
theorem gk_ic_gt (K : gk_F t z y lev) {off : Int} {tgt : Nat} {x w : Int32} {β : Type} {a b r : Option β} (hd : decode y.2.1 pc = .ok (.if_icmp .gt off, 3)) (ht : (pc : Int) + off = (tgt : Int)) (h : (if w < x then a else b) = r) (kt : a = r → gk_G t z y Q mem lv st tgt) (kf : b = r → gk_G t z y Q mem lv st (pc + 3)) : gk_G t z y Q mem lv (.int w :: .int x :: st) pc :=
  fun H locs ls hP hS hl => lv_icmp_gt K.1 K.2.1 hd ht (fun q => kt (by rw [if_pos q] at h; exact h) H locs ls hP hS hl) (fun q => kf (by rw [if_neg (q)] at h; exact h) H locs ls hP hS hl)
theorem gk_ic_le (K : gk_F t z y lev) {off : Int} {tgt : Nat} {x w : Int32} {β : Type} {a b r : Option β} (hd : decode y.2.1 pc = .ok (.if_icmp .le off, 3)) (ht : (pc : Int) + off = (tgt : Int)) (h : (if x ≤ w then a else b) = r) (kt : a = r → gk_G t z y Q mem lv st tgt) (kf : b = r → gk_G t z y Q mem lv st (pc + 3)) : gk_G t z y Q mem lv (.int w :: .int x :: st) pc :=
  fun H locs ls hP hS hl => lv_icmp_le K.1 K.2.1 hd ht (fun q => kt (by rw [if_pos q] at h; exact h) H locs ls hP hS hl) (fun q => kf (by rw [if_neg (q)] at h; exact h) H locs ls hP hS hl)
theorem gk_lcq_eq (x w : Int64) : (lg_cmp x w = 0) ↔ (x = w) := by
  unfold lg_cmp
  by_cases h1 : x > w
  · rw [if_pos h1]
    have h2 : ¬ x = w := fun q => by subst q; exact absurd h1 Int64.lt_irrefl
    have h3 : ¬ x < w := fun q => Int64.lt_asymm h1 q
    have h4 : w < x := h1
    have h5 : w ≤ x := Int64.le_of_lt h1
    have h6 : ¬ x ≤ w := Int64.not_le.mpr h1
    simp [h2, h3, h4, h5, h6] <;> decide
  · rw [if_neg h1]
    by_cases h2 : x = w
    · subst h2
      simp [Int64.lt_irrefl]
    · rw [if_neg h2]
      have h5 : ¬ w < x := h1
      have h6 : x ≤ w := Int64.not_lt.mp h5
      have h3 : x < w := Int64.lt_of_le_of_ne h6 h2
      have h7 : ¬ w ≤ x := Int64.not_le.mpr h3
      simp [h2, h3, h5, h6, h7] <;> decide
theorem gk_lc_eq (K : gk_F t z y lev) {off : Int} {tgt : Nat} {x w : Int64} {β : Type} {a b r : Option β} (hc : decode y.2.1 pc = .ok (.lcmp, 1)) (hd : decode y.2.1 (pc + 1) = .ok (.ifCond .eq off, 3)) (ht : ((pc + 1 : Nat) : Int) + off = (tgt : Int)) (h : (if x = w then a else b) = r) (kt : a = r → gk_G t z y Q mem lv st tgt) (kf : b = r → gk_G t z y Q mem lv st (pc + 4)) : gk_G t z y Q mem lv (.long w :: .long x :: st) pc :=
  fun H locs ls hP hS hl => W.lcmp K.1 K.2.1 hc (lv_if_eq K.1 K.2.1 hd ht (fun q => kt (by rw [if_pos ((gk_lcq_eq x w).mp q)] at h; exact h) H locs ls hP hS hl) (fun q => kf (by rw [if_neg (fun q2 => q ((gk_lcq_eq x w).mpr q2))] at h; exact h) H locs ls hP hS hl))
theorem gk_lcq_ne (x w : Int64) : (¬ lg_cmp x w = 0) ↔ (¬ x = w) := by
  unfold lg_cmp
  by_cases h1 : x > w
  · rw [if_pos h1]
    have h2 : ¬ x = w := fun q => by subst q; exact absurd h1 Int64.lt_irrefl
    have h3 : ¬ x < w := fun q => Int64.lt_asymm h1 q
    have h4 : w < x := h1
    have h5 : w ≤ x := Int64.le_of_lt h1
    have h6 : ¬ x ≤ w := Int64.not_le.mpr h1
    simp [h2, h3, h4, h5, h6] <;> decide
  · rw [if_neg h1]
    by_cases h2 : x = w
    · subst h2
      simp [Int64.lt_irrefl]
    · rw [if_neg h2]
      have h5 : ¬ w < x := h1
      have h6 : x ≤ w := Int64.not_lt.mp h5
      have h3 : x < w := Int64.lt_of_le_of_ne h6 h2
      have h7 : ¬ w ≤ x := Int64.not_le.mpr h3
      simp [h2, h3, h5, h6, h7] <;> decide
theorem gk_lc_ne (K : gk_F t z y lev) {off : Int} {tgt : Nat} {x w : Int64} {β : Type} {a b r : Option β} (hc : decode y.2.1 pc = .ok (.lcmp, 1)) (hd : decode y.2.1 (pc + 1) = .ok (.ifCond .ne off, 3)) (ht : ((pc + 1 : Nat) : Int) + off = (tgt : Int)) (h : (if ¬ x = w then a else b) = r) (kt : a = r → gk_G t z y Q mem lv st tgt) (kf : b = r → gk_G t z y Q mem lv st (pc + 4)) : gk_G t z y Q mem lv (.long w :: .long x :: st) pc :=
  fun H locs ls hP hS hl => W.lcmp K.1 K.2.1 hc (lv_if_ne K.1 K.2.1 hd ht (fun q => kt (by rw [if_pos ((gk_lcq_ne x w).mp q)] at h; exact h) H locs ls hP hS hl) (fun q => kf (by rw [if_neg (fun q2 => ((gk_lcq_ne x w).mpr q2) q)] at h; exact h) H locs ls hP hS hl))
theorem gk_lcq_lt (x w : Int64) : (lg_cmp x w < 0) ↔ (x < w) := by
  unfold lg_cmp
  by_cases h1 : x > w
  · rw [if_pos h1]
    have h2 : ¬ x = w := fun q => by subst q; exact absurd h1 Int64.lt_irrefl
    have h3 : ¬ x < w := fun q => Int64.lt_asymm h1 q
    have h4 : w < x := h1
    have h5 : w ≤ x := Int64.le_of_lt h1
    have h6 : ¬ x ≤ w := Int64.not_le.mpr h1
    simp [h2, h3, h4, h5, h6] <;> decide
  · rw [if_neg h1]
    by_cases h2 : x = w
    · subst h2
      simp [Int64.lt_irrefl]
    · rw [if_neg h2]
      have h5 : ¬ w < x := h1
      have h6 : x ≤ w := Int64.not_lt.mp h5
      have h3 : x < w := Int64.lt_of_le_of_ne h6 h2
      have h7 : ¬ w ≤ x := Int64.not_le.mpr h3
      simp [h2, h3, h5, h6, h7] <;> decide
theorem gk_lc_lt (K : gk_F t z y lev) {off : Int} {tgt : Nat} {x w : Int64} {β : Type} {a b r : Option β} (hc : decode y.2.1 pc = .ok (.lcmp, 1)) (hd : decode y.2.1 (pc + 1) = .ok (.ifCond .lt off, 3)) (ht : ((pc + 1 : Nat) : Int) + off = (tgt : Int)) (h : (if x < w then a else b) = r) (kt : a = r → gk_G t z y Q mem lv st tgt) (kf : b = r → gk_G t z y Q mem lv st (pc + 4)) : gk_G t z y Q mem lv (.long w :: .long x :: st) pc :=
  fun H locs ls hP hS hl => W.lcmp K.1 K.2.1 hc (lv_if_lt K.1 K.2.1 hd ht (fun q => kt (by rw [if_pos ((gk_lcq_lt x w).mp q)] at h; exact h) H locs ls hP hS hl) (fun q => kf (by rw [if_neg (fun q2 => q ((gk_lcq_lt x w).mpr q2))] at h; exact h) H locs ls hP hS hl))
theorem gk_lcq_ge (x w : Int64) : (0 ≤ lg_cmp x w) ↔ (w ≤ x) := by
  unfold lg_cmp
  by_cases h1 : x > w
  · rw [if_pos h1]
    have h2 : ¬ x = w := fun q => by subst q; exact absurd h1 Int64.lt_irrefl
    have h3 : ¬ x < w := fun q => Int64.lt_asymm h1 q
    have h4 : w < x := h1
    have h5 : w ≤ x := Int64.le_of_lt h1
    have h6 : ¬ x ≤ w := Int64.not_le.mpr h1
    simp [h2, h3, h4, h5, h6] <;> decide
  · rw [if_neg h1]
    by_cases h2 : x = w
    · subst h2
      simp [Int64.lt_irrefl]
    · rw [if_neg h2]
      have h5 : ¬ w < x := h1
      have h6 : x ≤ w := Int64.not_lt.mp h5
      have h3 : x < w := Int64.lt_of_le_of_ne h6 h2
      have h7 : ¬ w ≤ x := Int64.not_le.mpr h3
      simp [h2, h3, h5, h6, h7] <;> decide
theorem gk_lc_ge (K : gk_F t z y lev) {off : Int} {tgt : Nat} {x w : Int64} {β : Type} {a b r : Option β} (hc : decode y.2.1 pc = .ok (.lcmp, 1)) (hd : decode y.2.1 (pc + 1) = .ok (.ifCond .ge off, 3)) (ht : ((pc + 1 : Nat) : Int) + off = (tgt : Int)) (h : (if w ≤ x then a else b) = r) (kt : a = r → gk_G t z y Q mem lv st tgt) (kf : b = r → gk_G t z y Q mem lv st (pc + 4)) : gk_G t z y Q mem lv (.long w :: .long x :: st) pc :=
  fun H locs ls hP hS hl => W.lcmp K.1 K.2.1 hc (lv_if_ge K.1 K.2.1 hd ht (fun q => kt (by rw [if_pos ((gk_lcq_ge x w).mp q)] at h; exact h) H locs ls hP hS hl) (fun q => kf (by rw [if_neg (fun q2 => q ((gk_lcq_ge x w).mpr q2))] at h; exact h) H locs ls hP hS hl))
theorem gk_lcq_gt (x w : Int64) : (0 < lg_cmp x w) ↔ (w < x) := by
  unfold lg_cmp
  by_cases h1 : x > w
  · rw [if_pos h1]
    have h2 : ¬ x = w := fun q => by subst q; exact absurd h1 Int64.lt_irrefl
    have h3 : ¬ x < w := fun q => Int64.lt_asymm h1 q
    have h4 : w < x := h1
    have h5 : w ≤ x := Int64.le_of_lt h1
    have h6 : ¬ x ≤ w := Int64.not_le.mpr h1
    simp [h2, h3, h4, h5, h6] <;> decide
  · rw [if_neg h1]
    by_cases h2 : x = w
    · subst h2
      simp [Int64.lt_irrefl]
    · rw [if_neg h2]
      have h5 : ¬ w < x := h1
      have h6 : x ≤ w := Int64.not_lt.mp h5
      have h3 : x < w := Int64.lt_of_le_of_ne h6 h2
      have h7 : ¬ w ≤ x := Int64.not_le.mpr h3
      simp [h2, h3, h5, h6, h7] <;> decide
theorem gk_lc_gt (K : gk_F t z y lev) {off : Int} {tgt : Nat} {x w : Int64} {β : Type} {a b r : Option β} (hc : decode y.2.1 pc = .ok (.lcmp, 1)) (hd : decode y.2.1 (pc + 1) = .ok (.ifCond .gt off, 3)) (ht : ((pc + 1 : Nat) : Int) + off = (tgt : Int)) (h : (if w < x then a else b) = r) (kt : a = r → gk_G t z y Q mem lv st tgt) (kf : b = r → gk_G t z y Q mem lv st (pc + 4)) : gk_G t z y Q mem lv (.long w :: .long x :: st) pc :=
  fun H locs ls hP hS hl => W.lcmp K.1 K.2.1 hc (lv_if_gt K.1 K.2.1 hd ht (fun q => kt (by rw [if_pos ((gk_lcq_gt x w).mp q)] at h; exact h) H locs ls hP hS hl) (fun q => kf (by rw [if_neg (fun q2 => q ((gk_lcq_gt x w).mpr q2))] at h; exact h) H locs ls hP hS hl))
theorem gk_lcq_le (x w : Int64) : (lg_cmp x w ≤ 0) ↔ (x ≤ w) := by
  unfold lg_cmp
  by_cases h1 : x > w
  · rw [if_pos h1]
    have h2 : ¬ x = w := fun q => by subst q; exact absurd h1 Int64.lt_irrefl
    have h3 : ¬ x < w := fun q => Int64.lt_asymm h1 q
    have h4 : w < x := h1
    have h5 : w ≤ x := Int64.le_of_lt h1
    have h6 : ¬ x ≤ w := Int64.not_le.mpr h1
    simp [h2, h3, h4, h5, h6] <;> decide
  · rw [if_neg h1]
    by_cases h2 : x = w
    · subst h2
      simp [Int64.lt_irrefl]
    · rw [if_neg h2]
      have h5 : ¬ w < x := h1
      have h6 : x ≤ w := Int64.not_lt.mp h5
      have h3 : x < w := Int64.lt_of_le_of_ne h6 h2
      have h7 : ¬ w ≤ x := Int64.not_le.mpr h3
      simp [h2, h3, h5, h6, h7] <;> decide
theorem gk_lc_le (K : gk_F t z y lev) {off : Int} {tgt : Nat} {x w : Int64} {β : Type} {a b r : Option β} (hc : decode y.2.1 pc = .ok (.lcmp, 1)) (hd : decode y.2.1 (pc + 1) = .ok (.ifCond .le off, 3)) (ht : ((pc + 1 : Nat) : Int) + off = (tgt : Int)) (h : (if x ≤ w then a else b) = r) (kt : a = r → gk_G t z y Q mem lv st tgt) (kf : b = r → gk_G t z y Q mem lv st (pc + 4)) : gk_G t z y Q mem lv (.long w :: .long x :: st) pc :=
  fun H locs ls hP hS hl => W.lcmp K.1 K.2.1 hc (lv_if_le K.1 K.2.1 hd ht (fun q => kt (by rw [if_pos ((gk_lcq_le x w).mp q)] at h; exact h) H locs ls hP hS hl) (fun q => kf (by rw [if_neg (fun q2 => q ((gk_lcq_le x w).mpr q2))] at h; exact h) H locs ls hP hS hl))
theorem gk_sub (ks : List Nat) {lv2 : List (Nat × Value)} (h : lv_pick lv ks = lv2) (kk : gk_G t z y Q mem lv2 st pc) : gk_G t z y Q mem lv st pc := by
  intro H locs ls hP hS hl
  refine kk H locs ls hP hS (lv_sub hl ks ?_)
  rw [← h]
  simp only [lv_pick, List.map_filterMap, List.getElem?_map]
theorem gk_topi {e : Int32} {β : Type} {k : Int32 → Option β} {r : Option β} (h : gk_let e k = r) (kk : ∀ v : Int32, k v = r → gk_G t z y Q mem lv (.int v :: st) pc) : gk_G t z y Q mem lv (.int e :: st) pc := kk e h
theorem gk_topl {e : Int64} {β : Type} {k : Int64 → Option β} {r : Option β} (h : gk_let e k = r) (kk : ∀ v : Int64, k v = r → gk_G t z y Q mem lv (.long v :: st) pc) : gk_G t z y Q mem lv (.long e :: st) pc := kk e h
end GK

section GKM
variable {t : gk_T} {z : gk_Z} {y : gk_Y} {lev : Nat} {Q : State → Prop} {mem : gk_M} {lv : List (Nat × Value)} {st : List Value} {pc : Nat}
theorem gk_get (K : gk_F t z y lev) {idx k ci j : Nat} {fs : List gk_f} {f : gk_f} {v : Value} (hd : decode y.2.1 pc = .ok (.getfield idx, 3)) (fl : gk_FL y.1.cls idx ci j) (hk : t.1[k]? = some (.inr (ci, fs))) (hj : fs[j]? = some f) (hv : gk_fa mem k j f = v) (kk : gk_G t z y Q mem lv (v :: st) (pc + 3)) : gk_G t z y Q mem lv (.ref k :: st) pc := by
  intro H locs ls hP hS hl
  obtain ⟨C, T, N, ⟨c1, c2, c3, c4⟩, hlt, hlink⟩ := fl
  obtain ⟨hx, hb, hml, hown, hts, ⟨hK, -⟩, -⟩ := id K
  subst hv
  exact va_get hx hb hts c2 hown hK hP k (gk_pw_at hk) c1 j hlt (hts _ hlink) (fun _ h9 => h9) (v := gk_v (gk_zu z).2.1 (gk_fa mem k j f)) (by simp [List.getElem?_mapIdx, hj]) hd (kk H locs ls hP hS hl)
theorem gk_fset {ad : Nat → Nat} {dA : Nat → ClassId} {k ci j : Nat} {fs : List gk_f} {v : Int32} (hj : fs[j]? = some (.inr false)) : (ad k, (Sum.inr (ci, (fs.mapIdx (fun i f => gk_v ad (gk_fa mem k i f))).set j (.int v)) : va_E)) = (ad k, gk_ce ad dA (gk_mi mem k j v) k (.inr (ci, fs))) := by
  simp only [gk_ce]
  congr 3
  apply List.ext_getElem?
  intro i
  rw [List.getElem?_set]
  have hlt : j < fs.length := (List.getElem?_eq_some_iff.mp hj).1
  by_cases hi : j = i
  · subst hi
    rw [if_pos rfl, if_pos (by simpa using hlt)]
    simp [List.getElem?_mapIdx, hj, gk_fa, gk_mi, gk_v]
  · rw [if_neg hi]
    simp only [List.getElem?_mapIdx]
    cases fs[i]? with
    | none => rfl
    | some f =>
      match f with
      | .inl r => rfl
      | .inr false => simp [gk_fa, gk_mi, Ne.symm hi]
      | .inr true => simp [gk_fa, gk_mi]
theorem gk_fsetl {ad : Nat → Nat} {dA : Nat → ClassId} {k ci j : Nat} {fs : List gk_f} {v : Int64} (hj : fs[j]? = some (.inr true)) : (ad k, (Sum.inr (ci, (fs.mapIdx (fun i f => gk_v ad (gk_fa mem k i f))).set j (.long v)) : va_E)) = (ad k, gk_ce ad dA (gk_ml mem k j v) k (.inr (ci, fs))) := by
  simp only [gk_ce]
  congr 3
  apply List.ext_getElem?
  intro i
  rw [List.getElem?_set]
  have hlt : j < fs.length := (List.getElem?_eq_some_iff.mp hj).1
  by_cases hi : j = i
  · subst hi
    rw [if_pos rfl, if_pos (by simpa using hlt)]
    simp [List.getElem?_mapIdx, hj, gk_fa, gk_ml, gk_v]
  · rw [if_neg hi]
    simp only [List.getElem?_mapIdx]
    cases fs[i]? with
    | none => rfl
    | some f =>
      match f with
      | .inl r => rfl
      | .inr false => simp [gk_fa, gk_ml]
      | .inr true => simp [gk_fa, gk_ml, Ne.symm hi]
theorem gk_puti (K : gk_F t z y lev) {idx k ci j : Nat} {fs : List gk_f} {x : Int32} {β : Type} {c : gk_M → Option β} {r : Option β} (hd : decode y.2.1 pc = .ok (.putfield idx, 3)) (fl : gk_FP y.1.cls idx ci j .int) (hk : t.1[k]? = some (.inr (ci, fs))) (hj : fs[j]? = some (.inr false)) (h : gk_let (gk_mi mem k j x) c = r) (kk : ∀ mem2, c mem2 = r → gk_G t z y Q mem2 lv st (pc + 3)) : gk_G t z y Q mem lv (.int x :: .ref k :: st) pc := by
  intro H locs ls hP hS hl
  obtain ⟨C, T, N, ⟨c1, c2, ⟨ty, c3⟩, c4⟩, hlt, hlink, hfin, hp⟩ := fl
  obtain ⟨hx, hb, hml, hown, hts, ⟨hK, -⟩, hA, hD, -⟩ := id K
  have hlf : j < fs.length := (List.getElem?_eq_some_iff.mp hj).1
  refine va_put (v := .int x) (ty := .int) hx hb hts c2 ty c3 c4 hown hK hP (hD mem) hS k (gk_pw_at hk) c1 j hlt (hts _ hlink) (fun _ h9 => h9) hfin hp rfl rfl (by simpa using hlf) hd (fun H1 locs1 hP1 hD1 hS1 => kk _ h H1 locs1 ls ?_ hS1 hl)
  rw [gk_set hk (gk_fset hj) (fun a c' ha => gk_ce_mi c' ha)] at hP1
  exact hP1
theorem gk_putl (K : gk_F t z y lev) {idx k ci j : Nat} {fs : List gk_f} {x : Int64} {β : Type} {c : gk_M → Option β} {r : Option β} (hd : decode y.2.1 pc = .ok (.putfield idx, 3)) (fl : gk_FP y.1.cls idx ci j .long) (hk : t.1[k]? = some (.inr (ci, fs))) (hj : fs[j]? = some (.inr true)) (h : gk_let (gk_ml mem k j x) c = r) (kk : ∀ mem2, c mem2 = r → gk_G t z y Q mem2 lv st (pc + 3)) : gk_G t z y Q mem lv (.long x :: .ref k :: st) pc := by
  intro H locs ls hP hS hl
  obtain ⟨C, T, N, ⟨c1, c2, ⟨ty, c3⟩, c4⟩, hlt, hlink, hfin, hp⟩ := fl
  obtain ⟨hx, hb, hml, hown, hts, ⟨hK, -⟩, hA, hD, -⟩ := id K
  have hlf : j < fs.length := (List.getElem?_eq_some_iff.mp hj).1
  refine va_put (v := .long x) (ty := .long) hx hb hts c2 ty c3 c4 hown hK hP (hD mem) hS k (gk_pw_at hk) c1 j hlt (hts _ hlink) (fun _ h9 => h9) hfin hp rfl rfl (by simpa using hlf) hd (fun H1 locs1 hP1 hD1 hS1 => kk _ h H1 locs1 ls ?_ hS1 hl)
  rw [gk_set hk (gk_fsetl hj) (fun a c' ha => gk_ce_ml c' ha)] at hP1
  exact hP1
theorem gk_iald (K : gk_F t z y lev) {k L b : Nat} {i : Int32} {β : Type} {c : Int32 → Option β} {r : β} (hd : decode y.2.1 pc = .ok (.iaload, 1)) (hk : t.1[k]? = some (.inl (0, L, b))) (h : gk_ai mem k L i c = some r) (kk : ∀ v, c v = some r → gk_G t z y Q mem lv (.int v :: st) (pc + 1)) : gk_G t z y Q mem lv (.int i :: .ref k :: st) pc := by
  intro H locs ls hP hS hl
  obtain ⟨hx, hb, hml, hown, hts, ⟨hK, -⟩, -⟩ := id K
  obtain ⟨t0, ht⟩ := gk_tys_at (dA := (gk_zu z).2.2) hk
  by_cases hin : i < 0 ∨ L ≤ i.toNatClampNeg
  · rw [gk_ai, if_pos hin] at h
    cases h
  · rw [gk_ai, if_neg hin] at h
    exact va_iald hx hb hK hP k t0 (gk_pw_at hk) ht hin hd (kk _ h H locs ls hP hS hl)
theorem gk_zald (K : gk_F t z y lev) {k L b : Nat} {i : Int32} {β : Type} {c : Int32 → Option β} {r : β} (hd : decode y.2.1 pc = .ok (.baload, 1)) (hk : t.1[k]? = some (.inl (1, L, b))) (h : gk_ai mem k L i c = some r) (kk : ∀ v, c v = some r → gk_G t z y Q mem lv (.int v :: st) (pc + 1)) : gk_G t z y Q mem lv (.int i :: .ref k :: st) pc := by
  intro H locs ls hP hS hl
  obtain ⟨hx, hb, hml, hown, hts, ⟨hK, -⟩, -⟩ := id K
  obtain ⟨t0, ht⟩ := gk_tys_at (dA := (gk_zu z).2.2) hk
  by_cases hin : i < 0 ∨ L ≤ i.toNatClampNeg
  · rw [gk_ai, if_pos hin] at h
    cases h
  · rw [gk_ai, if_neg hin] at h
    exact va_zald hx hb hK hP k t0 (gk_pw_at hk) ht hin hd (kk _ h H locs ls hP hS hl)
theorem gk_lald (K : gk_F t z y lev) {k L b : Nat} {i : Int32} {β : Type} {c : Int64 → Option β} {r : β} (hd : decode y.2.1 pc = .ok (.laload, 1)) (hk : t.1[k]? = some (.inl (2, L, b))) (h : gk_al mem k L i c = some r) (kk : ∀ v, c v = some r → gk_G t z y Q mem lv (.long v :: st) (pc + 1)) : gk_G t z y Q mem lv (.int i :: .ref k :: st) pc := by
  intro H locs ls hP hS hl
  obtain ⟨hx, hb, hml, hown, hts, ⟨hK, -⟩, -⟩ := id K
  obtain ⟨t0, ht⟩ := gk_tys_at (dA := (gk_zu z).2.2) hk
  by_cases hin : i < 0 ∨ L ≤ i.toNatClampNeg
  · rw [gk_al, if_pos hin] at h
    cases h
  · rw [gk_al, if_neg hin] at h
    exact va_lald hx hb hK hP k t0 (gk_pw_at hk) ht hin hd (kk _ h H locs ls hP hS hl)
theorem gk_aald (K : gk_F t z y lev) {k L b : Nat} {i : Int32} {β : Type} {c : Nat → Option β} {r : β} (hd : decode y.2.1 pc = .ok (.aaload, 1)) (hk : t.1[k]? = some (.inl (3, L, b))) (h : gk_ar L i c = some r) (kk : ∀ j, j < L → c j = some r → gk_G t z y Q mem lv (.ref (b + j) :: st) (pc + 1)) : gk_G t z y Q mem lv (.int i :: .ref k :: st) pc := by
  intro H locs ls hP hS hl
  obtain ⟨hx, hb, hml, hown, hts, ⟨hK, -⟩, -⟩ := id K
  obtain ⟨t0, ht⟩ := gk_tys_at (dA := (gk_zu z).2.2) hk
  by_cases hin : i < 0 ∨ L ≤ i.toNatClampNeg
  · rw [gk_ar, if_pos hin] at h
    cases h
  · rw [gk_ar, if_neg hin] at h
    exact va_aldq hx hb hK hP k t0 (gk_pw_at hk) ht hin hd (kk _ (Nat.not_le.mp fun q => hin (Or.inr q)) h H locs ls hP hS hl)
theorem gk_iast (K : gk_F t z y lev) {k L b : Nat} {i x : Int32} {β : Type} {c : gk_M → Option β} {r : β} (hd : decode y.2.1 pc = .ok (.iastore, 1)) (hk : t.1[k]? = some (.inl (0, L, b))) (h : gk_si mem k L i x c = some r) (kk : ∀ mem2, c mem2 = some r → gk_G t z y Q mem2 lv st (pc + 1)) : gk_G t z y Q mem lv (.int x :: .int i :: .ref k :: st) pc := by
  intro H locs ls hP hS hl
  obtain ⟨hx, hb, hml, hown, hts, ⟨hK, -⟩, hA, hD, -⟩ := id K
  obtain ⟨t0, ht⟩ := gk_tys_at (dA := (gk_zu z).2.2) hk
  by_cases hin : i < 0 ∨ L ≤ i.toNatClampNeg
  · rw [gk_si, if_pos hin] at h
    cases h
  · rw [gk_si, if_neg hin] at h
    refine va_iast hx hb hK hP (hD mem) hS k t0 (gk_pw_at hk) ht hin hd (fun H1 locs1 hP1 hD1 hS1 => kk _ h H1 locs1 ls ?_ hS1 hl)
    rw [gk_set (mem' := gk_mi mem k i.toNatClampNeg x) hk ?_ (fun a c' ha => gk_ce_mi c' ha)] at hP1
    · exact hP1
    · have e : (gk_mi mem k i.toNatClampNeg x).1 k = upd (mem.1 k) i.toNatClampNeg x := by funext j; simp [upd, gk_mi]
      simp only [gk_ce, gk_ac, e]
theorem gk_last (K : gk_F t z y lev) {k L b : Nat} {i : Int32} {x : Int64} {β : Type} {c : gk_M → Option β} {r : β} (hd : decode y.2.1 pc = .ok (.lastore, 1)) (hk : t.1[k]? = some (.inl (2, L, b))) (h : gk_sl mem k L i x c = some r) (kk : ∀ mem2, c mem2 = some r → gk_G t z y Q mem2 lv st (pc + 1)) : gk_G t z y Q mem lv (.long x :: .int i :: .ref k :: st) pc := by
  intro H locs ls hP hS hl
  obtain ⟨hx, hb, hml, hown, hts, ⟨hK, -⟩, hA, hD, -⟩ := id K
  obtain ⟨t0, ht⟩ := gk_tys_at (dA := (gk_zu z).2.2) hk
  by_cases hin : i < 0 ∨ L ≤ i.toNatClampNeg
  · rw [gk_sl, if_pos hin] at h
    cases h
  · rw [gk_sl, if_neg hin] at h
    refine va_last hx hb hK hP (hD mem) hS k t0 (gk_pw_at hk) ht hin hd (fun H1 locs1 hP1 hD1 hS1 => kk _ h H1 locs1 ls ?_ hS1 hl)
    rw [gk_set (mem' := gk_ml mem k i.toNatClampNeg x) hk ?_ (fun a c' ha => gk_ce_ml c' ha)] at hP1
    · exact hP1
    · have e : (gk_ml mem k i.toNatClampNeg x).2 k = vp_updL (mem.2 k) i.toNatClampNeg x := by funext j; simp [vp_updL, gk_ml]
      simp only [gk_ce, gk_ac, e]
theorem gk_zast (K : gk_F t z y lev) {k L b : Nat} {i x : Int32} {β : Type} {c : gk_M → Option β} {r : β} (hd : decode y.2.1 pc = .ok (.bastore, 1)) (hk : t.1[k]? = some (.inl (1, L, b))) (h : gk_zz x (gk_si mem k L i x c) = some r) (kk : ∀ mem2, c mem2 = some r → gk_G t z y Q mem2 lv st (pc + 1)) : gk_G t z y Q mem lv (.int x :: .int i :: .ref k :: st) pc := by
  intro H locs ls hP hS hl
  obtain ⟨hx, hb, hml, hown, hts, ⟨hK, -⟩, hA, hD, -⟩ := id K
  obtain ⟨t0, ht⟩ := gk_tys_at (dA := (gk_zu z).2.2) hk
  by_cases hz : x = 0 ∨ x = 1
  · rw [gk_zz, if_pos hz] at h
    have hnar : vp_nar .boolean x = x := by rcases hz with rfl | rfl <;> decide +kernel
    by_cases hin : i < 0 ∨ L ≤ i.toNatClampNeg
    · rw [gk_si, if_pos hin] at h
      cases h
    · rw [gk_si, if_neg hin] at h
      refine va_zast hx hb hK hP (hD mem) hS k t0 (gk_pw_at hk) ht hin hd (fun H1 locs1 hP1 hD1 hS1 => kk _ h H1 locs1 ls ?_ hS1 hl)
      rw [hnar, gk_set (mem' := gk_mi mem k i.toNatClampNeg x) hk ?_ (fun a c' ha => gk_ce_mi c' ha)] at hP1
      · exact hP1
      · have e : (gk_mi mem k i.toNatClampNeg x).1 k = upd (mem.1 k) i.toNatClampNeg x := by funext j; simp [upd, gk_mi]
        simp only [gk_ce, gk_ac, e]
  · rw [gk_zz, if_neg hz] at h
    cases h
theorem gk_alen (K : gk_F t z y lev) {k ty L b : Nat} {v : Int32} (hd : decode y.2.1 pc = .ok (.arraylength, 1)) (hk : t.1[k]? = some (.inl (ty, L, b))) (hv : Int32.ofNat L = v) (kk : gk_G t z y Q mem lv (.int v :: st) (pc + 1)) : gk_G t z y Q mem lv (.ref k :: st) pc := by
  intro H locs ls hP hS hl
  obtain ⟨hx, hb, hml, hown, hts, ⟨hK, -⟩, -⟩ := id K
  obtain ⟨t0, ht⟩ := gk_tys_at (dA := (gk_zu z).2.2) hk
  exact va_alen hx hb hK hP k t0 (gk_pw_at hk) ht hv hd (kk H locs ls hP hS hl)
theorem gk_gets (K : gk_F t z y lev) {idx i : Nat} {q : String × String × List Int32} (hd : decode y.2.1 pc = .ok (.getstatic idx, 3)) (hq : t.2[i]? = some q) (hlink : Cond.fieldLink y.1.cls idx q.1 q.2.1 "[I" ∈ gk_W) (kk : gk_G t z y Q mem lv (.ref (1000 + i) :: st) (pc + 3)) : gk_G t z y Q mem lv st pc := by
  intro H locs ls hP hS hl
  obtain ⟨hx, hb, hml, hown, hts, ⟨hK, hT, -⟩, -⟩ := id K
  exact va_gets hx hb (hT i q hq).1 hS hown (hts _ hlink) (fun _ h => h) hd (kk H locs ls hP hS hl)
theorem gk_tald (K : gk_F t z y lev) {i : Int32} {n : Nat} {q : String × String × List Int32} {β : Type} {c : Int32 → Option β} {r : β} (hd : decode y.2.1 pc = .ok (.iaload, 1)) (hq : t.2[n]? = some q) (h : gk_at q.2.2 i c = some r) (kk : ∀ v, c v = some r → gk_G t z y Q mem lv (.int v :: st) (pc + 1)) : gk_G t z y Q mem lv (.int i :: .ref (1000 + n) :: st) pc := by
  intro H locs ls hP hS hl
  obtain ⟨hx, hb, hml, hown, hts, ⟨hK, hT, -⟩, -⟩ := id K
  by_cases hin : i < 0 ∨ q.2.2.length ≤ i.toNatClampNeg
  · rw [gk_at, if_pos hin] at h
    cases h
  · rw [gk_at, if_neg hin] at h
    exact va_ti hx hb (hT n q hq).2 hS hin rfl hd (kk _ h H locs ls hP hS hl)
theorem gk_idiv (K : gk_F t z y lev) {x w : Int32} {β : Type} {c : Int32 → Option β} {r : β} (hd : decode y.2.1 pc = .ok (.idiv, 1)) (h : gk_di x w c = some r) (kk : ∀ v, c v = some r → gk_G t z y Q mem lv (.int v :: st) (pc + 1)) : gk_G t z y Q mem lv (.int w :: .int x :: st) pc := by
  intro H locs ls hP hS hl
  by_cases h0 : w = 0
  · rw [gk_di, if_pos h0] at h
    cases h
  · rw [gk_di, if_neg h0] at h
    exact lv_idiv K.1 K.2.1 hd h0 (kk _ h H locs ls hP hS hl)
theorem gk_irem (K : gk_F t z y lev) {x w : Int32} {β : Type} {c : Int32 → Option β} {r : β} (hd : decode y.2.1 pc = .ok (.irem, 1)) (h : gk_re x w c = some r) (kk : ∀ v, c v = some r → gk_G t z y Q mem lv (.int v :: st) (pc + 1)) : gk_G t z y Q mem lv (.int w :: .int x :: st) pc := by
  intro H locs ls hP hS hl
  by_cases h0 : w = 0
  · rw [gk_re, if_pos h0] at h
    cases h
  · rw [gk_re, if_neg h0] at h
    exact lv_irem K.1 K.2.1 hd h0 (kk _ h H locs ls hP hS hl)
theorem gk_ldiv (K : gk_F t z y lev) {x w : Int64} {β : Type} {c : Int64 → Option β} {r : β} (hd : decode y.2.1 pc = .ok (.ldiv, 1)) (h : gk_dl x w c = some r) (kk : ∀ v, c v = some r → gk_G t z y Q mem lv (.long v :: st) (pc + 1)) : gk_G t z y Q mem lv (.long w :: .long x :: st) pc := by
  intro H locs ls hP hS hl
  by_cases h0 : w = 0
  · rw [gk_dl, if_pos h0] at h
    cases h
  · rw [gk_dl, if_neg h0] at h
    exact lv_ldiv K.1 K.2.1 hd h0 (kk _ h H locs ls hP hS hl)
theorem gk_lrem (K : gk_F t z y lev) {x w : Int64} {β : Type} {c : Int64 → Option β} {r : β} (hd : decode y.2.1 pc = .ok (.lrem, 1)) (h : gk_rl x w c = some r) (kk : ∀ v, c v = some r → gk_G t z y Q mem lv (.long v :: st) (pc + 1)) : gk_G t z y Q mem lv (.long w :: .long x :: st) pc := by
  intro H locs ls hP hS hl
  by_cases h0 : w = 0
  · rw [gk_rl, if_pos h0] at h
    cases h
  · rw [gk_rl, if_neg h0] at h
    exact lv_lrem K.1 K.2.1 hd h0 (kk _ h H locs ls hP hS hl)
/-! ends -/
theorem gk_iret (K : gk_F t z y lev) {v r : Int32} {mem2 : gk_M} (hd : decode y.2.1 pc = .ok (.ireturn, 1)) (hr : y.2.2.2 = some .int) (h : some (v, mem) = some (r, mem2)) : gk_G t z y (gk_R t z (some (.int r)) mem2) mem lv [.int v] pc := by
  intro H locs ls hP hS hl
  cases h
  obtain ⟨hx, hb, hml, hown, hts, hK, hA, hD, hR, hlocks, hret⟩ := id K
  exact W.iret hx hb (hret.trans hr) (fun T hT hW => ⟨rfl, by rw [hT]; exact hP, hS.F hT⟩) hS.2.2 hd hlocks
theorem gk_zret (K : gk_F t z y lev) {v r : Int32} {mem2 : gk_M} (hd : decode y.2.1 pc = .ok (.ireturn, 1)) (hr : y.2.2.2 = some .boolean) (h : gk_zz v (some (v, mem)) = some (r, mem2)) : gk_G t z y (gk_R t z (some (.int r)) mem2) mem lv [.int v] pc := by
  intro H locs ls hP hS hl
  by_cases hz : v = 0 ∨ v = 1
  · rw [gk_zz, if_pos hz] at h
    cases h
    obtain ⟨hx, hb, hml, hown, hts, hK, hA, hD, hR, hlocks, hret⟩ := id K
    have hnar : narrow .boolean (.int v) = .int v := by rcases hz with rfl | rfl <;> decide +kernel
    exact W.zret hx hb (hret.trans hr) hnar (fun T hT hW => ⟨rfl, by rw [hT]; exact hP, hS.F hT⟩) hS.2.2 hd hlocks
  · rw [gk_zz, if_neg hz] at h
    cases h
theorem gk_lret (K : gk_F t z y lev) {v r : Int64} {mem2 : gk_M} (hd : decode y.2.1 pc = .ok (.lreturn, 1)) (hr : y.2.2.2 = some .long) (h : some (v, mem) = some (r, mem2)) : gk_G t z y (gk_R t z (some (.long r)) mem2) mem lv [.long v] pc := by
  intro H locs ls hP hS hl
  cases h
  obtain ⟨hx, hb, hml, hown, hts, hK, hA, hD, hR, hlocks, hret⟩ := id K
  exact W.lret hx hb (hret.trans hr) (fun T hT hW => ⟨rfl, by rw [hT]; exact hP, hS.F hT⟩) hS.2.2 hd hlocks
theorem gk_vret (K : gk_F t z y lev) {r : Unit} {mem2 : gk_M} (hd : decode y.2.1 pc = .ok (.return_, 1)) (hr : y.2.2.2 = none) (h : some ((), mem) = some (r, mem2)) : gk_G t z y (gk_R t z none mem2) mem lv [] pc := by
  intro H locs ls hP hS hl
  cases h
  obtain ⟨hx, hb, hml, hown, hts, hK, hA, hD, hR, hlocks, hret⟩ := id K
  exact W.vret hx hb (hret.trans hr) (fun T hT hW => ⟨rfl, by rw [hT]; exact hP, hS.F hT⟩) hS.2.2 hd hlocks
end GKM

section GKC
variable {t : gk_T} {z : gk_Z} {y : gk_Y} {lev : Nat} {Q : State → Prop} {mem : gk_M} {lv : List (Nat × Value)} {st : List Value} {pc : Nat}
theorem gk_free {u : gk_U} {A : Nat → Prop} {sz : Nat} (hD : ∀ mem, va_D A (gk_pz t u mem)) (hA : ∀ q, sz ≤ q → A q) : ∀ q, gk_A t u sz q → A q := by
  intro q hq
  rcases hq with ⟨k, hk, rfl⟩ | hq
  · obtain ⟨c, hc⟩ : ∃ c, t.1[k]? = some c := ⟨_, List.getElem?_eq_getElem hk⟩
    exact (hD (fun _ _ => 0, fun _ _ => 0)).2 k _ (gk_pw_at hc)
  · exact hA q hq
theorem gk_K_moved {u : gk_U} {A : Nat → Prop} {U V : State} {H : Heap} (hW : U.WarmedH V.vm) (h : gk_K t u A U H) : gk_K t u A V H := by
  obtain ⟨h1, h2, h3⟩ := h
  refine ⟨va_K.moved hW.alike h1, fun i q hq => ⟨va_Z.moved hW.alike (h2 i q hq).1, va_T.moved hW.alike (h2 i q hq).2⟩, fun w hw => ?_⟩
  have hz := h3 w hw
  revert hz
  have hn : ∃ a i x b, w = Cond.methodLinkNest a i x b := gk_nest_ok w hw
  obtain ⟨a, i, x, b, rfl⟩ := hn
  exact fun hz => va_Nw.warmM hW hz
theorem gk_K_kept {u : gk_U} {A B : Nat → Prop} {U : State} {H H1 : Heap} (hq : ∀ a : Nat, a < H.size → ¬ A a → H1[a]? = H[a]?) (hAB : ∀ q, B q → A q) (h : gk_K t u A U H) : gk_K t u B U H1 := by
  obtain ⟨h1, h2, h3⟩ := h
  exact ⟨h1, fun i q hi => ⟨((h2 i q hi).1.kept hq).narrow hAB, ((h2 i q hi).2.kept hq).narrow hAB⟩, h3⟩
theorem gk_K_same {u : gk_U} {A : Nat → Prop} {U V : State} {H : Heap} (hv : U.vm = V.vm) (h : gk_K t u A U H) : gk_K t u A V H := by
  have hal : U.vm.Alike V.vm := by rw [hv]; exact Vm.Alike.refl V.vm
  obtain ⟨h1, h2, h3⟩ := h
  refine ⟨va_K.moved hal h1, fun i q hq => ⟨va_Z.moved hal (h2 i q hq).1, va_T.moved hal (h2 i q hq).2⟩, fun w hw => ?_⟩
  obtain ⟨a, i, x, b, rfl⟩ := gk_nest_ok w hw
  exact va_Nw.same rfl hv (h3 _ hw)
theorem gk_blind {u : gk_U} {As : List Value} {sz : Nat} : FrameBlind (gk_P t u As mem sz) := by
  intro a U g mk h
  obtain ⟨h0, h1, h2, h3⟩ := h
  exact ⟨h0, h1, h2, gk_K_same (U := U) (V := U.calling g mk a) rfl h3⟩
theorem gk_after {H : Heap} {locs : List Loc} {ls : Array Slot} {st0 rest : List Value} {a : Array Value} {r : Option Value} {mem2 : gk_M} (K : gk_F t z y lev) (hS : va_S (gk_zA z) (gk_zs z).heap H locs)
    (hr : va_Run (gk_zp z) (gk_zl z) (gk_ze z) (gk_zR z) (gk_zs z) (gk_zm z) (gk_za z) (gk_zb z) (gk_zt z) (gk_zc z) H locs (gk_z1 z) (gk_z2 z) 0 0 (F0 (gk_zm z) pc ls st0) rest (gk_Q t (gk_zu z) (gk_A t (gk_zu z) H.size) r mem2 a) (gk_A t (gk_zu z) H.size))
    (kk : ∀ (H1 : Heap) (locs1 : List Loc), va_P (gk_zu z).1 gk_cl (gk_pz t (gk_zu z) mem2) H1 → va_S (gk_zA z) (gk_zs z).heap H1 locs1 → gk_w z H1 locs1 Q (F0 (gk_zm z) (pc + 3) ls ((r.map (gk_v (gk_zu z).2.1)).toList ++ rest))) : gk_w z H locs Q (F0 (gk_zm z) pc ls st0) := by
  obtain ⟨hx, hb, hml, hown, hts, hK, hA, hD, hR, hlocks, hret⟩ := id K
  have hF := gk_free (t := t) (u := gk_zu z) (sz := H.size) hD (fun q hq => hA q (Nat.le_trans hS.1 hq))
  intro T hT X
  obtain ⟨v, st0', t', T', L, h0, X', hL, e1, e2, ⟨hv, hp, hz, hk⟩, sts⟩ := hr T hT X
  have hv' : v = r.map (gk_v (gk_zu z).2.1) := by injection hv
  subst hv'
  rw [h0] at hz hk
  obtain ⟨t2, a1, b1⟩ := kk T'.heap (locs ++ L) (by rw [e1]; exact hp) ⟨Nat.le_trans hS.1 (by rw [e1]; exact hz), fun q h1 h2 => by rw [e1, hk q (Nat.lt_of_lt_of_le h1 hS.1) (fun w => h2 (hF q w))]; exact hS.2.1 q h1 h2, fun q hq => by
      rcases List.mem_append.mp hq with h | h
      · exact hS.2.2 q h
      · exact hF _ (hL q h)⟩ T' rfl X'
  exact ⟨t2, sts t2 a1, b1⟩
theorem gk_pre {H : Heap} {locs : List Loc} (K : gk_F t z y lev) (hP : va_P (gk_zu z).1 gk_cl (gk_pz t (gk_zu z) mem) H) (hS : va_S (gk_zA z) (gk_zs z).heap H locs) (As : List Value) : ∀ U : State, U.heap = H → (gk_zs z).WarmedH U.vm → gk_P t (gk_zu z) As mem H.size (As.map (gk_v (gk_zu z).2.1)).toArray U := by
  obtain ⟨hx, hb, hml, hown, hts, hK, hA, hD, hR, hlocks, hret⟩ := id K
  have hF := gk_free (t := t) (u := gk_zu z) (sz := H.size) hD (fun q hq => hA q (Nat.le_trans hS.1 hq))
  intro U hU hW
  subst hU
  exact ⟨rfl, rfl, hP, gk_K_moved hW (gk_K_kept hS.2.1 hF hK)⟩
theorem gk_lsum (ad : Nat → Nat) (l : List Value) : ((l.map (gk_v ad)).map fun v => v.category).sum = (l.map fun v => v.category).sum := by
  rw [List.map_map]
  congr 1
  apply List.map_congr_left
  intro a _
  exact gk_v_cat ad a
theorem gk_callV (K : gk_F t z y lev) {yc : gk_Y} {idx k ci lev2 n : Nat} {fs : List gk_f} {As st0 : List Value} {r : Option Value} {mem2 : gk_M} {T : u_T} {N : Nat} (hd : decode y.2.1 pc = .ok (.invokevirtual idx, 3)) (ml : gk_MV y.1.cls idx yc) (mc : gk_MC yc n) (hn : As.length = n) (hk : t.1[k]? = some (.inr (ci, fs))) (hc : gk_cl[ci]? = some (yc.1.cls, T, N)) (hC : gk_C t (gk_zl z) (gk_zu z) yc lev2 (.ref k :: As) mem r mem2) (hlev : lev2 < lev) (hst : st0 = As.reverse ++ .ref k :: st) (hrest : (st.map fun v => v.category).sum ≤ 8) (kk : gk_G t z y Q mem2 lv (r.toList ++ st) (pc + 3)) : gk_G t z y Q mem lv st0 pc := by
  intro H locs ls hP hS hl
  obtain ⟨hx, hb, hml, hown, hts, hK, hA, hD, hR, hlocks, hret⟩ := id K
  obtain ⟨m1, m2, m3⟩ := ml
  obtain ⟨d1, d2, d3, d4, d5⟩ := mc
  subst hst
  have hgood : GoodIn gk_W (wsV y.1.cls idx yc.1.cls yc.1 (Cond.code yc.1 yc.2.1 yc.2.2.1 yc.2.2.2 :: gk_W)) := by
    intro w hw
    have hw2 : w ∈ gk_W := by
      unfold wsV at hw
      rcases List.mem_append.mp hw with h | h
      · simp only [List.mem_cons, List.not_mem_nil, or_false] at h
        rcases h with rfl | rfl | rfl | rfl
        · exact m1
        · exact m2
        · exact m3
        · exact d2
      · rcases List.mem_cons.mp h with rfl | h
        · exact d1
        · exact h
    exact ⟨hw2, good_of_word (List.mem_filter.mp hw2).2⟩
  have hroom : (gk_rm lev2).frames + 1 ≤ (gk_zR z).frames ∧ 8 + (yc.2.2.1 + 11) + (gk_rm lev2).locals ≤ (gk_zR z).locals := by
    obtain ⟨r1, r2, -, -⟩ := hR
    show lev2 + 1 ≤ _ ∧ 8 + (yc.2.2.1 + 11) + 64 * lev2 ≤ _
    omega
  have hstk : ((As.reverse ++ .ref k :: st).map (gk_v (gk_zu z).2.1)) = (As.map (gk_v (gk_zu z).2.1)).reverse ++ .ref ((gk_zu z).2.1 k) :: st.map (gk_v (gk_zu z).2.1) := by simp [gk_v]
  have hrun := va_runV (As := As.map (gk_v (gk_zu z).2.1)) (b := (gk_zu z).2.1 k) (rest := st.map (gk_v (gk_zu z).2.1)) (g := F0 (gk_zm z) pc ls ((As.reverse ++ .ref k :: st).map (gk_v (gk_zu z).2.1))) (H := H) (locs := locs) (cells := gk_z1 z) (slots := gk_z2 z) (e := gk_ze z) (below := gk_zb z) (meth := gk_zt z) ⟨hx, hb, hml, hown, hts⟩ (hC H.size) (cwV n hts hgood rfl rfl rfl ⟨rfl, d3⟩ hroom) ⟨gk_blind, va_recv hK.1 hP hc (gk_pw_at hk), gk_pre K hP hS (.ref k :: As)⟩ rfl (by simp [hn]) hl.1 hstk (lv_room (by rw [gk_lsum]; exact hrest)) hd ⟨hR.2.2.1, hR.2.2.2⟩
  refine gk_after K hS hrun (fun H1 locs1 hP1 hS1 => ?_)
  have := kk H1 locs1 ls hP1 hS1 hl
  rw [List.map_append] at this
  cases r with
  | none => exact this
  | some v => exact this
theorem gk_callS (K : gk_F t z y lev) {yc : gk_Y} {idx lev2 n : Nat} {As st0 : List Value} {r : Option Value} {mem2 : gk_M} (hd : decode y.2.1 pc = .ok (.invokestatic idx, 3)) (ml : gk_MS y.1.cls idx yc) (mc : gk_MC yc n) (hn : As.length = n) (hC : gk_C t (gk_zl z) (gk_zu z) yc lev2 As mem r mem2) (hlev : lev2 < lev) (hst : st0 = As.reverse ++ st) (hrest : (st.map fun v => v.category).sum ≤ 8) (kk : gk_G t z y Q mem2 lv (r.toList ++ st) (pc + 3)) : gk_G t z y Q mem lv st0 pc := by
  intro H locs ls hP hS hl
  obtain ⟨hx, hb, hml, hown, hts, hK, hA, hD, hR, hlocks, hret⟩ := id K
  obtain ⟨m1, m2⟩ := ml
  obtain ⟨d1, d2, d3, d4, d5⟩ := mc
  subst hst
  have hgood : GoodIn gk_W (va_wsS y.1.cls idx yc.1 (Cond.code yc.1 yc.2.1 yc.2.2.1 yc.2.2.2 :: gk_W)) := by
    intro w hw
    have hw2 : w ∈ gk_W := by
      unfold va_wsS at hw
      rcases List.mem_append.mp hw with h | h
      · simp only [List.mem_cons, List.not_mem_nil, or_false] at h
        rcases h with rfl | rfl | rfl
        · exact m1
        · exact m2
        · exact d2
      · rcases List.mem_cons.mp h with rfl | h
        · exact d1
        · exact h
    exact ⟨hw2, good_of_word (List.mem_filter.mp hw2).2⟩
  have hroom : (gk_rm lev2).frames + 1 ≤ (gk_zR z).frames ∧ 8 + (yc.2.2.1 + 11) + (gk_rm lev2).locals ≤ (gk_zR z).locals := by
    obtain ⟨r1, r2, -, -⟩ := hR
    show lev2 + 1 ≤ _ ∧ 8 + (yc.2.2.1 + 11) + 64 * lev2 ≤ _
    omega
  have hstk : ((As.reverse ++ st).map (gk_v (gk_zu z).2.1)) = (As.map (gk_v (gk_zu z).2.1)).reverse ++ st.map (gk_v (gk_zu z).2.1) := by simp
  have hrun := va_runS (As := As.map (gk_v (gk_zu z).2.1)) (rest := st.map (gk_v (gk_zu z).2.1)) (g := F0 (gk_zm z) pc ls ((As.reverse ++ st).map (gk_v (gk_zu z).2.1))) (H := H) (locs := locs) (cells := gk_z1 z) (slots := gk_z2 z) (e := gk_ze z) (below := gk_zb z) (meth := gk_zt z) ⟨hx, hb, hml, hown, hts⟩ (hC H.size) (va_cwS n hts hgood rfl rfl rfl d3 hroom) ⟨gk_blind, gk_pre K hP hS As⟩ rfl (by simp [hn]) hl.1 hstk (lv_room (by rw [gk_lsum]; exact hrest)) hd ⟨hR.2.2.1, hR.2.2.2⟩
  refine gk_after K hS hrun (fun H1 locs1 hP1 hS1 => ?_)
  have := kk H1 locs1 ls hP1 hS1 hl
  rw [List.map_append] at this
  cases r with
  | none => exact this
  | some v => exact this
theorem gk_callN (K : gk_F t z y lev) {yc : gk_Y} {idx lev2 n : Nat} {host : String} {As st0 : List Value} {r : Option Value} {mem2 : gk_M} (hd : decode y.2.1 pc = .ok (.invokestatic idx, 3)) (ml : gk_MN y.1.cls idx yc host) (mc : gk_MC yc n) (hn : As.length = n) (hC : gk_C t (gk_zl z) (gk_zu z) yc lev2 As mem r mem2) (hlev : lev2 < lev) (hst : st0 = As.reverse ++ st) (hrest : (st.map fun v => v.category).sum ≤ 8) (kk : gk_G t z y Q mem2 lv (r.toList ++ st) (pc + 3)) : gk_G t z y Q mem lv st0 pc := by
  intro H locs ls hP hS hl
  obtain ⟨hx, hb, hml, hown, hts, hK, hA, hD, hR, hlocks, hret⟩ := id K
  obtain ⟨m1, m2⟩ := ml
  obtain ⟨d1, d2, d3, d4, d5⟩ := mc
  subst hst
  have hgood : GoodIn gk_W (Cond.code yc.1 yc.2.1 yc.2.2.1 yc.2.2.2 :: gk_W) := gk_good (fun _ h => h) d1
  have hroom : (gk_rm lev2).frames + 1 ≤ (gk_zR z).frames ∧ 8 + (yc.2.2.1 + 11) + (gk_rm lev2).locals ≤ (gk_zR z).locals := by
    obtain ⟨r1, r2, -, -⟩ := hR
    show lev2 + 1 ≤ _ ∧ 8 + (yc.2.2.1 + 11) + 64 * lev2 ≤ _
    omega
  have hstk : ((As.reverse ++ st).map (gk_v (gk_zu z).2.1)) = (As.map (gk_v (gk_zu z).2.1)).reverse ++ st.map (gk_v (gk_zu z).2.1) := by simp
  have hrun := va_runSN (As := As.map (gk_v (gk_zu z).2.1)) (rest := st.map (gk_v (gk_zu z).2.1)) (g := F0 (gk_zm z) pc ls ((As.reverse ++ st).map (gk_v (gk_zu z).2.1))) (H := H) (locs := locs) (cells := gk_z1 z) (slots := gk_z2 z) (e := gk_ze z) (below := gk_zb z) (meth := gk_zt z) ⟨hx, hb, hml, hown, hts⟩ (hC H.size) ⟨va_cnB n hts hgood rfl rfl rfl (hK.2.2 _ m1) (hts _ d2) d3 hroom, hts _ m2, trivial⟩ ⟨gk_blind, gk_pre K hP hS As⟩ rfl (by simp [hn]) hl.1 hstk (lv_room (by rw [gk_lsum]; exact hrest)) hd ⟨hR.2.2.1, hR.2.2.2⟩
  refine gk_after K hS hrun (fun H1 locs1 hP1 hS1 => ?_)
  have := kk H1 locs1 ls hP1 hS1 hl
  rw [List.map_append] at this
  cases r with
  | none => exact this
  | some v => exact this
end GKC
/-- the world's cells are apart -/
def gk_D (t : gk_T) (u : gk_U) : Prop := ∀ mem, va_D (fun _ => True) (gk_pz t u mem)
theorem gk_largs (ad : Nat → Nat) : ∀ (As : List Value) (i : Nat), lv_args i (As.map (gk_v ad)) = (lv_args i As).map (gk_lq ad)
  | [], _ => rfl
  | v :: vs, i => by
    simp only [List.map_cons, lv_args, gk_v_cat]
    rw [gk_largs ad vs]
    rfl
theorem gk_sll (ad : Nat → Nat) : ∀ As : List Value, (lg_sl (As.map (gk_v ad))).length = (lg_sl As).length
  | [] => rfl
  | v :: vs => by
    have ih := gk_sll ad vs
    unfold lg_sl at ih ⊢
    simp only [List.map_cons, List.flatMap_cons, List.length_append, gk_v_cat, ih]
    congr 1
    by_cases h : v.category = 2 <;> simp [h]
/-- A CONTRACT out of a walk from the entry -/
theorem gk_enter {t : gk_T} {l : Launch} {u : gk_U} {y : gk_Y} {lev n : Nat} {As : List Value} {mem mem2 : gk_M} {r : Option Value} {lv : List (Nat × Value)} (hD : gk_D t u) (mc : gk_MC y n) (hA : (lg_sl As).length ≤ y.2.2.1) (hlv : lv_args 0 As = lv)
    (body : ∀ z : gk_Z, gk_zl z = l → gk_zu z = u → gk_F t z y lev → gk_G t z y (gk_R t z r mem2) mem lv [] 0) : gk_C t l u y lev As mem r mem2 := by
  intro sz
  obtain ⟨d1, d2, d3, d4, d5⟩ := mc
  refine Met.ofW (cc := y.2.1) (maxL := y.2.2.1) (ret := y.2.2.2) d5 rfl ?_
  intro p e s m args below meth c s₁ B hml hv
  obtain ⟨hargs, hsz, hP, hK⟩ := hv
  subst hargs
  subst hsz
  have hts0 := atoms_spec (ws := Cond.code y.1 y.2.1 y.2.2.1 y.2.2.2 :: gk_W) B.pre
  have hown : s.vm.findClass y.1.cls = some m.cls := findClass_of_methodNamed B.named
  have hDA : ∀ mem, va_D (gk_A t u s.heap.size) (gk_pz t u mem) := by
    intro mem
    refine ⟨(hD mem).1, fun k q hq => ?_⟩
    have hk : k < t.1.length := by
      have := (List.getElem?_eq_some_iff.mp hq).1
      simpa [gk_pz, gk_pw] using this
    obtain ⟨c, hc⟩ : ∃ c, t.1[k]? = some c := ⟨_, List.getElem?_eq_getElem hk⟩
    have h2 := gk_pw_at (ad := u.2.1) (dA := u.2.2) (mem := mem) hc
    rw [show (gk_pz t u mem)[k]? = _ from h2] at hq
    cases hq
    exact Or.inl ⟨k, hk, rfl⟩
  have hl := lv_entry (As.map (gk_v u.2.1)) (n := y.2.2.1) (by rw [gk_sll]; exact hA)
  rw [lg_entry_eq]
  generalize (lg_sl (As.map (gk_v u.2.1)) ++ List.replicate (y.2.2.1 - (lg_sl (As.map (gk_v u.2.1))).length) Slot.unset).toArray = ls at hl ⊢
  rw [gk_largs, hlv] at hl
  exact body (l, u, p, e, (headSpec (Cond.code y.1 y.2.1 y.2.2.1 y.2.2.2 :: gk_W) (gk_rm lev)).room, s, m, (As.map (gk_v u.2.1)).toArray, below, meth, c, 0, 0, gk_A t u s.heap.size) rfl rfl ⟨B.exec, B.bytes, hml, hown, fun w hw => hts0 w (List.mem_cons_of_mem _ hw), hK, fun q hq => Or.inr hq, hDA, ⟨Nat.le_refl _, Nat.le_refl _, Nat.le_refl _, Nat.le_refl _⟩, B.notSynchronized, B.returns⟩ s.heap [] ls hP va_S.rf hl

section GKW
variable {t : gk_T} {z : gk_Z} {y : gk_Y} {lev : Nat} {Q : State → Prop} {mem : gk_M} {lv : List (Nat × Value)} {st : List Value} {pc : Nat}
theorem gk_FD (K : gk_F t z y lev) : gk_D t (gk_zu z) := fun mem => (K.2.2.2.2.2.2.2.1 mem).weaken (fun _ _ _ _ => trivial)
theorem gk_bi_some {β : Type} {X : Option (Int32 × gk_M)} {c : Int32 → gk_M → Option β} {r : β} (h : gk_bi X c = some r) : ∃ v m, X = some (v, m) ∧ c v m = some r := by
  cases X with
  | none => cases h
  | some q => exact ⟨q.1, q.2, rfl, h⟩
theorem gk_bl_some {β : Type} {X : Option (Int64 × gk_M)} {c : Int64 → gk_M → Option β} {r : β} (h : gk_bl X c = some r) : ∃ v m, X = some (v, m) ∧ c v m = some r := by
  cases X with
  | none => cases h
  | some q => exact ⟨q.1, q.2, rfl, h⟩
theorem gk_bv_some {β : Type} {X : Option (Unit × gk_M)} {c : gk_M → Option β} {r : β} (h : gk_bv X c = some r) : ∃ m, X = some ((), m) ∧ c m = some r := by
  cases X with
  | none => cases h
  | some q => exact ⟨q.2, rfl, h⟩
theorem gk_cVi (K : gk_F t z y lev) {yc : gk_Y} {idx k ci lev2 n : Nat} {fs : List gk_f} {As st0 : List Value} {v : Int32} {mem2 : gk_M} {T : u_T} {N : Nat} (hd : decode y.2.1 pc = .ok (.invokevirtual idx, 3)) (ml : gk_MV y.1.cls idx yc) (mc : gk_MC yc n) (hn : As.length = n) (hk : t.1[k]? = some (.inr (ci, fs))) (hc : gk_cl[ci]? = some (yc.1.cls, T, N)) (hC : gk_C t (gk_zl z) (gk_zu z) yc lev2 (.ref k :: As) mem (some (.int v)) mem2) (hlev : lev2 < lev) (hst : st0 = As.reverse ++ .ref k :: st) (hrest : (st.map fun v => v.category).sum ≤ 8) (kk : gk_G t z y Q mem2 lv (.int v :: st) (pc + 3)) : gk_G t z y Q mem lv st0 pc := gk_callV K hd ml mc hn hk hc hC hlev hst hrest kk
theorem gk_cSi (K : gk_F t z y lev) {yc : gk_Y} {idx lev2 n : Nat} {As st0 : List Value} {v : Int32} {mem2 : gk_M} (hd : decode y.2.1 pc = .ok (.invokestatic idx, 3)) (ml : gk_MS y.1.cls idx yc) (mc : gk_MC yc n) (hn : As.length = n) (hC : gk_C t (gk_zl z) (gk_zu z) yc lev2 As mem (some (.int v)) mem2) (hlev : lev2 < lev) (hst : st0 = As.reverse ++ st) (hrest : (st.map fun v => v.category).sum ≤ 8) (kk : gk_G t z y Q mem2 lv (.int v :: st) (pc + 3)) : gk_G t z y Q mem lv st0 pc := gk_callS K hd ml mc hn hC hlev hst hrest kk
theorem gk_cNi (K : gk_F t z y lev) {yc : gk_Y} {idx lev2 n : Nat} {host : String} {As st0 : List Value} {v : Int32} {mem2 : gk_M} (hd : decode y.2.1 pc = .ok (.invokestatic idx, 3)) (ml : gk_MN y.1.cls idx yc host) (mc : gk_MC yc n) (hn : As.length = n) (hC : gk_C t (gk_zl z) (gk_zu z) yc lev2 As mem (some (.int v)) mem2) (hlev : lev2 < lev) (hst : st0 = As.reverse ++ st) (hrest : (st.map fun v => v.category).sum ≤ 8) (kk : gk_G t z y Q mem2 lv (.int v :: st) (pc + 3)) : gk_G t z y Q mem lv st0 pc := gk_callN K hd ml mc hn hC hlev hst hrest kk
theorem gk_cVl (K : gk_F t z y lev) {yc : gk_Y} {idx k ci lev2 n : Nat} {fs : List gk_f} {As st0 : List Value} {v : Int64} {mem2 : gk_M} {T : u_T} {N : Nat} (hd : decode y.2.1 pc = .ok (.invokevirtual idx, 3)) (ml : gk_MV y.1.cls idx yc) (mc : gk_MC yc n) (hn : As.length = n) (hk : t.1[k]? = some (.inr (ci, fs))) (hc : gk_cl[ci]? = some (yc.1.cls, T, N)) (hC : gk_C t (gk_zl z) (gk_zu z) yc lev2 (.ref k :: As) mem (some (.long v)) mem2) (hlev : lev2 < lev) (hst : st0 = As.reverse ++ .ref k :: st) (hrest : (st.map fun v => v.category).sum ≤ 8) (kk : gk_G t z y Q mem2 lv (.long v :: st) (pc + 3)) : gk_G t z y Q mem lv st0 pc := gk_callV K hd ml mc hn hk hc hC hlev hst hrest kk
theorem gk_cSl (K : gk_F t z y lev) {yc : gk_Y} {idx lev2 n : Nat} {As st0 : List Value} {v : Int64} {mem2 : gk_M} (hd : decode y.2.1 pc = .ok (.invokestatic idx, 3)) (ml : gk_MS y.1.cls idx yc) (mc : gk_MC yc n) (hn : As.length = n) (hC : gk_C t (gk_zl z) (gk_zu z) yc lev2 As mem (some (.long v)) mem2) (hlev : lev2 < lev) (hst : st0 = As.reverse ++ st) (hrest : (st.map fun v => v.category).sum ≤ 8) (kk : gk_G t z y Q mem2 lv (.long v :: st) (pc + 3)) : gk_G t z y Q mem lv st0 pc := gk_callS K hd ml mc hn hC hlev hst hrest kk
theorem gk_cNl (K : gk_F t z y lev) {yc : gk_Y} {idx lev2 n : Nat} {host : String} {As st0 : List Value} {v : Int64} {mem2 : gk_M} (hd : decode y.2.1 pc = .ok (.invokestatic idx, 3)) (ml : gk_MN y.1.cls idx yc host) (mc : gk_MC yc n) (hn : As.length = n) (hC : gk_C t (gk_zl z) (gk_zu z) yc lev2 As mem (some (.long v)) mem2) (hlev : lev2 < lev) (hst : st0 = As.reverse ++ st) (hrest : (st.map fun v => v.category).sum ≤ 8) (kk : gk_G t z y Q mem2 lv (.long v :: st) (pc + 3)) : gk_G t z y Q mem lv st0 pc := gk_callN K hd ml mc hn hC hlev hst hrest kk
theorem gk_cVv (K : gk_F t z y lev) {yc : gk_Y} {idx k ci lev2 n : Nat} {fs : List gk_f} {As st0 : List Value}  {mem2 : gk_M} {T : u_T} {N : Nat} (hd : decode y.2.1 pc = .ok (.invokevirtual idx, 3)) (ml : gk_MV y.1.cls idx yc) (mc : gk_MC yc n) (hn : As.length = n) (hk : t.1[k]? = some (.inr (ci, fs))) (hc : gk_cl[ci]? = some (yc.1.cls, T, N)) (hC : gk_C t (gk_zl z) (gk_zu z) yc lev2 (.ref k :: As) mem none mem2) (hlev : lev2 < lev) (hst : st0 = As.reverse ++ .ref k :: st) (hrest : (st.map fun v => v.category).sum ≤ 8) (kk : gk_G t z y Q mem2 lv st (pc + 3)) : gk_G t z y Q mem lv st0 pc := gk_callV K hd ml mc hn hk hc hC hlev hst hrest kk
theorem gk_cSv (K : gk_F t z y lev) {yc : gk_Y} {idx lev2 n : Nat} {As st0 : List Value}  {mem2 : gk_M} (hd : decode y.2.1 pc = .ok (.invokestatic idx, 3)) (ml : gk_MS y.1.cls idx yc) (mc : gk_MC yc n) (hn : As.length = n) (hC : gk_C t (gk_zl z) (gk_zu z) yc lev2 As mem none mem2) (hlev : lev2 < lev) (hst : st0 = As.reverse ++ st) (hrest : (st.map fun v => v.category).sum ≤ 8) (kk : gk_G t z y Q mem2 lv st (pc + 3)) : gk_G t z y Q mem lv st0 pc := gk_callS K hd ml mc hn hC hlev hst hrest kk
theorem gk_cNv (K : gk_F t z y lev) {yc : gk_Y} {idx lev2 n : Nat} {host : String} {As st0 : List Value}  {mem2 : gk_M} (hd : decode y.2.1 pc = .ok (.invokestatic idx, 3)) (ml : gk_MN y.1.cls idx yc host) (mc : gk_MC yc n) (hn : As.length = n) (hC : gk_C t (gk_zl z) (gk_zu z) yc lev2 As mem none mem2) (hlev : lev2 < lev) (hst : st0 = As.reverse ++ st) (hrest : (st.map fun v => v.category).sum ≤ 8) (kk : gk_G t z y Q mem2 lv st (pc + 3)) : gk_G t z y Q mem lv st0 pc := gk_callN K hd ml mc hn hC hlev hst hrest kk
theorem gk_ite {c : Prop} [Decidable c] {β : Type} {a b r : Option β} {X : Prop} (h : (if c then a else b) = r) (kt : c → a = r → X) (kf : ¬ c → b = r → X) : X := by
  by_cases q : c
  · rw [if_pos q] at h; exact kt q h
  · rw [if_neg q] at h; exact kf q h
theorem gk_tIn (K : gk_F t z y lev) {dflt lo hi off : Int} {offs : Array Int} {len tgt : Nat} {x c : Int32} (hd : decode y.2.1 pc = .ok (.tableswitch dflt lo hi offs, len)) (hx : x = c) (h1 : ¬ c.toInt < lo) (h2 : ¬ hi < c.toInt) (ho : offs[(c.toInt - lo).toNat]? = some off) (ht : (pc : Int) + off = (tgt : Int)) (kk : gk_G t z y Q mem lv st tgt) : gk_G t z y Q mem lv (.int x :: st) pc := by
  subst hx
  exact fun H locs ls hP hS hl => lv_tableIn K.1 K.2.1 hd h1 h2 ho ht (kk H locs ls hP hS hl)
theorem gk_tOut (K : gk_F t z y lev) {dflt lo hi : Int} {offs : Array Int} {len tgt : Nat} {x : Int32} (hd : decode y.2.1 pc = .ok (.tableswitch dflt lo hi offs, len)) (h : x.toInt < lo ∨ hi < x.toInt) (ht : (pc : Int) + dflt = (tgt : Int)) (kk : gk_G t z y Q mem lv st tgt) : gk_G t z y Q mem lv (.int x :: st) pc :=
  fun H locs ls hP hS hl => lv_tableOut K.1 K.2.1 hd h ht (kk H locs ls hP hS hl)
theorem gk_lk (K : gk_F t z y lev) {dflt off : Int} {ps : Array (Int × Int)} {len tgt : Nat} {x : Int32} (hd : decode y.2.1 pc = .ok (.lookupswitch dflt ps, len)) (hp : (ps.toList.zip (ps.toList.drop 1)).all (fun (a, next) => a.1 < next.1) = true) (ho : Op.lookupswitch.offset ps.toList dflt x.toInt = off) (ht : (pc : Int) + off = (tgt : Int)) (kk : gk_G t z y Q mem lv st tgt) : gk_G t z y Q mem lv (.int x :: st) pc :=
  fun H locs ls hP hS hl => lv_lookup K.1 K.2.1 hd hp ho ht (kk H locs ls hP hS hl)
theorem gk_neq {x c : Int32} {a : Int} (h : ¬ x = c) (hc : c.toInt = a) : x.toInt ≠ a := lv_neT h hc
def gk_AC (own : String) (idx : Nat) : Prop := Cond.methodLink own idx arraycopyName ∈ gk_W ∧ Cond.native arraycopyName ∈ gk_W ∧ Cond.static arraycopyName ∈ gk_W ∧ Cond.initialized "java/lang/System" ∈ gk_W
theorem gk_cpyi (K : gk_F t z y lev) {idx k L b k2 L2 b2 : Nat} {sp dp n : Int32} {β : Type} {c : gk_M → Option β} {r : β} (hd : decode y.2.1 pc = .ok (.invokestatic idx, 3)) (ac : gk_AC y.1.cls idx) (hk : t.1[k]? = some (.inl (0, L, b))) (hk2 : t.1[k2]? = some (.inl (0, L2, b2))) (h : gk_ci mem k L sp k2 L2 dp n c = some r) (hlev : 1 ≤ lev) (hrest : (st.map fun v => v.category).sum ≤ 8) (kk : ∀ mem2, c mem2 = some r → gk_G t z y Q mem2 lv st (pc + 3)) : gk_G t z y Q mem lv (.int n :: .int dp :: .ref k2 :: .int sp :: .ref k :: st) pc := by
  intro H locs ls hP hS hl
  obtain ⟨hx, hb, hml, hown, hts, ⟨hK, -⟩, hA, hD, hR, -⟩ := id K
  obtain ⟨a1, a2, a3, a4⟩ := ac
  obtain ⟨t0, ht⟩ := gk_tys_at (dA := (gk_zu z).2.2) hk
  obtain ⟨t1, ht1⟩ := gk_tys_at (dA := (gk_zu z).2.2) hk2
  by_cases hin : sp < 0 ∨ dp < 0 ∨ n < 0 ∨ L < sp.toNatClampNeg + n.toNatClampNeg ∨ L2 < dp.toNatClampNeg + n.toNatClampNeg
  · rw [gk_ci, if_pos hin] at h
    cases h
  · rw [gk_ci, if_neg hin] at h
    simp only [not_or, Nat.not_lt] at hin
    obtain ⟨g1, g2, g3, g4, g5⟩ := hin
    have hw : nativeFrameWords "java/lang/System" "arraycopy" 5 ≤ 45 := Nat.le_of_ble_eq_true rfl
    refine va_copyi (ty := .int) hx hb (hml.trans hl.1.symm) hown (hts _ a1) (hts _ a2) (hts _ a3) (hts _ a4) hK hP (hD mem) hS k k2 t0 t1 (gk_pw_at hk) (gk_pw_at hk2) ht ht1 rfl g1 g2 g3 g4 g5 (fun _ _ => rfl) (by omega) (by rw [gk_lsum]; omega) hd (fun H1 locs1 hP1 hD1 hS1 => kk _ h H1 locs1 ls ?_ hS1 hl)
    rw [gk_set (mem' := (fun a => if a = k2 then va_cpy (mem.1 k) (mem.1 k2) sp.toNatClampNeg dp.toNatClampNeg n.toNatClampNeg else mem.1 a, mem.2)) hk2 ?_ ?_] at hP1
    · exact hP1
    · simp [gk_ce, gk_ac]
    · intro a c' ha
      cases c' with
      | inl q =>
        obtain ⟨ty, n, b⟩ := q
        match ty with
        | 0 => simp [gk_ce, gk_ac, ha]
        | 1 => simp [gk_ce, gk_ac, ha]
        | 2 => simp [gk_ce, gk_ac]
        | (m + 3) => simp [gk_ce, gk_ac]
      | inr q =>
        obtain ⟨ci, fs⟩ := q
        simp only [gk_ce]
        congr 2
        apply List.ext_getElem?
        intro i
        simp only [List.getElem?_mapIdx]
        cases fs[i]? with
        | none => rfl
        | some f =>
          match f with
          | .inl r => rfl
          | .inr false => simp [gk_fa, ha]
          | .inr true => simp [gk_fa]
theorem gk_cpyl (K : gk_F t z y lev) {idx k L b k2 L2 b2 : Nat} {sp dp n : Int32} {β : Type} {c : gk_M → Option β} {r : β} (hd : decode y.2.1 pc = .ok (.invokestatic idx, 3)) (ac : gk_AC y.1.cls idx) (hk : t.1[k]? = some (.inl (2, L, b))) (hk2 : t.1[k2]? = some (.inl (2, L2, b2))) (h : gk_cl2 mem k L sp k2 L2 dp n c = some r) (hlev : 1 ≤ lev) (hrest : (st.map fun v => v.category).sum ≤ 8) (kk : ∀ mem2, c mem2 = some r → gk_G t z y Q mem2 lv st (pc + 3)) : gk_G t z y Q mem lv (.int n :: .int dp :: .ref k2 :: .int sp :: .ref k :: st) pc := by
  intro H locs ls hP hS hl
  obtain ⟨hx, hb, hml, hown, hts, ⟨hK, -⟩, hA, hD, hR, -⟩ := id K
  obtain ⟨a1, a2, a3, a4⟩ := ac
  obtain ⟨t0, ht⟩ := gk_tys_at (dA := (gk_zu z).2.2) hk
  obtain ⟨t1, ht1⟩ := gk_tys_at (dA := (gk_zu z).2.2) hk2
  by_cases hin : sp < 0 ∨ dp < 0 ∨ n < 0 ∨ L < sp.toNatClampNeg + n.toNatClampNeg ∨ L2 < dp.toNatClampNeg + n.toNatClampNeg
  · rw [gk_cl2, if_pos hin] at h
    cases h
  · rw [gk_cl2, if_neg hin] at h
    simp only [not_or, Nat.not_lt] at hin
    obtain ⟨g1, g2, g3, g4, g5⟩ := hin
    have hw : nativeFrameWords "java/lang/System" "arraycopy" 5 ≤ 45 := Nat.le_of_ble_eq_true rfl
    refine va_copyl (ty := .long) hx hb (hml.trans hl.1.symm) hown (hts _ a1) (hts _ a2) (hts _ a3) (hts _ a4) hK hP (hD mem) hS k k2 t0 t1 (gk_pw_at hk) (gk_pw_at hk2) ht ht1 rfl g1 g2 g3 g4 g5 (fun _ _ => rfl) (by omega) (by rw [gk_lsum]; omega) hd (fun H1 locs1 hP1 hD1 hS1 => kk _ h H1 locs1 ls ?_ hS1 hl)
    rw [gk_set (mem' := (mem.1, fun a => if a = k2 then va_cpy (mem.2 k) (mem.2 k2) sp.toNatClampNeg dp.toNatClampNeg n.toNatClampNeg else mem.2 a)) hk2 ?_ ?_] at hP1
    · exact hP1
    · simp [gk_ce, gk_ac]
    · intro a c' ha
      cases c' with
      | inl q =>
        obtain ⟨ty, n, b⟩ := q
        match ty with
        | 0 => simp [gk_ce, gk_ac]
        | 1 => simp [gk_ce, gk_ac]
        | 2 => simp [gk_ce, gk_ac, ha]
        | (m + 3) => simp [gk_ce, gk_ac]
      | inr q =>
        obtain ⟨ci, fs⟩ := q
        simp only [gk_ce]
        congr 2
        apply List.ext_getElem?
        intro i
        simp only [List.getElem?_mapIdx]
        cases fs[i]? with
        | none => rfl
        | some f =>
          match f with
          | .inl r => rfl
          | .inr false => simp [gk_fa]
          | .inr true => simp [gk_fa, ha]
end GKW
def gk_fu : Nat := 100000

