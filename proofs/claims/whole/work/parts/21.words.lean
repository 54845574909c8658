/-! Words of the tables, classes, kinds of arrays, what lies below (written by wip/whole/gen.py). -/
def tb_T : List Cond := lw_tbl.filter goodWord
theorem tb_in {w : Cond} {i : Nat} (h : tables_1[i]? = some w) (g : goodWord w = true) : w ∈ tb_T := List.mem_filter.mpr ⟨List.mem_append_right _ (List.mem_of_getElem? h), g⟩
theorem tb_sel {w : Cond} {i : Nat} (h : (k2_sels lw_privs)[i]? = some w) (g : goodWord w = true) : w ∈ tb_T := List.mem_filter.mpr ⟨List.mem_append_left _ (List.mem_of_getElem? h), g⟩
theorem tb_gd {w : Cond} (h : w ∈ tb_T) : (w.onTables && w.keeps) = true ∨ ∃ ty, w = .arrayClass ty := good_of_word (List.mem_filter.mp h).2
theorem tb_ws {ws : List Cond} (ps : List Nat) (hp : ws = ps.filterMap (fun i => tables_1[i]?)) (h : ws.all goodWord = true) : ∀ w ∈ ws, w ∈ tb_T := by
  intro w hw
  have h1 := List.all_eq_true.mp h w hw
  rw [hp] at hw
  obtain ⟨i, -, hi⟩ := List.mem_filterMap.mp hw
  exact tb_in hi h1
theorem tb_all {ws : List Cond} (h : ∀ w ∈ ws, w ∈ tb_T) : GoodIn tb_T ws := fun w hw => ⟨h w hw, tb_gd (h w hw)⟩
theorem tb_cons {y : MethodName} {bs : ByteArray} {nL : Nat} {rt : Option FieldType} (h : Cond.code y bs nL rt ∈ tb_T) : ∀ w ∈ Cond.code y bs nL rt :: tb_T, w ∈ tb_T := fun w hw => by
  rcases List.mem_cons.mp hw with e | e
  · rw [e]; exact h
  · exact e
section TBW
variable {G : Nat → (State → Prop) → Prop} {own C host : String} {ix nL n d wd d' wd' : Nat} {y : MethodName} {bs : ByteArray} {rt : Option FieldType}
theorem tb_cwV (h1 : Cond.methodLink own ix y ∈ tb_T) (h2 : Cond.instanceMethod y ∈ tb_T) (h3 : Cond.selects C y y ∈ tb_T) (h4 : Cond.initialized C ∈ tb_T) (h5 : Cond.code y bs nL rt ∈ tb_T) (hd : y.cls = C ∧ y.cls ≠ "java/lang/invoke/MethodHandle" ∧ y.cls ≠ "java/lang/invoke/VarHandle" ∧ (parseMethodDescriptor y.desc).map (fun d => d.parameters.length) = some n) (hf : d' + 1 ≤ d) (hw : 8 + (nL + 11) + wd' ≤ wd) :
    ∀ (R : Room) (s : State) (args : Array Value) (O : State → Prop) (lo mc ms : Nat), (∀ w ∈ tb_T, w.before args s = true) → O s → G lo O → d ≤ R.frames → wd ≤ R.locals → CallW R s args own C ix y bs nL rt (Cond.code y bs nL rt :: tb_T) (ev_rm d' wd' mc ms) mc ms n := fun R s args O lo mc ms hts _ _ r1 r2 => by
  refine cwV n hts (tb_all fun w hw' => ?_) rfl rfl rfl hd ⟨Nat.le_trans hf r1, Nat.le_trans hw r2⟩
  rcases List.mem_append.mp hw' with q | q
  · simp only [List.mem_cons, List.not_mem_nil, or_false] at q
    rcases q with rfl | rfl | rfl | rfl
    · exact h1
    · exact h2
    · exact h3
    · exact h4
  · exact tb_cons h5 w q
theorem tb_cwS (h1 : Cond.methodLink own ix y ∈ tb_T) (h2 : Cond.static y ∈ tb_T) (h4 : Cond.initialized y.cls ∈ tb_T) (h5 : Cond.code y bs nL rt ∈ tb_T) (hd : y.cls ≠ "java/lang/invoke/MethodHandle" ∧ y.cls ≠ "java/lang/invoke/VarHandle" ∧ (parseMethodDescriptor y.desc).map (fun d => d.parameters.length) = some n) (hf : d' + 1 ≤ d) (hw : 8 + (nL + 11) + wd' ≤ wd) :
    ∀ (R : Room) (s : State) (args : Array Value) (O : State → Prop) (lo mc ms : Nat), (∀ w ∈ tb_T, w.before args s = true) → O s → G lo O → d ≤ R.frames → wd ≤ R.locals → CallB R s args own ix y bs nL rt (Cond.code y bs nL rt :: tb_T) (ev_rm d' wd' mc ms) mc ms n ∧ (Cond.static y).before args s = true := fun R s args O lo mc ms hts _ _ r1 r2 => by
  refine va_cwS n hts (tb_all fun w hw' => ?_) rfl rfl rfl hd ⟨Nat.le_trans hf r1, Nat.le_trans hw r2⟩
  rcases List.mem_append.mp hw' with q | q
  · simp only [List.mem_cons, List.not_mem_nil, or_false] at q
    rcases q with rfl | rfl | rfl
    · exact h1
    · exact h2
    · exact h4
  · exact tb_cons h5 w q
theorem tb_cwI (h1 : Cond.methodLink own ix y ∈ tb_T) (h2 : Cond.instanceMethod y ∈ tb_T) (h4 : Cond.initialized y.cls ∈ tb_T) (h5 : Cond.code y bs nL none ∈ tb_T) (hy : y.name = "<init>") (hd : y.cls ≠ "java/lang/invoke/MethodHandle" ∧ y.cls ≠ "java/lang/invoke/VarHandle" ∧ (parseMethodDescriptor y.desc).map (fun d => d.parameters.length) = some n) (hf : d' + 1 ≤ d) (hw : 8 + (nL + 11) + wd' ≤ wd) :
    ∀ (R : Room) (s : State) (args : Array Value) (O : State → Prop) (lo mc ms : Nat), (∀ w ∈ tb_T, w.before args s = true) → O s → G lo O → d ≤ R.frames → wd ≤ R.locals → CallB R s args own ix y bs nL none (Cond.code y bs nL none :: tb_T) (ev_rm d' wd' mc ms) mc ms n ∧ y.name = "<init>" ∧ (Cond.instanceMethod y).before args s = true := fun R s args O lo mc ms hts _ _ r1 r2 =>
  cwI n hts (tb_all (tb_cons h5)) rfl rfl rfl (hts _ h4) (hts _ h1) (hts _ h2) hy hd ⟨Nat.le_trans hf r1, Nat.le_trans hw r2⟩
theorem tb_cwSN (h1 : ∀ (lo : Nat) (O : State → Prop) (s : State), G lo O → O s → va_Nw (.methodLinkNest own ix y host) s) (h2 : Cond.static y ∈ tb_T) (h4 : Cond.initialized y.cls ∈ tb_T) (h5 : Cond.code y bs nL rt ∈ tb_T) (hd : y.cls ≠ "java/lang/invoke/MethodHandle" ∧ y.cls ≠ "java/lang/invoke/VarHandle" ∧ (parseMethodDescriptor y.desc).map (fun d => d.parameters.length) = some n) (hf : d' + 1 ≤ d) (hw : 8 + (nL + 11) + wd' ≤ wd) :
    ∀ (R : Room) (s : State) (args : Array Value) (O : State → Prop) (lo mc ms : Nat), (∀ w ∈ tb_T, w.before args s = true) → O s → G lo O → d ≤ R.frames → wd ≤ R.locals → va_CN R s args own ix y host bs nL rt (Cond.code y bs nL rt :: tb_T) (ev_rm d' wd' mc ms) mc ms n ∧ (Cond.static y).before args s = true ∧ True := fun R s args O lo mc ms hts ho hg r1 r2 =>
  ⟨va_cnB n hts (tb_all (tb_cons h5)) rfl rfl rfl (h1 lo O s hg ho) (hts _ h4) hd ⟨Nat.le_trans hf r1, Nat.le_trans hw r2⟩, hts _ h2, trivial⟩
theorem tb_cwIN (h1 : ∀ (lo : Nat) (O : State → Prop) (s : State), G lo O → O s → va_Nw (.methodLinkNest own ix y host) s) (h2 : Cond.instanceMethod y ∈ tb_T) (h4 : Cond.initialized y.cls ∈ tb_T) (h5 : Cond.code y bs nL none ∈ tb_T) (hy : y.name = "<init>") (hd : y.cls ≠ "java/lang/invoke/MethodHandle" ∧ y.cls ≠ "java/lang/invoke/VarHandle" ∧ (parseMethodDescriptor y.desc).map (fun d => d.parameters.length) = some n) (hf : d' + 1 ≤ d) (hw : 8 + (nL + 11) + wd' ≤ wd) :
    ∀ (R : Room) (s : State) (args : Array Value) (O : State → Prop) (lo mc ms : Nat), (∀ w ∈ tb_T, w.before args s = true) → O s → G lo O → d ≤ R.frames → wd ≤ R.locals → va_CN R s args own ix y host bs nL none (Cond.code y bs nL none :: tb_T) (ev_rm d' wd' mc ms) mc ms n ∧ y.name = "<init>" ∧ (Cond.instanceMethod y).before args s = true := fun R s args O lo mc ms hts ho hg r1 r2 =>
  ⟨va_cnB n hts (tb_all (tb_cons h5)) rfl rfl rfl (h1 lo O s hg ho) (hts _ h4) hd ⟨Nat.le_trans hf r1, Nat.le_trans hw r2⟩, hy, hts _ h2⟩
end TBW
def rc_0 : String := "MessageHub"
def fl_0 : List (String × String × String × Bool) := [("MessageHub", "links", "[LMessageHub$Link;", true), ("MessageHub", "clients", "[LMessageHub$Client;", true), ("MessageHub", "broker", "LMessageHub$Broker;", true)]
def tc_0 : u_T := fun k => fl_0.getD k ("", "", "", false)
def tl_0 : List FieldType := [.array (.object "MessageHub$Link"), .array (.object "MessageHub$Client"), .object "MessageHub$Broker"]
def ty_0 : Nat → FieldType := fun k => tl_0.getD k .int
def ff_0 : List Value := [.null, .null, .null]
theorem ht_0 : ∀ k, k < 3 → parseFieldDescriptor (tc_0 k).2.2.1 = some (ty_0 k) := by decide +kernel
theorem hn_0 : ∀ a, a < 3 → ∀ b, b < 3 → a ≠ b → (tc_0 a).2.1 ≠ (tc_0 b).2.1 := by decide +kernel
theorem hf_0 : ∀ j, j < 3 → defaultValue (ty_0 j) = vp_V ff_0 j := by decide +kernel
theorem hi_0 : ∀ w ∈ u_ws rc_0 tc_0 3, w ∈ tb_T := tb_ws [227, 229, 231] (by decide +kernel) (by decide +kernel)
def rc_1 : String := "MessageHub$Link"
def fl_1 : List (String × String × String × Bool) := [("MessageHub$Link", "up", "Ljava/util/ArrayList;", true), ("MessageHub$Link", "down", "Ljava/util/ArrayList;", true), ("MessageHub$Link", "state", "I", false), ("MessageHub$Link", "attached", "Z", false)]
def tc_1 : u_T := fun k => fl_1.getD k ("", "", "", false)
def tl_1 : List FieldType := [.object "java/util/ArrayList", .object "java/util/ArrayList", .int, .boolean]
def ty_1 : Nat → FieldType := fun k => tl_1.getD k .int
def ff_1 : List Value := [.null, .null, .int 0, .int 0]
theorem ht_1 : ∀ k, k < 4 → parseFieldDescriptor (tc_1 k).2.2.1 = some (ty_1 k) := by decide +kernel
theorem hn_1 : ∀ a, a < 4 → ∀ b, b < 4 → a ≠ b → (tc_1 a).2.1 ≠ (tc_1 b).2.1 := by decide +kernel
theorem hf_1 : ∀ j, j < 4 → defaultValue (ty_1 j) = vp_V ff_1 j := by decide +kernel
theorem hi_1 : ∀ w ∈ u_ws rc_1 tc_1 4, w ∈ tb_T := tb_ws [78, 80, 82, 84] (by decide +kernel) (by decide +kernel)
def rc_2 : String := "java/util/ArrayList"
def fl_2 : List (String × String × String × Bool) := [("java/util/ArrayList", "elementData", "[Ljava/lang/Object;", false), ("java/util/ArrayList", "size", "I", false), ("java/util/AbstractList", "modCount", "I", false)]
def tc_2 : u_T := fun k => fl_2.getD k ("", "", "", false)
def tl_2 : List FieldType := [.array (.object "java/lang/Object"), .int, .int]
def ty_2 : Nat → FieldType := fun k => tl_2.getD k .int
def ff_2 : List Value := [.null, .int 0, .int 0]
theorem ht_2 : ∀ k, k < 3 → parseFieldDescriptor (tc_2 k).2.2.1 = some (ty_2 k) := by decide +kernel
theorem hn_2 : ∀ a, a < 3 → ∀ b, b < 3 → a ≠ b → (tc_2 a).2.1 ≠ (tc_2 b).2.1 := by decide +kernel
theorem hf_2 : ∀ j, j < 3 → defaultValue (ty_2 j) = vp_V ff_2 j := by decide +kernel
theorem hi_2 : ∀ w ∈ u_ws rc_2 tc_2 3, w ∈ tb_T := tb_ws [60, 62, 64] (by decide +kernel) (by decide +kernel)
def rc_3 : String := "MessageHub$Client"
def fl_3 : List (String × String × String × Bool) := [("MessageHub$Client", "link", "LMessageHub$Link;", true), ("MessageHub$Client", "store", "Ljava/util/ArrayList;", true), ("MessageHub$Client", "held", "LMessageHub$HeldIds;", true), ("MessageHub$Client", "inbox", "[I", true), ("MessageHub$Client", "inboxCount", "I", false), ("MessageHub$Client", "willTopic", "J", false), ("MessageHub$Client", "willValue", "I", false)]
def tc_3 : u_T := fun k => fl_3.getD k ("", "", "", false)
def tl_3 : List FieldType := [.object "MessageHub$Link", .object "java/util/ArrayList", .object "MessageHub$HeldIds", .array .int, .int, .long, .int]
def ty_3 : Nat → FieldType := fun k => tl_3.getD k .int
def ff_3 : List Value := [.null, .null, .null, .null, .int 0, .long 0, .int 0]
theorem ht_3 : ∀ k, k < 7 → parseFieldDescriptor (tc_3 k).2.2.1 = some (ty_3 k) := by decide +kernel
theorem hn_3 : ∀ a, a < 7 → ∀ b, b < 7 → a ≠ b → (tc_3 a).2.1 ≠ (tc_3 b).2.1 := by decide +kernel
theorem hf_3 : ∀ j, j < 7 → defaultValue (ty_3 j) = vp_V ff_3 j := by decide +kernel
theorem hi_3 : ∀ w ∈ u_ws rc_3 tc_3 7, w ∈ tb_T := tb_ws [112, 114, 116, 118, 120, 122, 124] (by decide +kernel) (by decide +kernel)
def rc_4 : String := "MessageHub$HeldIds"
def fl_4 : List (String × String × String × Bool) := [("MessageHub$HeldIds", "bits", "I", false)]
def tc_4 : u_T := fun k => fl_4.getD k ("", "", "", false)
def tl_4 : List FieldType := [.int]
def ty_4 : Nat → FieldType := fun k => tl_4.getD k .int
def ff_4 : List Value := [.int 0]
theorem ht_4 : ∀ k, k < 1 → parseFieldDescriptor (tc_4 k).2.2.1 = some (ty_4 k) := by decide +kernel
theorem hn_4 : ∀ a, a < 1 → ∀ b, b < 1 → a ≠ b → (tc_4 a).2.1 ≠ (tc_4 b).2.1 := by decide +kernel
theorem hf_4 : ∀ j, j < 1 → defaultValue (ty_4 j) = vp_V ff_4 j := by decide +kernel
theorem hi_4 : ∀ w ∈ u_ws rc_4 tc_4 1, w ∈ tb_T := tb_ws [101] (by decide +kernel) (by decide +kernel)
def rc_5 : String := "MessageHub$Broker"
def fl_5 : List (String × String × String × Bool) := [("MessageHub$Broker", "links", "[LMessageHub$Link;", true), ("MessageHub$Broker", "connections", "[LMessageHub$Connection;", true), ("MessageHub$Broker", "sessions", "[LMessageHub$Session;", true), ("MessageHub$Broker", "retainedMessages", "Ljava/util/ArrayList;", true), ("MessageHub$Broker", "failure", "I", false)]
def tc_5 : u_T := fun k => fl_5.getD k ("", "", "", false)
def tl_5 : List FieldType := [.array (.object "MessageHub$Link"), .array (.object "MessageHub$Connection"), .array (.object "MessageHub$Session"), .object "java/util/ArrayList", .int]
def ty_5 : Nat → FieldType := fun k => tl_5.getD k .int
def ff_5 : List Value := [.null, .null, .null, .null, .int 0]
theorem ht_5 : ∀ k, k < 5 → parseFieldDescriptor (tc_5 k).2.2.1 = some (ty_5 k) := by decide +kernel
theorem hn_5 : ∀ a, a < 5 → ∀ b, b < 5 → a ≠ b → (tc_5 a).2.1 ≠ (tc_5 b).2.1 := by decide +kernel
theorem hf_5 : ∀ j, j < 5 → defaultValue (ty_5 j) = vp_V ff_5 j := by decide +kernel
theorem hi_5 : ∀ w ∈ u_ws rc_5 tc_5 5, w ∈ tb_T := tb_ws [213, 215, 217, 219, 221] (by decide +kernel) (by decide +kernel)
def rc_6 : String := "MessageHub$Connection"
def fl_6 : List (String × String × String × Bool) := [("MessageHub$Connection", "open", "Z", false), ("MessageHub$Connection", "window", "I", false), ("MessageHub$Connection", "silence", "I", false), ("MessageHub$Connection", "keep", "I", false), ("MessageHub$Connection", "willTopic", "J", false), ("MessageHub$Connection", "willValue", "I", false)]
def tc_6 : u_T := fun k => fl_6.getD k ("", "", "", false)
def tl_6 : List FieldType := [.boolean, .int, .int, .int, .long, .int]
def ty_6 : Nat → FieldType := fun k => tl_6.getD k .int
def ff_6 : List Value := [.int 0, .int 0, .int 0, .int 0, .long 0, .int 0]
theorem ht_6 : ∀ k, k < 6 → parseFieldDescriptor (tc_6 k).2.2.1 = some (ty_6 k) := by decide +kernel
theorem hn_6 : ∀ a, a < 6 → ∀ b, b < 6 → a ≠ b → (tc_6 a).2.1 ≠ (tc_6 b).2.1 := by decide +kernel
theorem hf_6 : ∀ j, j < 6 → defaultValue (ty_6 j) = vp_V ff_6 j := by decide +kernel
theorem hi_6 : ∀ w ∈ u_ws rc_6 tc_6 6, w ∈ tb_T := tb_ws [155, 157, 159, 161, 163, 165] (by decide +kernel) (by decide +kernel)
def rc_7 : String := "MessageHub$Session"
def fl_7 : List (String × String × String × Bool) := [("MessageHub$Session", "subscriptions", "Ljava/util/ArrayList;", true), ("MessageHub$Session", "queue", "Ljava/util/ArrayList;", true), ("MessageHub$Session", "underWay", "Ljava/util/ArrayList;", true), ("MessageHub$Session", "held", "LMessageHub$HeldIds;", true), ("MessageHub$Session", "exists", "Z", false), ("MessageHub$Session", "expiry", "I", false), ("MessageHub$Session", "count", "I", false)]
def tc_7 : u_T := fun k => fl_7.getD k ("", "", "", false)
def tl_7 : List FieldType := [.object "java/util/ArrayList", .object "java/util/ArrayList", .object "java/util/ArrayList", .object "MessageHub$HeldIds", .boolean, .int, .int]
def ty_7 : Nat → FieldType := fun k => tl_7.getD k .int
def ff_7 : List Value := [.null, .null, .null, .null, .int 0, .int 0, .int 0]
theorem ht_7 : ∀ k, k < 7 → parseFieldDescriptor (tc_7 k).2.2.1 = some (ty_7 k) := by decide +kernel
theorem hn_7 : ∀ a, a < 7 → ∀ b, b < 7 → a ≠ b → (tc_7 a).2.1 ≠ (tc_7 b).2.1 := by decide +kernel
theorem hf_7 : ∀ j, j < 7 → defaultValue (ty_7 j) = vp_V ff_7 j := by decide +kernel
theorem hi_7 : ∀ w ∈ u_ws rc_7 tc_7 7, w ∈ tb_T := tb_ws [190, 192, 194, 196, 198, 200, 202] (by decide +kernel) (by decide +kernel)
def rc_8 : String := "MessageHub$Packet"
def fl_8 : List (String × String × String × Bool) := [("MessageHub$Packet", "type", "I", true), ("MessageHub$Packet", "id", "I", true), ("MessageHub$Packet", "value", "I", true), ("MessageHub$Packet", "text", "J", false), ("MessageHub$Packet", "quality", "I", false), ("MessageHub$Packet", "again", "Z", false), ("MessageHub$Packet", "mark", "Z", false), ("MessageHub$Packet", "window", "I", false), ("MessageHub$Packet", "keep", "I", false), ("MessageHub$Packet", "willValue", "I", false)]
def tc_8 : u_T := fun k => fl_8.getD k ("", "", "", false)
def tl_8 : List FieldType := [.int, .int, .int, .long, .int, .boolean, .boolean, .int, .int, .int]
def ty_8 : Nat → FieldType := fun k => tl_8.getD k .int
def ff_8 : List Value := [.int 0, .int 0, .int 0, .long 0, .int 0, .int 0, .int 0, .int 0, .int 0, .int 0]
theorem ht_8 : ∀ k, k < 10 → parseFieldDescriptor (tc_8 k).2.2.1 = some (ty_8 k) := by decide +kernel
theorem hn_8 : ∀ a, a < 10 → ∀ b, b < 10 → a ≠ b → (tc_8 a).2.1 ≠ (tc_8 b).2.1 := by decide +kernel
theorem hf_8 : ∀ j, j < 10 → defaultValue (ty_8 j) = vp_V ff_8 j := by decide +kernel
theorem hi_8 : ∀ w ∈ u_ws rc_8 tc_8 10, w ∈ tb_T := tb_ws [303, 305, 307, 309, 311, 313, 315, 317, 319, 321] (by decide +kernel) (by decide +kernel)
def rc_9 : String := "MessageHub$Message"
def fl_9 : List (String × String × String × Bool) := [("MessageHub$Message", "topic", "J", true), ("MessageHub$Message", "value", "I", true), ("MessageHub$Message", "quality", "I", true), ("MessageHub$Message", "retain", "Z", true)]
def tc_9 : u_T := fun k => fl_9.getD k ("", "", "", false)
def tl_9 : List FieldType := [.long, .int, .int, .boolean]
def ty_9 : Nat → FieldType := fun k => tl_9.getD k .int
def ff_9 : List Value := [.long 0, .int 0, .int 0, .int 0]
theorem ht_9 : ∀ k, k < 4 → parseFieldDescriptor (tc_9 k).2.2.1 = some (ty_9 k) := by decide +kernel
theorem hn_9 : ∀ a, a < 4 → ∀ b, b < 4 → a ≠ b → (tc_9 a).2.1 ≠ (tc_9 b).2.1 := by decide +kernel
theorem hf_9 : ∀ j, j < 4 → defaultValue (ty_9 j) = vp_V ff_9 j := by decide +kernel
theorem hi_9 : ∀ w ∈ u_ws rc_9 tc_9 4, w ∈ tb_T := tb_ws [461, 463, 465, 467] (by decide +kernel) (by decide +kernel)
def rc_10 : String := "MessageHub$Parcel"
def fl_10 : List (String × String × String × Bool) := [("MessageHub$Parcel", "message", "LMessageHub$Message;", true), ("MessageHub$Parcel", "stage", "I", false), ("MessageHub$Parcel", "id", "I", false)]
def tc_10 : u_T := fun k => fl_10.getD k ("", "", "", false)
def tl_10 : List FieldType := [.object "MessageHub$Message", .int, .int]
def ty_10 : Nat → FieldType := fun k => tl_10.getD k .int
def ff_10 : List Value := [.null, .int 0, .int 0]
theorem ht_10 : ∀ k, k < 3 → parseFieldDescriptor (tc_10 k).2.2.1 = some (ty_10 k) := by decide +kernel
theorem hn_10 : ∀ a, a < 3 → ∀ b, b < 3 → a ≠ b → (tc_10 a).2.1 ≠ (tc_10 b).2.1 := by decide +kernel
theorem hf_10 : ∀ j, j < 3 → defaultValue (ty_10 j) = vp_V ff_10 j := by decide +kernel
theorem hi_10 : ∀ w ∈ u_ws rc_10 tc_10 3, w ∈ tb_T := tb_ws [491, 493, 495] (by decide +kernel) (by decide +kernel)
def rc_11 : String := "MessageHub$Subscription"
def fl_11 : List (String × String × String × Bool) := [("MessageHub$Subscription", "filter", "J", true), ("MessageHub$Subscription", "quality", "I", false), ("MessageHub$Subscription", "noLocal", "Z", false)]
def tc_11 : u_T := fun k => fl_11.getD k ("", "", "", false)
def tl_11 : List FieldType := [.long, .int, .boolean]
def ty_11 : Nat → FieldType := fun k => tl_11.getD k .int
def ff_11 : List Value := [.long 0, .int 0, .int 0]
theorem ht_11 : ∀ k, k < 3 → parseFieldDescriptor (tc_11 k).2.2.1 = some (ty_11 k) := by decide +kernel
theorem hn_11 : ∀ a, a < 3 → ∀ b, b < 3 → a ≠ b → (tc_11 a).2.1 ≠ (tc_11 b).2.1 := by decide +kernel
theorem hf_11 : ∀ j, j < 3 → defaultValue (ty_11 j) = vp_V ff_11 j := by decide +kernel
theorem hi_11 : ∀ w ∈ u_ws rc_11 tc_11 3, w ∈ tb_T := tb_ws [779, 781, 783] (by decide +kernel) (by decide +kernel)
def rc_12 : String := "MessageHubModel"
def fl_12 : List (String × String × String × Bool) := [("MessageHubModel", "lineSize", "[I", true), ("MessageHubModel", "type", "[I", true), ("MessageHubModel", "id", "[I", true), ("MessageHubModel", "number", "[I", true), ("MessageHubModel", "grade", "[I", true), ("MessageHubModel", "again", "[Z", true), ("MessageHubModel", "mark", "[Z", true), ("MessageHubModel", "text", "[J", true), ("MessageHubModel", "window", "[I", true), ("MessageHubModel", "keep", "[I", true), ("MessageHubModel", "willText", "[J", true), ("MessageHubModel", "willNumber", "[I", true), ("MessageHubModel", "inType", "I", false), ("MessageHubModel", "inId", "I", false), ("MessageHubModel", "inNumber", "I", false), ("MessageHubModel", "inGrade", "I", false), ("MessageHubModel", "inMark", "Z", false), ("MessageHubModel", "inText", "J", false), ("MessageHubModel", "inWindow", "I", false), ("MessageHubModel", "inKeep", "I", false), ("MessageHubModel", "inWillText", "J", false), ("MessageHubModel", "inWillNumber", "I", false), ("MessageHubModel", "clientState", "[I", true), ("MessageHubModel", "stored", "[I", true), ("MessageHubModel", "storeText", "[J", true), ("MessageHubModel", "storeNumber", "[I", true), ("MessageHubModel", "storeGrade", "[I", true), ("MessageHubModel", "storeRetain", "[Z", true), ("MessageHubModel", "storeStage", "[I", true), ("MessageHubModel", "storeId", "[I", true), ("MessageHubModel", "clientHolds", "[Z", true), ("MessageHubModel", "inboxes", "[I", true), ("MessageHubModel", "inboxValue", "[I", true), ("MessageHubModel", "ownWillText", "[J", true), ("MessageHubModel", "ownWillNumber", "[I", true), ("MessageHubModel", "connected", "[Z", true), ("MessageHubModel", "attached", "[Z", true), ("MessageHubModel", "windowOf", "[I", true), ("MessageHubModel", "keepOf", "[I", true), ("MessageHubModel", "silence", "[I", true), ("MessageHubModel", "deathText", "[J", true), ("MessageHubModel", "deathNumber", "[I", true), ("MessageHubModel", "lives", "[Z", true), ("MessageHubModel", "subs", "[I", true), ("MessageHubModel", "subText", "[J", true), ("MessageHubModel", "subGrade", "[I", true), ("MessageHubModel", "subNoLocal", "[Z", true), ("MessageHubModel", "away", "[I", true), ("MessageHubModel", "queued", "[I", true), ("MessageHubModel", "hereText", "[J", true), ("MessageHubModel", "hereNumber", "[I", true), ("MessageHubModel", "hereGrade", "[I", true), ("MessageHubModel", "hereRetain", "[Z", true), ("MessageHubModel", "hereStage", "[I", true), ("MessageHubModel", "hereId", "[I", true), ("MessageHubModel", "brokerHolds", "[Z", true), ("MessageHubModel", "expiry", "[I", true), ("MessageHubModel", "count", "[I", true), ("MessageHubModel", "retains", "I", false), ("MessageHubModel", "keptText", "[J", true), ("MessageHubModel", "keptNumber", "[I", true), ("MessageHubModel", "keptGrade", "[I", true), ("MessageHubModel", "failure", "I", false), ("MessageHubModel", "one", "[I", true), ("MessageHubModel", "two", "[I", true)]
def tc_12 : u_T := fun k => fl_12.getD k ("", "", "", false)
def tl_12 : List FieldType := [.array .int, .array .int, .array .int, .array .int, .array .int, .array .boolean, .array .boolean, .array .long, .array .int, .array .int, .array .long, .array .int, .int, .int, .int, .int, .boolean, .long, .int, .int, .long, .int, .array .int, .array .int, .array .long, .array .int, .array .int, .array .boolean, .array .int, .array .int, .array .boolean, .array .int, .array .int, .array .long, .array .int, .array .boolean, .array .boolean, .array .int, .array .int, .array .int, .array .long, .array .int, .array .boolean, .array .int, .array .long, .array .int, .array .boolean, .array .int, .array .int, .array .long, .array .int, .array .int, .array .boolean, .array .int, .array .int, .array .boolean, .array .int, .array .int, .int, .array .long, .array .int, .array .int, .int, .array .int, .array .int]
def ty_12 : Nat → FieldType := fun k => tl_12.getD k .int
def ff_12 : List Value := [.null, .null, .null, .null, .null, .null, .null, .null, .null, .null, .null, .null, .int 0, .int 0, .int 0, .int 0, .int 0, .long 0, .int 0, .int 0, .long 0, .int 0, .null, .null, .null, .null, .null, .null, .null, .null, .null, .null, .null, .null, .null, .null, .null, .null, .null, .null, .null, .null, .null, .null, .null, .null, .null, .null, .null, .null, .null, .null, .null, .null, .null, .null, .null, .null, .int 0, .null, .null, .null, .int 0, .null, .null]
theorem ht_12 : ∀ k, k < 65 → parseFieldDescriptor (tc_12 k).2.2.1 = some (ty_12 k) := by decide +kernel
theorem hn_12 : ∀ a, a < 65 → ∀ b, b < 65 → a ≠ b → (tc_12 a).2.1 ≠ (tc_12 b).2.1 := by decide +kernel
theorem hf_12 : ∀ j, j < 65 → defaultValue (ty_12 j) = vp_V ff_12 j := by decide +kernel
theorem hi_12 : ∀ w ∈ u_ws rc_12 tc_12 65, w ∈ tb_T := tb_ws [963, 965, 967, 969, 971, 973, 975, 977, 979, 981, 983, 985, 987, 989, 991, 993, 995, 997, 999, 1001, 1003, 1005, 1007, 1009, 1011, 1013, 1015, 1017, 1019, 1021, 1023, 1025, 1027, 1029, 1031, 1033, 1035, 1037, 1039, 1041, 1043, 1045, 1047, 1049, 1051, 1053, 1055, 1057, 1059, 1061, 1063, 1065, 1067, 1069, 1071, 1073, 1075, 1077, 1079, 1081, 1083, 1085, 1087, 1089, 1091] (by decide +kernel) (by decide +kernel)
def vc_L : List vw_C := [(rc_0, tc_0, 3), (rc_1, tc_1, 4), (rc_2, tc_2, 3), (rc_3, tc_3, 7), (rc_4, tc_4, 1), (rc_5, tc_5, 5), (rc_6, tc_6, 6), (rc_7, tc_7, 7), (rc_8, tc_8, 10), (rc_9, tc_9, 4), (rc_10, tc_10, 3), (rc_11, tc_11, 3), (rc_12, tc_12, 65)]
theorem hc_0 : vc_L[0]? = some (rc_0, tc_0, 3) := rfl
theorem hc_1 : vc_L[1]? = some (rc_1, tc_1, 4) := rfl
theorem hc_2 : vc_L[2]? = some (rc_2, tc_2, 3) := rfl
theorem hc_3 : vc_L[3]? = some (rc_3, tc_3, 7) := rfl
theorem hc_4 : vc_L[4]? = some (rc_4, tc_4, 1) := rfl
theorem hc_5 : vc_L[5]? = some (rc_5, tc_5, 5) := rfl
theorem hc_6 : vc_L[6]? = some (rc_6, tc_6, 6) := rfl
theorem hc_7 : vc_L[7]? = some (rc_7, tc_7, 7) := rfl
theorem hc_8 : vc_L[8]? = some (rc_8, tc_8, 10) := rfl
theorem hc_9 : vc_L[9]? = some (rc_9, tc_9, 4) := rfl
theorem hc_10 : vc_L[10]? = some (rc_10, tc_10, 3) := rfl
theorem hc_11 : vc_L[11]? = some (rc_11, tc_11, 3) := rfl
theorem hc_12 : vc_L[12]? = some (rc_12, tc_12, 65) := rfl
def vt_L : List FieldType := [.int, .long, .boolean, .object "java/lang/Object", .object "MessageHub$Link", .object "MessageHub$Client", .object "MessageHub$Connection", .object "MessageHub$Session"]
def gw_nw : List Cond := [(Cond.arrayOver (FieldType.object "MessageHub$Link")), (Cond.arrayOver (FieldType.object "MessageHub$Client")), (Cond.methodLinkNest "MessageHub" (21 : Nat) ({ cls := "MessageHub$Link", name := "<init>", desc := "()V" } : MethodName) "MessageHub"), (Cond.methodLinkNest "MessageHub$Client" (20 : Nat) ({ cls := "MessageHub$HeldIds", name := "<init>", desc := "()V" } : MethodName) "MessageHub"), (Cond.arrayOver (FieldType.object "MessageHub$Connection")), (Cond.arrayOver (FieldType.object "MessageHub$Session")), (Cond.methodLinkNest "MessageHub$Broker" (38 : Nat) ({ cls := "MessageHub$Connection", name := "<init>", desc := "()V" } : MethodName) "MessageHub"), (Cond.methodLinkNest "MessageHub$Broker" (39 : Nat) ({ cls := "MessageHub$Session", name := "<init>", desc := "()V" } : MethodName) "MessageHub"), (Cond.methodLinkNest "MessageHub$Session" (26 : Nat) ({ cls := "MessageHub$HeldIds", name := "<init>", desc := "()V" } : MethodName) "MessageHub"), (Cond.methodLinkNest "MessageHub$Text" (33 : Nat) ({ cls := "MessageHub", name := "isWithin", desc := "(III)Z" } : MethodName) "MessageHub"), (Cond.arrayOver (FieldType.object "java/lang/Object")), (Cond.methodLinkNest "MessageHub$Client" (93 : Nat) ({ cls := "MessageHub", name := "isWithin", desc := "(III)Z" } : MethodName) "MessageHub"), (Cond.declares ({ cls := "java/lang/Object", name := "getClass", desc := "()Ljava/lang/Class;" } : MethodName)), (Cond.castable "MessageHub" "java/lang/Object"), (Cond.castable "MessageHub$Link" "java/lang/Object"), (Cond.castable "MessageHub$Client" "java/lang/Object"), (Cond.castable "MessageHub$HeldIds" "java/lang/Object"), (Cond.castable "MessageHub$Broker" "java/lang/Object"), (Cond.castable "MessageHub$Connection" "java/lang/Object"), (Cond.castable "MessageHub$Session" "java/lang/Object"), (Cond.castable "MessageHubModel" "java/lang/Object"), (Cond.castable "MessageHub$Packet" "java/lang/Object"), (Cond.castable "MessageHub$Message" "java/lang/Object"), (Cond.castable "MessageHub$Parcel" "java/lang/Object"), (Cond.castable "MessageHub$Subscription" "java/lang/Object")]
def gw_G (b Ls : Nat) (xs : Nat → Int32) (z : Nat × Nat) : Nat → (State → Prop) → Prop := fun lo O => ∀ U : State, O U → (∀ w ∈ gw_nw, va_Nw w U) ∧ (va_X b Ls xs U U.heap ∧ b < lo) ∧ va_Z "java/util/ArrayList" "DEFAULTCAPACITY_EMPTY_ELEMENTDATA" "[Ljava/lang/Object;" (.ref z.1) (fun q => lo ≤ q) U U.heap ∧ va_T (.object "java/lang/Object") z.1 0 (fun _ => .null) (fun q => lo ≤ q) U U.heap ∧ va_Mi "[Ljava/lang/Object;" z.2 U
section GW
variable {b Ls : Nat} {xs : Nat → Int32} {z : Nat × Nat}
theorem gw_o4 : ∀ (lo : Nat) (O : State → Prop) (s : State), gw_G b Ls xs z lo O → O s → va_AO "MessageHub$Link" s := fun lo O s g o => (g s o).1 (Cond.arrayOver (FieldType.object "MessageHub$Link")) (List.mem_of_getElem? (i := 0) rfl)
theorem gw_o5 : ∀ (lo : Nat) (O : State → Prop) (s : State), gw_G b Ls xs z lo O → O s → va_AO "MessageHub$Client" s := fun lo O s g o => (g s o).1 (Cond.arrayOver (FieldType.object "MessageHub$Client")) (List.mem_of_getElem? (i := 1) rfl)
theorem gw_n37 : ∀ (lo : Nat) (O : State → Prop) (s : State), gw_G b Ls xs z lo O → O s → va_Nw (Cond.methodLinkNest "MessageHub" (21 : Nat) ({ cls := "MessageHub$Link", name := "<init>", desc := "()V" } : MethodName) "MessageHub") s := fun lo O s g o => (g s o).1 _ (List.mem_of_getElem? (i := 2) rfl)
theorem gw_n96 : ∀ (lo : Nat) (O : State → Prop) (s : State), gw_G b Ls xs z lo O → O s → va_Nw (Cond.methodLinkNest "MessageHub$Client" (20 : Nat) ({ cls := "MessageHub$HeldIds", name := "<init>", desc := "()V" } : MethodName) "MessageHub") s := fun lo O s g o => (g s o).1 _ (List.mem_of_getElem? (i := 3) rfl)
theorem gw_o6 : ∀ (lo : Nat) (O : State → Prop) (s : State), gw_G b Ls xs z lo O → O s → va_AO "MessageHub$Connection" s := fun lo O s g o => (g s o).1 (Cond.arrayOver (FieldType.object "MessageHub$Connection")) (List.mem_of_getElem? (i := 4) rfl)
theorem gw_o7 : ∀ (lo : Nat) (O : State → Prop) (s : State), gw_G b Ls xs z lo O → O s → va_AO "MessageHub$Session" s := fun lo O s g o => (g s o).1 (Cond.arrayOver (FieldType.object "MessageHub$Session")) (List.mem_of_getElem? (i := 5) rfl)
theorem gw_n141 : ∀ (lo : Nat) (O : State → Prop) (s : State), gw_G b Ls xs z lo O → O s → va_Nw (Cond.methodLinkNest "MessageHub$Broker" (38 : Nat) ({ cls := "MessageHub$Connection", name := "<init>", desc := "()V" } : MethodName) "MessageHub") s := fun lo O s g o => (g s o).1 _ (List.mem_of_getElem? (i := 6) rfl)
theorem gw_n169 : ∀ (lo : Nat) (O : State → Prop) (s : State), gw_G b Ls xs z lo O → O s → va_Nw (Cond.methodLinkNest "MessageHub$Broker" (39 : Nat) ({ cls := "MessageHub$Session", name := "<init>", desc := "()V" } : MethodName) "MessageHub") s := fun lo O s g o => (g s o).1 _ (List.mem_of_getElem? (i := 7) rfl)
theorem gw_n176 : ∀ (lo : Nat) (O : State → Prop) (s : State), gw_G b Ls xs z lo O → O s → va_Nw (Cond.methodLinkNest "MessageHub$Session" (26 : Nat) ({ cls := "MessageHub$HeldIds", name := "<init>", desc := "()V" } : MethodName) "MessageHub") s := fun lo O s g o => (g s o).1 _ (List.mem_of_getElem? (i := 8) rfl)
theorem gw_n244 : ∀ (lo : Nat) (O : State → Prop) (s : State), gw_G b Ls xs z lo O → O s → va_Nw (Cond.methodLinkNest "MessageHub$Text" (33 : Nat) ({ cls := "MessageHub", name := "isWithin", desc := "(III)Z" } : MethodName) "MessageHub") s := fun lo O s g o => (g s o).1 _ (List.mem_of_getElem? (i := 9) rfl)
theorem gw_o3 : ∀ (lo : Nat) (O : State → Prop) (s : State), gw_G b Ls xs z lo O → O s → va_AO "java/lang/Object" s := fun lo O s g o => (g s o).1 (Cond.arrayOver (FieldType.object "java/lang/Object")) (List.mem_of_getElem? (i := 10) rfl)
theorem gw_n596 : ∀ (lo : Nat) (O : State → Prop) (s : State), gw_G b Ls xs z lo O → O s → va_Nw (Cond.methodLinkNest "MessageHub$Client" (93 : Nat) ({ cls := "MessageHub", name := "isWithin", desc := "(III)Z" } : MethodName) "MessageHub") s := fun lo O s g o => (g s o).1 _ (List.mem_of_getElem? (i := 11) rfl)
theorem gw_dc : ∀ (lo : Nat) (O : State → Prop) (s : State), gw_G b Ls xs z lo O → O s → va_Nw (Cond.declares ({ cls := "java/lang/Object", name := "getClass", desc := "()Ljava/lang/Class;" } : MethodName)) s := fun lo O s g o => (g s o).1 _ (List.mem_of_getElem? (i := 12) rfl)
theorem gw_c0 : ∀ (lo : Nat) (O : State → Prop) (s : State), gw_G b Ls xs z lo O → O s → va_Nw (Cond.castable "MessageHub" "java/lang/Object") s := fun lo O s g o => (g s o).1 _ (List.mem_of_getElem? (i := 13) rfl)
theorem gw_c1 : ∀ (lo : Nat) (O : State → Prop) (s : State), gw_G b Ls xs z lo O → O s → va_Nw (Cond.castable "MessageHub$Link" "java/lang/Object") s := fun lo O s g o => (g s o).1 _ (List.mem_of_getElem? (i := 14) rfl)
theorem gw_c3 : ∀ (lo : Nat) (O : State → Prop) (s : State), gw_G b Ls xs z lo O → O s → va_Nw (Cond.castable "MessageHub$Client" "java/lang/Object") s := fun lo O s g o => (g s o).1 _ (List.mem_of_getElem? (i := 15) rfl)
theorem gw_c4 : ∀ (lo : Nat) (O : State → Prop) (s : State), gw_G b Ls xs z lo O → O s → va_Nw (Cond.castable "MessageHub$HeldIds" "java/lang/Object") s := fun lo O s g o => (g s o).1 _ (List.mem_of_getElem? (i := 16) rfl)
theorem gw_c5 : ∀ (lo : Nat) (O : State → Prop) (s : State), gw_G b Ls xs z lo O → O s → va_Nw (Cond.castable "MessageHub$Broker" "java/lang/Object") s := fun lo O s g o => (g s o).1 _ (List.mem_of_getElem? (i := 17) rfl)
theorem gw_c6 : ∀ (lo : Nat) (O : State → Prop) (s : State), gw_G b Ls xs z lo O → O s → va_Nw (Cond.castable "MessageHub$Connection" "java/lang/Object") s := fun lo O s g o => (g s o).1 _ (List.mem_of_getElem? (i := 18) rfl)
theorem gw_c7 : ∀ (lo : Nat) (O : State → Prop) (s : State), gw_G b Ls xs z lo O → O s → va_Nw (Cond.castable "MessageHub$Session" "java/lang/Object") s := fun lo O s g o => (g s o).1 _ (List.mem_of_getElem? (i := 19) rfl)
theorem gw_c12 : ∀ (lo : Nat) (O : State → Prop) (s : State), gw_G b Ls xs z lo O → O s → va_Nw (Cond.castable "MessageHubModel" "java/lang/Object") s := fun lo O s g o => (g s o).1 _ (List.mem_of_getElem? (i := 20) rfl)
theorem gw_c8 : ∀ (lo : Nat) (O : State → Prop) (s : State), gw_G b Ls xs z lo O → O s → va_Nw (Cond.castable "MessageHub$Packet" "java/lang/Object") s := fun lo O s g o => (g s o).1 _ (List.mem_of_getElem? (i := 21) rfl)
theorem gw_c9 : ∀ (lo : Nat) (O : State → Prop) (s : State), gw_G b Ls xs z lo O → O s → va_Nw (Cond.castable "MessageHub$Message" "java/lang/Object") s := fun lo O s g o => (g s o).1 _ (List.mem_of_getElem? (i := 22) rfl)
theorem gw_c10 : ∀ (lo : Nat) (O : State → Prop) (s : State), gw_G b Ls xs z lo O → O s → va_Nw (Cond.castable "MessageHub$Parcel" "java/lang/Object") s := fun lo O s g o => (g s o).1 _ (List.mem_of_getElem? (i := 23) rfl)
theorem gw_c11 : ∀ (lo : Nat) (O : State → Prop) (s : State), gw_G b Ls xs z lo O → O s → va_Nw (Cond.castable "MessageHub$Subscription" "java/lang/Object") s := fun lo O s g o => (g s o).1 _ (List.mem_of_getElem? (i := 24) rfl)
theorem gw_X : ∀ (lo : Nat) (O : State → Prop) (s : State), gw_G b Ls xs z lo O → O s → va_X b Ls xs s s.heap ∧ b < lo := fun lo O s g o => (g s o).2.1
theorem gw_Z : ∀ (lo : Nat) (O : State → Prop) (s : State), gw_G b Ls xs z lo O → O s → va_Z "java/util/ArrayList" "DEFAULTCAPACITY_EMPTY_ELEMENTDATA" "[Ljava/lang/Object;" (.ref z.1) (fun q => lo ≤ q) s s.heap := fun lo O s g o => (g s o).2.2.1
theorem gw_T : ∀ (lo : Nat) (O : State → Prop) (s : State), gw_G b Ls xs z lo O → O s → va_T (.object "java/lang/Object") z.1 0 (fun _ => .null) (fun q => lo ≤ q) s s.heap := fun lo O s g o => (g s o).2.2.2.1
theorem gw_Mi : ∀ (lo : Nat) (O : State → Prop) (s : State), gw_G b Ls xs z lo O → O s → va_Mi "[Ljava/lang/Object;" z.2 s := fun lo O s g o => (g s o).2.2.2.2
theorem gw_Mc : ∀ (lo : Nat) (O : State → Prop) (s : State), gw_G b Ls xs z lo O → O s → va_Mi "[Ljava/lang/Object;" z.2 s ∧ va_Nw (.declares ⟨"java/lang/Object", "getClass", "()Ljava/lang/Class;"⟩) s := fun lo O s g o => ⟨(g s o).2.2.2.2, gw_dc lo O s g o⟩
def gw_cs : List Nat := [0, 1, 3, 4, 5, 6, 7, 8, 9, 10, 11, 12]
theorem gw_csO : ∀ ci ∈ gw_cs, ∃ (C : String) (T : u_T) (N : Nat), vc_L[ci]? = some (C, T, N) ∧ (C = "java/lang/Object" ∨ ∀ (lo : Nat) (O : State → Prop) (s : State), gw_G b Ls xs z lo O → O s → va_Nw (.castable C "java/lang/Object") s) := by
  intro ci h
  simp only [gw_cs, List.mem_cons, List.not_mem_nil, or_false] at h
  rcases h with rfl | rfl | rfl | rfl | rfl | rfl | rfl | rfl | rfl | rfl | rfl | rfl
  · exact ⟨_, _, _, hc_0, Or.inr gw_c0⟩
  · exact ⟨_, _, _, hc_1, Or.inr gw_c1⟩
  · exact ⟨_, _, _, hc_3, Or.inr gw_c3⟩
  · exact ⟨_, _, _, hc_4, Or.inr gw_c4⟩
  · exact ⟨_, _, _, hc_5, Or.inr gw_c5⟩
  · exact ⟨_, _, _, hc_6, Or.inr gw_c6⟩
  · exact ⟨_, _, _, hc_7, Or.inr gw_c7⟩
  · exact ⟨_, _, _, hc_8, Or.inr gw_c8⟩
  · exact ⟨_, _, _, hc_9, Or.inr gw_c9⟩
  · exact ⟨_, _, _, hc_10, Or.inr gw_c10⟩
  · exact ⟨_, _, _, hc_11, Or.inr gw_c11⟩
  · exact ⟨_, _, _, hc_12, Or.inr gw_c12⟩
def gw_ast (t ci : Nat) : Bool := (t == 3 && gw_cs.contains ci) || (t == 4 && ci == 1) || (t == 5 && ci == 3) || (t == 6 && ci == 6) || (t == 7 && ci == 7)
variable {l : Launch} {cc : ByteArray} {nL : Nat} {ret : Option FieldType} {nm own : String} {d wd pc : Nat}
theorem ev_union {G : Nat → (State → Prop) → Prop} {cl : List vw_C} {tyL : List FieldType} {Ts : List Cond} {op : ev_Op} (h : ∀ L stk hh x, op L stk hh x → ∃ op', ev_Good l cl tyL G cc nL ret nm own Ts d wd pc op' ∧ op' L stk hh x) : ev_Good l cl tyL G cc nL ret nm own Ts d wd pc op := by
  refine ⟨fun L stk hh => ⟨fun st' e1 => ?_, fun o e1 => ?_⟩, fun p e R s m args below meth c D cA lo O b0 oE X => ⟨fun L stk hh g1 g2 Q st' e1 r1 r2 k => ?_, fun L stk hh g1 g2 e1 => ?_⟩⟩
  · obtain ⟨op', g, e2⟩ := h L stk hh _ e1
    exact (g.1 L stk hh).1 st' e2
  · obtain ⟨op', g, e2⟩ := h L stk hh _ e1
    exact (g.1 L stk hh).2 o e2
  · obtain ⟨op', g, e2⟩ := h L stk hh _ e1
    exact (g.2 p e R s m args below meth c D cA lo O b0 oE X).1 L stk hh g1 g2 Q st' e2 r1 r2 k
  · obtain ⟨op', g, e2⟩ := h L stk hh _ e1
    exact (g.2 p e R s m args below meth c D cA lo O b0 oE X).2 L stk hh g1 g2 e2
def ev_aaldR (nx : Nat) : ev_Fn := fun L stk h => match stk with
  | .int i :: .ref a :: r => match h.2.2 a with
    | some (.inl (t, n, .inr (.inr (.inr (.inr f))))) => if (3 ≤ t ∧ t < 8) ∧ ¬ (i < 0 ∨ n ≤ i.toNatClampNeg) then some (.inl (nx, L, va_rf (f i.toNatClampNeg) :: r, h)) else none
    | _ => none
  | _ => none
theorem ok_aaldR {G : Nat → (State → Prop) → Prop} {cl : List vw_C} {Ts : List Cond} (hd : decode cc pc = .ok (.aaload, 1)) : ev_Good l cl vt_L G cc nL ret nm own Ts d wd pc (ev_fn (ev_aaldR (pc + 1))) := by
  refine ev_union fun L stk h x hx => ?_
  have hx' := hx
  unfold ev_fn ev_aaldR at hx
  split at hx
  · rename_i i a r
    split at hx
    · rename_i t n0 f hf
      split at hx
      · rename_i hg
        obtain ⟨C, hC⟩ : ∃ C, vt_L[t]? = some (.object C) := by
          rcases (show t = 3 ∨ t = 4 ∨ t = 5 ∨ t = 6 ∨ t = 7 by omega) with rfl | rfl | rfl | rfl | rfl <;> exact ⟨_, rfl⟩
        refine ⟨ev_fn (ev_aaldT t (pc + 1)), ok_aaldT hC hd, ?_⟩
        show ev_aaldT t (pc + 1) L _ h = some x
        simp only [ev_aaldT, hf, hg.2, and_true, if_true, not_false_eq_true]
        exact hx
      · cases hx
    · cases hx
  · cases hx
def ev_aastR (nx : Nat) : ev_Fn := fun L stk h => match stk with
  | .ref v :: .int i :: .ref a :: r => match h.2.2 a, h.2.2 v with
    | some (.inl (t, n, .inr (.inr (.inr (.inr f))))), some (.inr (ci, _)) => if gw_ast t ci = true ∧ ¬ (i < 0 ∨ n ≤ i.toNatClampNeg) then some (.inl (nx, L, r, ev_put h a (.inl (t, n, .inr (.inr (.inr (.inr (va_up f i.toNatClampNeg (some v)))))))) ) else none
    | _, _ => none
  | .null :: .int i :: .ref a :: r => match h.2.2 a with
    | some (.inl (t, n, .inr (.inr (.inr (.inr f))))) => if (3 ≤ t ∧ t < 8) ∧ ¬ (i < 0 ∨ n ≤ i.toNatClampNeg) then some (.inl (nx, L, r, ev_put h a (.inl (t, n, .inr (.inr (.inr (.inr (va_up f i.toNatClampNeg none)))))))) else none
    | _ => none
  | _ => none
theorem gw_ast_ok {t ci : Nat} (h : gw_ast t ci = true) : ∃ (E C : String) (T : u_T) (N : Nat), vt_L[t]? = some (.object E) ∧ vc_L[ci]? = some (C, T, N) ∧ (C = E ∨ ∀ (lo : Nat) (O : State → Prop) (s : State), gw_G b Ls xs z lo O → O s → va_Nw (.castable C E) s) := by
  simp only [gw_ast, Bool.or_eq_true, Bool.and_eq_true, beq_iff_eq] at h
  rcases h with (((⟨rfl, h⟩ | ⟨rfl, rfl⟩) | ⟨rfl, rfl⟩) | ⟨rfl, rfl⟩) | ⟨rfl, rfl⟩
  · obtain ⟨C, T, N, h1, h2⟩ := gw_csO (b := b) (Ls := Ls) (xs := xs) (z := z) ci (by simpa using h)
    exact ⟨_, C, T, N, rfl, h1, h2⟩
  · exact ⟨_, _, _, _, rfl, hc_1, Or.inl rfl⟩
  · exact ⟨_, _, _, _, rfl, hc_3, Or.inl rfl⟩
  · exact ⟨_, _, _, _, rfl, hc_6, Or.inl rfl⟩
  · exact ⟨_, _, _, _, rfl, hc_7, Or.inl rfl⟩
theorem ok_aastR {Ts : List Cond} (hd : decode cc pc = .ok (.aastore, 1)) : ev_Good l vc_L vt_L (gw_G b Ls xs z) cc nL ret nm own Ts d wd pc (ev_fn (ev_aastR (pc + 1))) := by
  refine ev_union fun L stk h x hx => ?_
  unfold ev_fn ev_aastR at hx
  split at hx
  · rename_i v i a r
    split at hx
    · rename_i t n0 f ci fs hf hv
      split at hx
      · rename_i hg
        obtain ⟨E, C, T, N, h1, h2, h3⟩ := gw_ast_ok (b := b) (Ls := Ls) (xs := xs) (z := z) hg.1
        refine ⟨ev_fn (ev_aast t [ci] (pc + 1)), ok_aast h1 (fun c hc => ?_) hd, ?_⟩
        · obtain rfl := List.mem_singleton.mp hc
          exact ⟨C, T, N, h2, h3⟩
        · show ev_aast t [ci] (pc + 1) L _ h = some x
          simp only [ev_aast, hf, hv, hg.2, List.contains_cons, List.contains_nil, Bool.or_false, beq_self_eq_true, and_true, if_true, not_false_eq_true]
          exact hx
      · cases hx
    · cases hx
  · rename_i i a r
    split at hx
    · rename_i t n0 f hf
      split at hx
      · rename_i hg
        obtain ⟨C, hC⟩ : ∃ C, vt_L[t]? = some (.object C) := by
          rcases (show t = 3 ∨ t = 4 ∨ t = 5 ∨ t = 6 ∨ t = 7 by omega) with rfl | rfl | rfl | rfl | rfl <;> exact ⟨_, rfl⟩
        refine ⟨ev_fn (ev_aast t [] (pc + 1)), ok_aast hC (fun c hc => by cases hc) hd, ?_⟩
        show ev_aast t [] (pc + 1) L _ h = some x
        simp only [ev_aast, hf, hg.2, and_true, if_true, not_false_eq_true]
        exact hx
      · cases hx
    · cases hx
  · cases hx
end GW
