/-! What the tables say is what the Statement's words say: own work. -/
def xm_ws : List Cond := lw_tbl.filter goodWord
theorem xm_ws_good : ∀ w ∈ xm_ws, goodWord w = true := fun w h => (List.mem_filter.mp h).2
/-- the tables' words by lists: the private methods' first -/
def xm_tb (j : Nat) : List Cond := match j with
  | 0 => k2_sels lw_privs
  | 1 => tables_1_1
  | 2 => tables_1_2
  | 3 => tables_1_3
  | _ => tables_1_4
theorem xm_tb_in {j : Nat} {w : Cond} (h : w ∈ xm_tb j) : w ∈ lw_tbl := by
  unfold xm_tb at h
  show w ∈ k2_sels lw_privs ++ (tables_1_1 ++ (tables_1_2 ++ (tables_1_3 ++ tables_1_4)))
  split at h
  · exact List.mem_append_left _ h
  · exact List.mem_append_right _ (List.mem_append_left _ h)
  · exact List.mem_append_right _ (List.mem_append_right _ (List.mem_append_left _ h))
  · exact List.mem_append_right _ (List.mem_append_right _ (List.mem_append_right _ (List.mem_append_left _ h)))
  · exact List.mem_append_right _ (List.mem_append_right _ (List.mem_append_right _ (List.mem_append_right _ h)))
/-- the word stands at that place -/
def xm_inw (w : Cond) (q : Nat × Nat) : Bool := decide ((xm_tb q.1)[q.2]? = some w) && goodWord w
theorem xm_inw_in {w : Cond} {q : Nat × Nat} (h : xm_inw w q = true) : w ∈ xm_ws := by
  unfold xm_inw at h
  rw [Bool.and_eq_true] at h
  exact List.mem_filter.mpr ⟨xm_tb_in (List.mem_of_getElem? (of_decide_eq_true h.1)), h.2⟩
def xm_pt (ps : List (Nat × Nat)) (i : Nat) : Nat × Nat := ps.getD i (0, 0)
def xm_za {α β : Type} (f : α → β → Bool) (l : List α) (m : List β) : Bool := (l.zip m).all (fun q => f q.1 q.2) && decide (l.length = m.length)
theorem xm_za_in {α β : Type} {f : α → β → Bool} {l : List α} {m : List β} (h : xm_za f l m = true) {a : α} (ha : a ∈ l) : ∃ b, f a b = true := by
  unfold xm_za at h
  rw [Bool.and_eq_true] at h
  have hlen := of_decide_eq_true h.2
  obtain ⟨i, hi⟩ := List.mem_iff_getElem?.mp ha
  have hl : i < l.length := (List.getElem?_eq_some_iff.mp hi).1
  have hl2 : i < m.length := by omega
  have hz : (a, m[i]) ∈ l.zip m := by
    apply List.mem_iff_getElem?.mpr
    refine ⟨i, ?_⟩
    rw [List.getElem?_zip_eq_some]
    exact ⟨hi, List.getElem?_eq_getElem hl2⟩
  exact ⟨_, List.all_eq_true.mp h.1 _ hz⟩
def xm_wk (k : Nat) : List Cond := Cond.code (xm_y k) (xm_b k) (xm_n k) (xm_r k) :: xm_ws
/-- words that the tables decide though the kit doesn't carry them in a contract -/
def xm_xw : List Cond := [.arrayOver (.object "TagCoder$Type"), .methodLinkNest "TagCoder" 25 ⟨"TagCoder$Octets", "<init>", "()V"⟩ "TagCoder", .methodLinkNest "TagCoder" 35 ⟨"TagCoder$Recoder", "<init>", "()V"⟩ "TagCoder", .methodLinkNest "TagCoder$Recoder" 11 ⟨"TagCoder$Octets", "<init>", "()V"⟩ "TagCoder",
  .declares ⟨"java/lang/RuntimeException", "<init>", "()V"⟩, .declares ⟨"java/lang/Exception", "<init>", "()V"⟩, .declares ⟨"java/lang/Throwable", "<init>", "()V"⟩, .castable "java/lang/IndexOutOfBoundsException" "java/lang/IndexOutOfBoundsException", .castable "java/lang/IllegalArgumentException" "java/lang/IllegalArgumentException", .not (.castable "java/lang/IllegalArgumentException" "java/lang/IndexOutOfBoundsException")]
/-- words that look at the heap: Throwable's two statics -/
def xm_ew : List Cond := [.isRef (.static "java/lang/Throwable" "UNASSIGNED_STACK" "[Ljava/lang/StackTraceElement;"), .isRef (.static "java/lang/Throwable" "SUPPRESSED_SENTINEL" "Ljava/util/List;"), .laysStatic "java/lang/Throwable" "UNASSIGNED_STACK" "[Ljava/lang/StackTraceElement;", .laysStatic "java/lang/Throwable" "SUPPRESSED_SENTINEL" "Ljava/util/List;"]
def xm_Nx (U : State) : Prop := ∀ V : State, U.WarmedH V.vm → ∀ (a : Array Value) (w : Cond), w ∈ xm_xw → w.before a V = true
def xm_Zx (B : Nat) (U : State) : Prop := ∀ V : State, U.vm.Alike V.vm → (∀ q : Nat, q ≤ B → V.heap[q]? = U.heap[q]?) → ∀ (a : Array Value) (w : Cond), w ∈ xm_ew → w.before a V = true
theorem xm_Nx.moved {u U : State} (hvm : u.WarmedH U.vm) (h : xm_Nx u) : xm_Nx U := fun V hV => h V (State.WarmedH.trans hvm hV)
theorem xm_Zx.moved {B : Nat} {u U : State} (hvm : u.vm.Alike U.vm) (ho : ∀ q : Nat, q ≤ B → U.heap[q]? = u.heap[q]?) (h : xm_Zx B u) : xm_Zx B U := fun V hV hh => h V (hvm.trans hV) (fun q hq => (hh q hq).trans (ho q hq))
def xm_cpp : List (List (List (Nat × Nat))) := [[[(1, 19)], [(1, 22)], [(1, 81)], [(1, 82)], [(1, 83)], [(1, 24), (1, 25), (1, 2)], [(1, 27), (1, 2)], [(1, 84)], [(1, 85)], [(1, 41), (1, 42), (1, 3)], [(1, 44), (1, 3)], [(1, 86)], [(1, 104), (1, 105), (1, 1)], [(1, 107), (1, 108), (1, 5)], [(1, 155), (1, 157), (0, 0), (1, 1)], [(1, 163), (1, 165), (0, 1), (1, 1)], [(1, 167), (1, 168), (1, 169), (1, 5)], [(1, 124)], [(1, 175), (1, 176), (1, 177), (1, 5)], [(1, 183), (1, 184), (1, 5)], [(1, 186), (1, 187), (1, 188), (1, 5)], [(1, 194), (1, 195), (1, 5)], [(1, 201), (1, 202), (1, 7)], [(1, 203), (1, 204), (1, 7)], [(1, 237), (1, 238), (1, 239), (1, 7)], [(2, 9), (2, 10), (2, 11), (1, 7)], [(2, 17), (2, 18), (2, 19), (1, 7)], [(2, 33), (2, 34), (1, 5)], [(1, 34)], [(2, 40), (2, 41), (2, 42), (1, 2)], [], [], [(2, 139), (2, 140), (2, 141), (1, 3)], [(1, 50)], [(3, 93), (2, 144), (2, 145), (1, 2)], [(2, 52), (2, 53), (2, 54), (1, 2)], [(1, 210)], [(1, 220)], [(1, 137)]],
  [[(1, 115)], [(1, 123)], [(1, 110), (1, 111), (1, 5)], [(1, 126)], [(1, 127)], [(1, 129)], [(1, 130)], [(1, 131)], [(1, 133)], [(1, 116), (1, 117), (1, 118), (1, 7)], [(1, 135)], [(1, 112), (1, 113), (1, 5)], [(1, 209)], [(1, 171), (1, 172), (1, 173), (1, 5)], [(2, 196), (2, 197), (2, 198), (1, 5)], [(2, 5), (2, 6), (2, 7), (1, 5)], [(2, 29), (2, 30), (2, 31), (1, 5)], [(2, 187), (2, 188), (2, 189), (1, 7)], [(1, 213)]],
  [[(1, 206)], [(1, 207)], [(1, 212)], [(1, 215)], [(1, 217)], [(1, 219)], [(1, 208)], [(2, 1), (2, 2), (2, 3), (1, 5)], [(2, 21), (2, 23), (0, 2), (1, 7)], [(2, 25), (2, 26), (2, 27), (1, 5)], [(1, 136)], [(1, 120)], [(2, 191), (2, 30), (2, 31), (1, 5)]],
  [[(1, 29)], [(1, 30)], [(1, 32)], [(2, 147)], [(3, 88), (3, 89), (1, 2)], [], [], [(2, 221), (2, 223), (0, 13), (1, 2)], [(2, 225)], [(3, 3), (3, 5), (0, 15), (1, 2)]],
  [[(1, 46)], [(1, 47), (1, 25), (1, 2)], [(1, 27), (1, 2)], [(1, 49)], [(1, 51)], [(1, 52)], [(1, 53)], [(1, 54)], [(1, 55)], [(1, 56)], [(1, 57)], [(1, 58)], [(1, 59)], [(2, 143), (2, 144), (2, 145), (1, 2)], [(1, 33)], [(2, 148), (2, 150), (0, 4), (1, 3)], [], [], [(2, 167), (2, 169), (0, 5), (1, 3)], [(2, 179), (2, 181), (0, 8), (1, 3)], [(2, 183), (2, 184), (2, 185), (1, 5)], [(2, 192), (2, 193), (2, 194), (1, 5)], [(1, 125)], [(1, 134)], [(2, 200), (2, 202), (0, 9), (1, 3)], [(3, 11), (3, 13), (0, 16), (1, 3)], [(3, 15), (3, 17), (0, 17), (1, 3)], [(3, 19), (3, 21), (0, 18), (1, 3)], [(3, 36), (3, 38), (0, 22), (1, 3)], [(3, 62), (3, 64), (0, 25), (1, 3)], [(3, 82), (2, 197), (2, 198), (1, 5)], [(3, 83), (3, 84), (3, 85), (1, 2)], [(1, 31)], [(2, 171), (2, 173), (0, 6), (1, 3)], [(2, 175), (2, 177), (0, 7), (1, 3)], [(3, 66), (3, 68), (0, 26), (1, 3)], [(3, 70), (3, 72), (0, 27), (1, 3)], [(3, 74), (3, 76), (0, 28), (1, 3)], [(3, 78), (3, 80), (0, 29), (1, 3)], [(3, 23), (2, 41), (2, 42), (1, 2)], [(1, 128)], [(3, 61), (2, 6), (2, 7), (1, 5)], [(3, 24), (3, 26), (0, 19), (1, 3)], [(3, 40), (3, 42), (0, 23), (1, 3)], [(3, 57), (3, 59), (0, 24), (1, 3)], [(3, 28), (3, 30), (0, 20), (1, 3)], [(2, 204), (2, 206), (0, 10), (1, 3)], [(3, 32), (3, 34), (0, 21), (1, 3)], [(3, 44), (3, 45), (1, 3)], [(3, 47), (3, 48), (1, 3)], [(3, 51), (3, 52), (1, 3)], [(1, 132)], [(2, 213), (2, 215), (0, 12), (1, 3)], [(2, 208), (2, 210), (0, 11), (1, 3)], [(2, 212), (2, 188), (2, 189), (1, 7)], [(1, 214)], [(1, 216)], [(1, 218)], [(1, 211)], [(3, 7), (3, 8), (3, 9), (1, 7)], [(2, 217), (2, 218), (2, 219), (1, 2)], [(2, 228), (2, 229), (2, 230), (1, 2)], [(2, 232), (2, 234), (0, 14), (1, 3)], [(2, 239), (3, 0), (3, 1), (1, 2)], [(2, 236)]],
  [[(3, 99)], [(3, 102)], [(3, 103)], [(3, 104)], [(3, 105)], [(3, 106)], [(3, 107)], [(3, 108)], [(3, 109)], [(3, 110)], [(3, 111)], [(3, 112)], [(3, 113)], [(3, 114)], [(3, 117)], [(3, 119)], [(3, 127)], [(3, 129)], [(3, 130)], [(3, 131)], [(3, 132)], [(3, 133)], [(3, 134)], [(3, 135)], [(3, 136)], [(3, 137)], [(3, 139)], [(3, 140)], [(3, 141)], [(3, 143)], [(3, 144)], [(3, 145)], [(3, 146)], [(3, 100)], [(3, 101)], [(4, 11), (4, 13), (0, 30), (1, 4)], [(4, 19), (4, 21), (0, 31), (1, 4)], [(4, 27), (4, 29), (0, 32), (1, 4)], [(3, 115)], [(4, 44), (4, 46), (0, 33), (1, 4)], [(4, 60), (4, 62), (0, 36), (1, 4)], [(4, 56), (4, 58), (0, 35), (1, 4)], [(4, 52), (4, 54), (0, 34), (1, 4)], [(3, 116)], [(3, 121)], [(3, 122)], [(3, 120)], [(4, 92), (4, 94), (0, 41), (1, 4)], [(3, 124)], [(3, 123)], [(4, 88), (4, 90), (0, 40), (1, 4)], [(3, 125)], [(3, 142)], [(4, 150), (4, 152), (0, 54), (1, 4)], [(3, 138)], [(3, 126)], [(4, 146), (4, 148), (0, 53), (1, 4)], [(4, 154), (4, 156), (0, 55), (1, 4)], [(4, 186), (4, 188), (0, 63), (1, 4)], [(4, 170), (4, 172), (0, 59), (1, 4)], [(4, 142), (4, 144), (0, 52), (1, 4)], [(4, 174), (4, 176), (0, 60), (1, 4)], [(4, 117), (4, 119), (0, 47), (1, 4)], [(4, 113), (4, 115), (0, 46), (1, 4)], [(4, 121), (4, 123), (0, 48), (1, 4)], [(4, 104), (4, 106), (0, 44), (1, 4)], [(4, 109), (4, 111), (0, 45), (1, 4)], [(4, 125), (4, 127), (0, 49), (1, 4)], [(4, 133), (4, 135), (0, 50), (1, 4)], [(4, 138), (4, 140), (0, 51), (1, 4)], [(3, 128)], [(4, 84), (4, 86), (0, 39), (1, 4)], [(4, 96), (4, 98), (0, 42), (1, 4)], [(4, 100), (4, 102), (0, 43), (1, 4)], [(4, 158), (4, 160), (0, 56), (1, 4)], [(4, 182), (4, 184), (0, 62), (1, 4)], [(4, 80), (4, 82), (0, 38), (1, 4)], [(4, 178), (4, 180), (0, 61), (1, 4)], [(4, 166), (4, 168), (0, 58), (1, 4)], [(4, 190), (4, 192), (0, 64), (1, 4)], [(4, 194), (4, 196), (0, 65), (1, 4)], [(4, 76), (4, 78), (0, 37), (1, 4)], [(4, 162), (4, 164), (0, 57), (1, 4)], [(3, 118)]],
  [[(2, 73), (2, 74), (2, 75), (1, 1)], [(1, 14), (1, 15), (1, 1)], [(1, 16), (1, 17), (1, 1)], [(3, 94), (3, 95), (1, 4)], [(3, 96), (3, 97), (1, 4)], [(1, 100), (1, 101), (1, 102), (1, 1)], [(4, 7), (4, 8), (4, 9), (1, 4)], [(1, 159), (1, 160), (1, 161), (1, 1)], [(4, 15), (4, 16), (4, 17), (1, 4)], [(1, 179), (1, 180), (1, 181), (1, 1)], [(4, 23), (4, 24), (4, 25), (1, 4)], [(1, 190), (1, 191), (1, 192), (1, 1)], [(4, 32), (4, 33), (4, 34), (1, 4)], [(1, 197), (1, 198), (1, 199), (1, 1)], [(4, 36), (4, 37), (4, 38), (1, 4)], [(1, 233), (1, 234), (1, 235), (1, 1)], [(4, 40), (4, 41), (4, 42), (1, 4)], [(2, 13), (2, 14), (2, 15), (1, 1)], [(4, 48), (4, 49), (4, 50), (1, 4)], [(2, 36), (2, 37), (2, 38), (1, 1)], [(4, 64), (4, 65), (4, 66), (1, 4)], [(2, 44), (2, 45), (2, 46), (1, 1)], [(4, 68), (4, 69), (4, 70), (1, 4)], [(2, 68), (2, 69), (1, 0)], [(4, 72), (4, 73), (4, 74), (1, 4)], [(4, 3), (4, 4), (4, 5), (1, 4)], [(2, 48), (2, 49), (2, 50), (1, 1)], [(4, 198), (4, 199), (4, 200), (1, 4)], [(2, 56), (2, 57), (2, 58), (1, 1)], [(4, 202), (4, 203), (4, 204), (1, 4)], [(2, 60), (2, 61), (2, 62), (1, 1)], [(4, 206), (4, 207), (4, 208), (1, 4)], [(2, 64), (2, 65), (2, 66), (1, 1)], [(4, 210), (4, 211), (4, 212), (1, 4)]]]
def xm_lpp : List (List (Nat × Nat)) := [[(1, 87), (1, 89), (1, 91), (1, 93), (1, 95), (1, 97)],
  [(1, 138), (1, 140), (1, 142), (1, 144), (1, 146), (1, 148), (1, 150), (1, 152)],
  [(1, 221), (1, 223), (1, 225), (1, 227), (1, 229)],
  [(1, 35), (1, 37)],
  [(1, 60), (1, 62), (1, 64), (1, 66), (1, 68), (1, 70), (1, 72), (1, 74), (1, 76), (1, 78)],
  [(3, 147), (3, 149), (3, 151), (3, 153), (3, 155), (3, 157), (3, 159), (3, 161), (3, 163), (3, 165), (3, 167), (3, 169), (3, 171), (3, 173), (3, 175), (3, 177), (3, 179), (3, 181), (3, 183), (3, 185), (3, 187), (3, 189), (3, 191), (3, 193), (3, 195), (3, 197), (3, 199), (3, 201), (3, 203), (3, 205), (3, 207), (3, 209), (3, 211), (3, 213), (3, 215), (3, 217), (3, 219), (3, 221), (3, 223), (3, 225), (3, 227), (3, 229), (3, 231), (3, 233), (3, 235), (3, 237), (3, 239)]]
def xm_kip : List (List (Nat × Nat)) := [[], [], [], [(3, 87)], [(3, 50), (3, 54), (3, 55), (3, 56)], [(4, 31), (4, 129), (4, 130), (4, 131), (4, 132)], []]
def xm_klp : List (List (Nat × Nat)) := [[], [], [], [], [], [(4, 108), (4, 137)], [(4, 214)]]
def xm_mh (k : Nat) (z : Nat) : Bool := decide ((xm_y k).cls ≠ "java/lang/invoke/MethodHandle" ∧ (xm_y k).cls ≠ "java/lang/invoke/VarHandle" ∧ (parseMethodDescriptor (xm_y k).desc).map (fun d => d.parameters.length) = some z) && decide (xm_n k ≤ 41)
def xm_ck0 (ps : List (Nat × Nat)) (c idx ci j : Nat) : Bool := match xm_cls[ci]? with
  | none => false
  | some r => (decide (j < r.2.2) && xm_inw (.fieldLink (xm_cn c) idx (r.2.1 j).1 (r.2.1 j).2.1 (r.2.1 j).2.2.1) (xm_pt ps 0)) && (decide (parseFieldDescriptor (r.2.1 j).2.2.1 = some (xm_fty ci j)) && (decide ((r.2.1 j).2.2.2 = xm_fin ci j) && (decide (c = ci → (r.2.1 j).1 = xm_cn c))))
def xm_ck1 (ps : List (Nat × Nat)) (c idx k2 z : Nat) : Bool := (xm_inw (.methodLink (xm_cn c) idx (xm_y k2)) (xm_pt ps 0) && (xm_inw (.instanceMethod (xm_y k2)) (xm_pt ps 1) && (xm_inw (.selects (xm_own k2) (xm_y k2) (xm_y k2)) (xm_pt ps 2) && xm_inw (.initialized (xm_own k2)) (xm_pt ps 3)))) && (xm_mh k2 z && (decide ((xm_cls[xm_rc k2]?).map (fun r => r.1) = some (xm_own k2)) && (decide (xm_hh k2 = []) && decide (k2 < 134))))
def xm_ck2 (ps : List (Nat × Nat)) (c idx k2 z : Nat) : Bool := (xm_inw (.methodLink (xm_cn c) idx (xm_y k2)) (xm_pt ps 0) && (xm_inw (.static (xm_y k2)) (xm_pt ps 1) && xm_inw (.initialized (xm_own k2)) (xm_pt ps 2))) && (xm_mh k2 z && (decide (xm_hh k2 = []) && decide (k2 < 134)))
def xm_ck3 (ps : List (Nat × Nat)) (c idx k2 z : Nat) : Bool := (xm_inw (.methodLink (xm_cn c) idx (xm_y k2)) (xm_pt ps 0) && (xm_inw (.instanceMethod (xm_y k2)) (xm_pt ps 1) && xm_inw (.initialized (xm_own k2)) (xm_pt ps 2))) && (xm_mh k2 z && (decide (xm_hh k2 = []) && (decide (k2 < 134) && (decide ((xm_y k2).name = "<init>") && decide (xm_r k2 = none)))))
def xm_ck4 (ps : List (Nat × Nat)) (c idx ci : Nat) : Bool := match xm_cls[ci]? with
  | none => false
  | some r => (xm_inw (.classLink (xm_cn c) idx r.1) (xm_pt ps 0) && (xm_inw (.instantiable r.1 r.2.2) (xm_pt ps 1) && xm_inw (.initialized r.1) (xm_pt ps 2))) && (decide (xm_siz ci = r.2.2) && ((List.range r.2.2).all (fun j => decide (defaultValue (xm_fty ci j) = vp_V (xm_def ci) j)) && (xm_def ci).all (fun v => match v with
    | .ref _ => false
    | _ => true)))
def xm_ck12 (ps : List (Nat × Nat)) (c idx k2 z : Nat) : Bool := (xm_inw (.methodLink (xm_cn c) idx (xm_y k2)) (xm_pt ps 0) && (xm_inw (.static (xm_y k2)) (xm_pt ps 1) && xm_inw (.initialized (xm_own k2)) (xm_pt ps 2))) && (xm_mh k2 z && decide (k2 = 134))
def xm_ck13 (ps : List (Nat × Nat)) (c idx k2 z : Nat) : Bool := (decide (Cond.methodLinkNest (xm_cn c) idx (xm_y k2) "TagCoder" ∈ xm_xw) && (xm_inw (.instanceMethod (xm_y k2)) (xm_pt ps 0) && xm_inw (.initialized (xm_own k2)) (xm_pt ps 1))) && (xm_mh k2 z && (decide (xm_hh k2 = []) && (decide (k2 < 134) && (decide ((xm_y k2).name = "<init>") && decide (xm_r k2 = none)))))
def xm_ck (ps : List (Nat × Nat)) (c : Nat) (e : Nat × Nat × Nat × Nat) : Bool := match e.2.1 with
  | 0 => xm_ck0 ps c e.1 e.2.2.1 e.2.2.2
  | 1 => xm_ck1 ps c e.1 e.2.2.1 e.2.2.2
  | 2 => xm_ck2 ps c e.1 e.2.2.1 e.2.2.2
  | 3 => xm_ck3 ps c e.1 e.2.2.1 e.2.2.2
  | 4 => xm_ck4 ps c e.1 e.2.2.1
  | 6 => xm_inw (.classLink (xm_cn c) e.1 xm_eln) (xm_pt ps 0)
  | 7 => xm_inw (.methodLink (xm_cn c) e.1 Lib.objectInit) (xm_pt ps 0)
  | 8 => xm_inw (.methodLink (xm_cn c) e.1 arraycopyName) (xm_pt ps 0)
  | 9 => xm_inw (.methodLink (xm_cn c) e.1 Lib.Math.max.name) (xm_pt ps 0)
  | 10 => xm_inw (.methodLink (xm_cn c) e.1 Lib.Math.min.name) (xm_pt ps 0)
  | 12 => xm_ck12 ps c e.1 e.2.2.1 e.2.2.2
  | 13 => xm_ck13 ps c e.1 e.2.2.1 e.2.2.2
  | _ => true
set_option maxRecDepth 100000 in
theorem xm_ckall : (List.range 7).all (fun c => xm_za (fun e ps => xm_ck ps c e) (xm_cpl.getD c []) (xm_cpp.getD c [])) = true := by decide +kernel
set_option maxRecDepth 100000 in
theorem xm_ownall : (List.range 136).all (fun k => decide (xm_own k = xm_cn (xm_kc k)) && (decide (xm_kc k < 7) && (decide (plainName (xm_own k) = true) && (decide (xm_ini k = true → (xm_y k).name = "<init>"))))) = true := by decide +kernel

theorem xm_kc_lt {k : Nat} (h : xm_kc k < 7) : k < 136 := by
  unfold xm_kc at h
  by_cases hk : k < 136
  · exact hk
  · exfalso
    rw [List.getD_eq_getElem?_getD, List.getElem?_eq_none (by show 136 ≤ k; omega)] at h
    exact absurd h (by decide)
theorem xm_own_cn {k : Nat} (h : xm_kc k < 7) : xm_own k = xm_cn (xm_kc k) := by
  have h1 := List.all_eq_true.mp xm_ownall k (List.mem_range.mpr (xm_kc_lt h))
  rw [Bool.and_eq_true] at h1
  exact of_decide_eq_true h1.1
theorem xm_cp_in {k idx : Nat} {v : Nat × Nat × Nat} (h : xm_cp k idx = some v) : (∃ ps, xm_ck ps (xm_kc k) (idx, v) = true) ∧ xm_own k = xm_cn (xm_kc k) := by
  have hin : (idx, v) ∈ xm_cpl.getD (xm_kc k) [] := xm_look_in (show xm_look (xm_cpl.getD (xm_kc k) []) idx = some v from h)
  have hk : xm_kc k < 7 := by
    by_cases hk : xm_kc k < 7
    · exact hk
    · exfalso
      rw [List.getD_eq_getElem?_getD, List.getElem?_eq_none (by show 7 ≤ xm_kc k; omega)] at hin
      cases hin
  have h1 := List.all_eq_true.mp xm_ckall (xm_kc k) (List.mem_range.mpr hk)
  obtain ⟨ps, h2⟩ := xm_za_in h1 hin
  exact ⟨⟨ps, h2⟩, xm_own_cn hk⟩
theorem xm_t_f {k idx ci j : Nat} (h : xm_cp k idx = some (0, ci, j)) : ∃ (C : String) (T : u_T) (N : Nat), xm_cls[ci]? = some (C, T, N) ∧ j < N ∧ Cond.fieldLink (xm_own k) idx (T j).1 (T j).2.1 (T j).2.2.1 ∈ xm_ws ∧ parseFieldDescriptor (T j).2.2.1 = some (xm_fty ci j) ∧ (T j).2.2.2 = xm_fin ci j ∧ (xm_kc k = ci → (T j).1 = xm_own k) := by
  obtain ⟨⟨ps, h1⟩, h2⟩ := xm_cp_in h
  have h3 : xm_ck0 ps (xm_kc k) idx ci j = true := h1
  unfold xm_ck0 at h3
  cases hr : xm_cls[ci]? with
  | none => rw [hr] at h3; cases h3
  | some r =>
    obtain ⟨C, T, N⟩ := r
    rw [hr] at h3
    simp only [Bool.and_eq_true, decide_eq_true_eq] at h3
    obtain ⟨⟨a1, a2⟩, a3, a4, a5⟩ := h3
    exact ⟨C, T, N, rfl, a1, by rw [h2]; exact xm_inw_in a2, a3, a4, by rw [h2]; exact a5⟩
set_option maxRecDepth 100000 in
theorem xm_layall : (List.range 6).all (fun ci => match xm_cls[ci]? with
  | none => false
  | some r => (xm_za xm_inw (u_ws r.1 r.2.1 r.2.2) (xm_lpp.getD ci []) && ((List.range r.2.2).all (fun j => decide (parseFieldDescriptor (r.2.1 j).2.2.1 = some (xm_fty ci j))) && (List.range r.2.2).all (fun a => (List.range r.2.2).all (fun b => decide (a = b) || decide ((r.2.1 a).2.1 ≠ (r.2.1 b).2.1)))))) = true := by decide +kernel
theorem xm_t_lay {ci : Nat} {C : String} {T : u_T} {N : Nat} (h : xm_cls[ci]? = some (C, T, N)) : (∀ w ∈ u_ws C T N, w ∈ xm_ws) ∧ (∀ j, j < N → parseFieldDescriptor (T j).2.2.1 = some (xm_fty ci j)) ∧ (∀ a, a < N → ∀ b, b < N → a ≠ b → (T a).2.1 ≠ (T b).2.1) := by
  have hl : ci < 6 := (List.getElem?_eq_some_iff.mp h).1
  have h1 := List.all_eq_true.mp xm_layall ci (List.mem_range.mpr hl)
  rw [h] at h1
  simp only [Bool.and_eq_true] at h1
  obtain ⟨a1, a2, a3⟩ := h1
  refine ⟨fun w hw => (by obtain ⟨q, hq⟩ := xm_za_in a1 hw; exact xm_inw_in hq), fun j hj => of_decide_eq_true (List.all_eq_true.mp a2 j (List.mem_range.mpr hj)), fun a ha b hb hab => ?_⟩
  have h2 := List.all_eq_true.mp (List.all_eq_true.mp a3 a (List.mem_range.mpr ha)) b (List.mem_range.mpr hb)
  rw [Bool.or_eq_true] at h2
  rcases h2 with h2 | h2
  · exact absurd (of_decide_eq_true h2) hab
  · exact of_decide_eq_true h2
theorem xm_t_new {k idx ci y : Nat} (h : xm_cp k idx = some (4, ci, y)) : ∃ (C : String) (T : u_T) (N : Nat), xm_cls[ci]? = some (C, T, N) ∧ Cond.classLink (xm_own k) idx C ∈ xm_ws ∧ Cond.instantiable C N ∈ xm_ws ∧ Cond.initialized C ∈ xm_ws ∧ N = xm_siz ci ∧ (∀ j, j < N → defaultValue (xm_fty ci j) = vp_V (xm_def ci) j) ∧ ∀ B sb : Nat, (xm_def ci).all (fun v => match v with
    | .ref _ => false
    | _ => true) = true := by
  obtain ⟨⟨ps, h1⟩, h2⟩ := xm_cp_in h
  have h3 : xm_ck4 ps (xm_kc k) idx ci = true := h1
  unfold xm_ck4 at h3
  cases hr : xm_cls[ci]? with
  | none => rw [hr] at h3; cases h3
  | some r =>
    obtain ⟨C, T, N⟩ := r
    rw [hr] at h3
    simp only [Bool.and_eq_true] at h3
    obtain ⟨⟨a1, a2, a3⟩, a4, a5, a6⟩ := h3
    exact ⟨C, T, N, rfl, by rw [h2]; exact xm_inw_in a1, xm_inw_in a2, xm_inw_in a3, (of_decide_eq_true a4).symm, fun j hj => of_decide_eq_true (List.all_eq_true.mp a5 j (List.mem_range.mpr hj)), fun _ _ => a6⟩
theorem xm_t_oin {k idx y1 y2 : Nat} (h : xm_cp k idx = some (7, y1, y2)) : Cond.methodLink (xm_own k) idx Lib.objectInit ∈ xm_ws ∧ Cond.instanceMethod Lib.objectInit ∈ xm_ws ∧ Cond.code Lib.objectInit ⟨#[0xb1]⟩ 1 none ∈ xm_ws := by
  obtain ⟨⟨ps, h1⟩, h2⟩ := xm_cp_in h
  exact ⟨by rw [h2]; exact xm_inw_in h1, xm_inw_in (q := (1, 20)) (by decide +kernel), xm_inw_in (q := (1, 21)) (by decide +kernel)⟩
theorem xm_t_cpy {k idx y1 y2 : Nat} (h : xm_cp k idx = some (8, y1, y2)) : Cond.methodLink (xm_own k) idx arraycopyName ∈ xm_ws ∧ Cond.native arraycopyName ∈ xm_ws ∧ Cond.static arraycopyName ∈ xm_ws ∧ Cond.initialized "java/lang/System" ∈ xm_ws := by
  obtain ⟨⟨ps, h1⟩, h2⟩ := xm_cp_in h
  exact ⟨by rw [h2]; exact xm_inw_in h1, xm_inw_in (q := (1, 122)) (by decide +kernel), xm_inw_in (q := (1, 121)) (by decide +kernel), xm_inw_in (q := (1, 6)) (by decide +kernel)⟩
theorem xm_t_max {k idx y1 y2 : Nat} (h : xm_cp k idx = some (9, y1, y2)) : Cond.methodLink (xm_own k) idx Lib.Math.max.name ∈ xm_ws ∧ Cond.static Lib.Math.max.name ∈ xm_ws ∧ Cond.initialized "java/lang/Math" ∈ xm_ws ∧ Cond.code Lib.Math.max.name Lib.Math.max.code 2 (some .int) ∈ xm_ws := by
  obtain ⟨⟨ps, h1⟩, h2⟩ := xm_cp_in h
  exact ⟨by rw [h2]; exact xm_inw_in h1, xm_inw_in (q := (2, 237)) (by decide +kernel), xm_inw_in (q := (1, 13)) (by decide +kernel), xm_inw_in (q := (2, 238)) (by decide +kernel)⟩
theorem xm_t_min {k idx y1 y2 : Nat} (h : xm_cp k idx = some (10, y1, y2)) : Cond.methodLink (xm_own k) idx Lib.Math.min.name ∈ xm_ws ∧ Cond.static Lib.Math.min.name ∈ xm_ws ∧ Cond.initialized "java/lang/Math" ∈ xm_ws ∧ Cond.code Lib.Math.min.name Lib.Math.min.code 2 (some .int) ∈ xm_ws := by
  obtain ⟨⟨ps, h1⟩, h2⟩ := xm_cp_in h
  exact ⟨by rw [h2]; exact xm_inw_in h1, xm_inw_in (q := (2, 226)) (by decide +kernel), xm_inw_in (q := (1, 13)) (by decide +kernel), xm_inw_in (q := (2, 227)) (by decide +kernel)⟩
theorem xm_t_anw {k idx y1 y2 : Nat} (h : xm_cp k idx = some (6, y1, y2)) : Cond.classLink (xm_own k) idx xm_eln ∈ xm_ws := by
  obtain ⟨⟨ps, h1⟩, h2⟩ := xm_cp_in h
  rw [h2]
  exact xm_inw_in h1
theorem xm_t_elt : ∃ r : vw_C, xm_cls[xm_elt]? = some r ∧ r.1 = xm_eln := ⟨_, rfl, rfl⟩
theorem xm_t_a0 : Cond.arrayClass (newarray.typeOf .int) ∈ xm_ws := xm_inw_in (q := (1, 40)) (by decide +kernel)
theorem xm_t_a1 : Cond.arrayClass (newarray.typeOf .long) ∈ xm_ws := xm_inw_in (q := (1, 232)) (by decide +kernel)
theorem xm_t_a2 : Cond.arrayClass (newarray.typeOf .boolean) ∈ xm_ws := xm_inw_in (q := (4, 2)) (by decide +kernel)
set_option maxRecDepth 100000 in
theorem xm_kiall : (List.range 7).all (fun c => xm_za (fun e q => xm_inw (.constant (xm_cn c) e.1 e.2) q) (xm_kil.getD c []) (xm_kip.getD c []) && xm_za (fun e q => xm_inw (.constantLong (xm_cn c) e.1 e.2) q) (xm_kll.getD c []) (xm_klp.getD c [])) = true := by decide +kernel
theorem xm_k_lt {α : Type} {t : List (List (Nat × α))} {k idx : Nat} {v : α} (ht : t.length = 7) (h : xm_look (t.getD (xm_kc k) []) idx = some v) : xm_kc k < 7 := by
  by_cases hk : xm_kc k < 7
  · exact hk
  · exfalso
    rw [List.getD_eq_getElem?_getD, List.getElem?_eq_none (by omega)] at h
    cases h
theorem xm_t_ki {k idx : Nat} {v : Int32} (h : xm_ki k idx = some v) : Cond.constant (xm_own k) idx v ∈ xm_ws := by
  have hk := xm_k_lt (t := xm_kil) rfl h
  have h1 := List.all_eq_true.mp xm_kiall _ (List.mem_range.mpr hk)
  rw [Bool.and_eq_true] at h1
  rw [xm_own_cn hk]
  obtain ⟨q, hq⟩ := xm_za_in h1.1 (xm_look_in (show xm_look (xm_kil.getD (xm_kc k) []) idx = some v from h))
  exact xm_inw_in hq
theorem xm_t_kl {k idx : Nat} {v : Int64} (h : xm_kl k idx = some v) : Cond.constantLong (xm_own k) idx v ∈ xm_ws := by
  have hk := xm_k_lt (t := xm_kll) rfl h
  have h1 := List.all_eq_true.mp xm_kiall _ (List.mem_range.mpr hk)
  rw [Bool.and_eq_true] at h1
  rw [xm_own_cn hk]
  obtain ⟨q, hq⟩ := xm_za_in h1.2 (xm_look_in (show xm_look (xm_kll.getD (xm_kc k) []) idx = some v from h))
  exact xm_inw_in hq
set_option maxRecDepth 100000 in
theorem xm_rrall : (List.range 136).all (fun k => !xm_rr k || (match xm_r k with
  | some (.object _) => true
  | some (.array _) => true
  | _ => false)) = true := by decide +kernel
theorem xm_t_rr {k : Nat} (h : xm_rr k = true) : ∃ rt : FieldType, xm_r k = some rt ∧ ((∃ n, rt = .object n) ∨ ∃ t, rt = .array t) := by
  have hk : k < 136 := by
    by_cases hk : k < 136
    · exact hk
    · exfalso
      unfold xm_rr at h
      rw [List.getD_eq_getElem?_getD, List.getElem?_eq_none (by show 136 ≤ k; omega)] at h
      cases h
  have h1 := List.all_eq_true.mp xm_rrall k (List.mem_range.mpr hk)
  rw [h] at h1
  simp only [Bool.not_true, Bool.false_or] at h1
  split at h1
  · rename_i n hr
    exact ⟨_, hr, Or.inl ⟨_, rfl⟩⟩
  · rename_i n hr
    exact ⟨_, hr, Or.inr ⟨_, rfl⟩⟩
  · cases h1
theorem xm_zip_at {k : Nat} (hk : k < 136) : (xm_b k, xm_il.getD k []) ∈ xm_bl.zip xm_il := by
  have h1 : k < xm_bl.length := hk
  have h2 : k < xm_il.length := hk
  have e1 : xm_b k = xm_bl[k] := by unfold xm_b; rw [List.getD_eq_getElem?_getD, List.getElem?_eq_getElem h1]; rfl
  have e2 : xm_il.getD k [] = xm_il[k] := by rw [List.getD_eq_getElem?_getD, List.getElem?_eq_getElem h2]; rfl
  rw [e1, e2]
  have h3 : k < (xm_bl.zip xm_il).length := by rw [List.length_zip]; omega
  have := List.getElem_mem h3
  rwa [List.getElem_zip] at this
theorem xm_ins_lt {k pc : Nat} {x : ClassFile.Instr × Nat} (h : xm_ins k pc = some x) : k < 136 := by
  by_cases hk : k < 136
  · exact hk
  · exfalso
    unfold xm_ins at h
    rw [List.getD_eq_getElem?_getD, List.getElem?_eq_none (by show 136 ≤ k; omega)] at h
    cases h
theorem xm_t_ins {k pc n : Nat} {i : ClassFile.Instr} (h : xm_ins k pc = some (i, n)) : decode (xm_b k) pc = .ok (i, n) :=
  by
  have h1 : xm_dc (xm_b k) (xm_il.getD k []) := xm_dall (xm_b k, xm_il.getD k []) (xm_zip_at (xm_ins_lt h))
  have h2 : (pc, (i, n)) ∈ xm_il.getD k [] := xm_look_in (show xm_look (xm_il.getD k []) pc = some (i, n) from h)
  exact h1 (pc, (i, n)) h2
theorem xm_t_plain {k pc : Nat} {x : ClassFile.Instr × Nat} (h : xm_ins k pc = some x) : plainName (xm_y k).cls = true := by
  have h1 := List.all_eq_true.mp xm_ownall k (List.mem_range.mpr (xm_ins_lt h))
  simp only [Bool.and_eq_true, decide_eq_true_eq] at h1
  exact h1.2.2.1
theorem xm_t_ini {k : Nat} (h : xm_ini k = true) : (xm_y k).name = "<init>" := by
  have hk : k < 136 := by
    by_cases hk : k < 136
    · exact hk
    · exfalso
      unfold xm_ini at h
      rw [List.getD_eq_getElem?_getD, List.getElem?_eq_none (by show 136 ≤ k; omega)] at h
      cases h
  have h1 := List.all_eq_true.mp xm_ownall k (List.mem_range.mpr hk)
  simp only [Bool.and_eq_true, decide_eq_true_eq] at h1
  exact h1.2.2.2 h
/-- a word of a throw: of the tables, or of the two lists -/
def xm_inx (w : Cond) (q : Nat × Nat) : Bool := if q.1 < 5 then xm_inw w q else if q.1 = 5 then decide (xm_xw[q.2]? = some w) else decide (xm_ew[q.2]? = some w)
theorem xm_inx_in {w : Cond} {q : Nat × Nat} (h : xm_inx w q = true) : w ∈ xm_ws ∨ w ∈ xm_xw ∨ w ∈ xm_ew := by
  unfold xm_inx at h
  split at h
  · exact Or.inl (xm_inw_in h)
  · split at h
    · exact Or.inr (Or.inl (List.mem_of_getElem? (of_decide_eq_true h)))
    · exact Or.inr (Or.inr (List.mem_of_getElem? (of_decide_eq_true h)))
def xm_exl : List (Nat × Nat × Nat × Nat × List (Nat × Nat) × (Nat × Nat) × (Nat × Nat)) := [(0, 102, 0, 104, [(1, 8), (2, 99), (2, 108), (2, 111), (2, 114), (2, 116), (2, 100), (2, 101), (1, 20), (1, 21), (2, 102), (2, 107), (2, 112), (2, 128), (2, 89), (2, 129), (2, 91), (2, 130), (2, 93), (2, 103), (6, 2), (2, 105), (6, 3), (2, 95), (2, 118), (2, 119), (2, 120), (2, 121), (5, 4), (2, 121), (2, 122), (2, 123), (2, 124), (5, 5), (2, 124), (2, 125), (2, 126), (2, 100), (5, 6), (2, 117), (2, 78), (5, 7), (2, 86), (2, 87), (2, 88), (2, 90), (2, 92), (2, 94), (6, 0), (6, 1), (2, 98), (2, 97), (2, 96)], (2, 77), (1, 11)),
  (3, 30, 1, 32, [(1, 8), (2, 99), (2, 108), (2, 111), (2, 114), (2, 116), (2, 100), (2, 101), (1, 20), (1, 21), (2, 102), (2, 107), (2, 112), (2, 128), (2, 89), (2, 129), (2, 91), (2, 130), (2, 93), (2, 103), (6, 2), (2, 105), (6, 3), (2, 95), (2, 162), (2, 163), (2, 164), (2, 121), (5, 4), (2, 121), (2, 122), (2, 123), (2, 124), (5, 5), (2, 124), (2, 125), (2, 126), (2, 100), (5, 6), (3, 92), (2, 153), (5, 8), (2, 155), (2, 110), (2, 156), (2, 157), (2, 158), (2, 159), (6, 0), (6, 1), (2, 98), (2, 97), (2, 160)], (3, 91), (1, 12)),
  (4, 59, 1, 61, [(1, 8), (2, 99), (2, 108), (2, 111), (2, 114), (2, 116), (2, 100), (2, 101), (1, 20), (1, 21), (2, 102), (2, 107), (2, 112), (2, 128), (2, 89), (2, 129), (2, 91), (2, 130), (2, 93), (2, 103), (6, 2), (2, 105), (6, 3), (2, 95), (2, 162), (2, 163), (2, 164), (2, 121), (5, 4), (2, 121), (2, 122), (2, 123), (2, 124), (5, 5), (2, 124), (2, 125), (2, 126), (2, 100), (5, 6), (2, 161), (2, 153), (5, 8), (2, 155), (2, 110), (2, 156), (2, 157), (2, 158), (2, 159), (6, 0), (6, 1), (2, 98), (2, 97), (2, 160)], (2, 152), (1, 12))]
set_option maxRecDepth 100000 in
theorem xm_exall : xm_exl.all (fun z => xm_za xm_inx (Bundle.ownAtoms0 (xm_cn z.1) z.2.2.2.1 (xm_xn z.2.2.1) xm_xs) z.2.2.2.2.1 && (xm_inw (.classLink (xm_cn z.1) z.2.1 (xm_xn z.2.2.1)) z.2.2.2.2.2.1 && (xm_inw (.initialized (xm_xn z.2.2.1)) z.2.2.2.2.2.2 && (decide (Bundle.fit (xm_xn z.2.2.1) = true) && xm_xs.all (fun n => Bundle.fit n))))) = true := by decide +kernel
set_option maxRecDepth 100000 in
theorem xm_exin : (List.range 7).all (fun c => (xm_cpl.getD c []).all (fun e => !decide (e.2.1 = 5) || xm_exl.any (fun z => decide (z.1 = c) && (decide (z.2.1 = e.1) && (decide (z.2.2.1 = e.2.2.1) && decide (z.2.2.2.1 = e.2.2.2)))))) = true := by decide +kernel
theorem xm_t_exc {k idx x ic : Nat} (h : xm_cp k idx = some (5, x, ic)) : Bundle.fit (xm_xn x) = true ∧ (∀ n ∈ xm_xs, Bundle.fit n = true) ∧ Cond.classLink (xm_own k) idx (xm_xn x) ∈ xm_ws ∧ Cond.initialized (xm_xn x) ∈ xm_ws ∧ ∀ w ∈ Bundle.ownAtoms0 (xm_own k) ic (xm_xn x) xm_xs, w ∈ xm_ws ∨ w ∈ xm_xw ∨ w ∈ xm_ew := by
  have hin : (idx, (5, x, ic)) ∈ xm_cpl.getD (xm_kc k) [] := xm_look_in (show xm_look (xm_cpl.getD (xm_kc k) []) idx = some (5, x, ic) from h)
  have hk : xm_kc k < 7 := xm_k_lt (t := xm_cpl) rfl (show xm_look (xm_cpl.getD (xm_kc k) []) idx = some (5, x, ic) from h)
  have h1 := List.all_eq_true.mp (List.all_eq_true.mp xm_exin _ (List.mem_range.mpr hk)) _ hin
  simp only [decide_true, Bool.not_true, Bool.false_or, List.any_eq_true, Bool.and_eq_true, decide_eq_true_eq] at h1
  obtain ⟨z, hz, z1, z2, z3, z4⟩ := h1
  have h2 := List.all_eq_true.mp xm_exall z hz
  rw [z1, z2, z3, z4] at h2
  simp only [Bool.and_eq_true, decide_eq_true_eq] at h2
  obtain ⟨b1, b2, b3, b4, b5⟩ := h2
  rw [xm_own_cn hk]
  exact ⟨b4, fun n hn => List.all_eq_true.mp b5 n hn, xm_inw_in b2, xm_inw_in b3, fun w hw => (by obtain ⟨q, hq⟩ := xm_za_in b1 hw; exact xm_inx_in hq)⟩
