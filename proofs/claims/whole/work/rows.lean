section
-- ===== PART A: goes FIRST, ahead of the names: the tables' words, and 'selects' of the private methods out of them =====
/-- a private method of a class that the tables say can be made, by its rows of tables_1 -/
def lw_okq (q : MethodName × Nat) : Prop := (q.1.cls ≠ "java/lang/invoke/MethodHandle" ∧ q.1.cls ≠ "java/lang/invoke/VarHandle") ∧ Cond.instantiable q.1.cls q.2 ∈ tables_1 ∧ Cond.privateMethod q.1 ∈ tables_1 ∧ Cond.instanceMethod q.1 ∈ tables_1
theorem lw_p0 : lw_okq (⟨"ShortenPrograms", "startAfresh", "()V"⟩, 11) := ⟨⟨by decide +kernel, by decide +kernel⟩, List.mem_of_getElem? (i := 16) (by decide +kernel), List.mem_of_getElem? (i := 152) (by decide +kernel), List.mem_of_getElem? (i := 153) (by decide +kernel)⟩
theorem lw_p1 : lw_okq (⟨"java/lang/Throwable", "fillInStackTrace", "(I)Ljava/lang/Throwable;"⟩, 6) := ⟨⟨by decide +kernel, by decide +kernel⟩, List.mem_of_getElem? (i := 211) (by decide +kernel), List.mem_of_getElem? (i := 209) (by decide +kernel), List.mem_of_getElem? (i := 210) (by decide +kernel)⟩
theorem lw_p2 : lw_okq (⟨"ShortenPrograms", "openAsk", "()LShortenPrograms$Ask;"⟩, 11) := ⟨⟨by decide +kernel, by decide +kernel⟩, List.mem_of_getElem? (i := 16) (by decide +kernel), List.mem_of_getElem? (i := 313) (by decide +kernel), List.mem_of_getElem? (i := 314) (by decide +kernel)⟩
theorem lw_p3 : lw_okq (⟨"ShortenPrograms", "takeFirst", "(I)V"⟩, 11) := ⟨⟨by decide +kernel, by decide +kernel⟩, List.mem_of_getElem? (i := 16) (by decide +kernel), List.mem_of_getElem? (i := 386) (by decide +kernel), List.mem_of_getElem? (i := 387) (by decide +kernel)⟩
theorem lw_p4 : lw_okq (⟨"ShortenPrograms$Walk", "startGoingThrough", "(I)V"⟩, 8) := ⟨⟨by decide +kernel, by decide +kernel⟩, List.mem_of_getElem? (i := 60) (by decide +kernel), List.mem_of_getElem? (i := 397) (by decide +kernel), List.mem_of_getElem? (i := 398) (by decide +kernel)⟩
theorem lw_p5 : lw_okq (⟨"ShortenPrograms", "take", "(I)V"⟩, 11) := ⟨⟨by decide +kernel, by decide +kernel⟩, List.mem_of_getElem? (i := 16) (by decide +kernel), List.mem_of_getElem? (i := 401) (by decide +kernel), List.mem_of_getElem? (i := 402) (by decide +kernel)⟩
theorem lw_p6 : lw_okq (⟨"ShortenPrograms$Walk", "nextByte", "()V"⟩, 8) := ⟨⟨by decide +kernel, by decide +kernel⟩, List.mem_of_getElem? (i := 60) (by decide +kernel), List.mem_of_getElem? (i := 409) (by decide +kernel), List.mem_of_getElem? (i := 410) (by decide +kernel)⟩
theorem lw_p7 : lw_okq (⟨"ShortenPrograms$Walk", "lowerValue", "(I)I"⟩, 8) := ⟨⟨by decide +kernel, by decide +kernel⟩, List.mem_of_getElem? (i := 60) (by decide +kernel), List.mem_of_getElem? (i := 429) (by decide +kernel), List.mem_of_getElem? (i := 430) (by decide +kernel)⟩
theorem lw_p8 : lw_okq (⟨"ShortenPrograms", "askNext", "()V"⟩, 11) := ⟨⟨by decide +kernel, by decide +kernel⟩, List.mem_of_getElem? (i := 16) (by decide +kernel), List.mem_of_getElem? (i := 445) (by decide +kernel), List.mem_of_getElem? (i := 446) (by decide +kernel)⟩
theorem lw_p9 : lw_okq (⟨"ShortenPrograms$Walk", "endGoingThrough", "()V"⟩, 8) := ⟨⟨by decide +kernel, by decide +kernel⟩, List.mem_of_getElem? (i := 60) (by decide +kernel), List.mem_of_getElem? (i := 456) (by decide +kernel), List.mem_of_getElem? (i := 457) (by decide +kernel)⟩
theorem lw_p10 : lw_okq (⟨"ShortenPrograms$Walk", "startLowering", "()V"⟩, 8) := ⟨⟨by decide +kernel, by decide +kernel⟩, List.mem_of_getElem? (i := 60) (by decide +kernel), List.mem_of_getElem? (i := 460) (by decide +kernel), List.mem_of_getElem? (i := 461) (by decide +kernel)⟩
theorem lw_p11 : lw_okq (⟨"ShortenPrograms$Walk", "canLower", "(I)Z"⟩, 8) := ⟨⟨by decide +kernel, by decide +kernel⟩, List.mem_of_getElem? (i := 60) (by decide +kernel), List.mem_of_getElem? (i := 464) (by decide +kernel), List.mem_of_getElem? (i := 465) (by decide +kernel)⟩
theorem lw_p12 : lw_okq (⟨"ShortenPrograms", "ask", "()V"⟩, 11) := ⟨⟨by decide +kernel, by decide +kernel⟩, List.mem_of_getElem? (i := 16) (by decide +kernel), List.mem_of_getElem? (i := 484) (by decide +kernel), List.mem_of_getElem? (i := 485) (by decide +kernel)⟩
theorem lw_p13 : lw_okq (⟨"ShortenProgramsModel", "fail", "(I)I"⟩, 27) := ⟨⟨by decide +kernel, by decide +kernel⟩, List.mem_of_getElem? (i := 523) (by decide +kernel), List.mem_of_getElem? (i := 619) (by decide +kernel), List.mem_of_getElem? (i := 620) (by decide +kernel)⟩
theorem lw_p14 : lw_okq (⟨"ShortenProgramsModel", "without", "(II)V"⟩, 27) := ⟨⟨by decide +kernel, by decide +kernel⟩, List.mem_of_getElem? (i := 523) (by decide +kernel), List.mem_of_getElem? (i := 627) (by decide +kernel), List.mem_of_getElem? (i := 628) (by decide +kernel)⟩
theorem lw_p15 : lw_okq (⟨"ShortenProgramsModel", "put", "()V"⟩, 27) := ⟨⟨by decide +kernel, by decide +kernel⟩, List.mem_of_getElem? (i := 523) (by decide +kernel), List.mem_of_getElem? (i := 631) (by decide +kernel), List.mem_of_getElem? (i := 632) (by decide +kernel)⟩
def lw_privs_1 : List (MethodName × Nat) := [(⟨"ShortenPrograms", "startAfresh", "()V"⟩, 11), (⟨"java/lang/Throwable", "fillInStackTrace", "(I)Ljava/lang/Throwable;"⟩, 6), (⟨"ShortenPrograms", "openAsk", "()LShortenPrograms$Ask;"⟩, 11), (⟨"ShortenPrograms", "takeFirst", "(I)V"⟩, 11), (⟨"ShortenPrograms$Walk", "startGoingThrough", "(I)V"⟩, 8), (⟨"ShortenPrograms", "take", "(I)V"⟩, 11), (⟨"ShortenPrograms$Walk", "nextByte", "()V"⟩, 8), (⟨"ShortenPrograms$Walk", "lowerValue", "(I)I"⟩, 8), (⟨"ShortenPrograms", "askNext", "()V"⟩, 11), (⟨"ShortenPrograms$Walk", "endGoingThrough", "()V"⟩, 8), (⟨"ShortenPrograms$Walk", "startLowering", "()V"⟩, 8), (⟨"ShortenPrograms$Walk", "canLower", "(I)Z"⟩, 8), (⟨"ShortenPrograms", "ask", "()V"⟩, 11), (⟨"ShortenProgramsModel", "fail", "(I)I"⟩, 27), (⟨"ShortenProgramsModel", "without", "(II)V"⟩, 27), (⟨"ShortenProgramsModel", "put", "()V"⟩, 27)]
theorem lw_r1 : ∀ q ∈ lw_privs_1, lw_okq q := List.forall_mem_cons.mpr ⟨lw_p0, List.forall_mem_cons.mpr ⟨lw_p1, List.forall_mem_cons.mpr ⟨lw_p2, List.forall_mem_cons.mpr ⟨lw_p3, List.forall_mem_cons.mpr ⟨lw_p4, List.forall_mem_cons.mpr ⟨lw_p5, List.forall_mem_cons.mpr ⟨lw_p6, List.forall_mem_cons.mpr ⟨lw_p7, List.forall_mem_cons.mpr ⟨lw_p8, List.forall_mem_cons.mpr ⟨lw_p9, List.forall_mem_cons.mpr ⟨lw_p10, List.forall_mem_cons.mpr ⟨lw_p11, List.forall_mem_cons.mpr ⟨lw_p12, List.forall_mem_cons.mpr ⟨lw_p13, List.forall_mem_cons.mpr ⟨lw_p14, List.forall_mem_cons.mpr ⟨lw_p15, fun _ h => absurd h List.not_mem_nil⟩⟩⟩⟩⟩⟩⟩⟩⟩⟩⟩⟩⟩⟩⟩⟩
theorem lw_p16 : lw_okq (⟨"ShortenProgramsModel", "beginLeaving", "(I)V"⟩, 27) := ⟨⟨by decide +kernel, by decide +kernel⟩, List.mem_of_getElem? (i := 523) (by decide +kernel), List.mem_of_getElem? (i := 639) (by decide +kernel), List.mem_of_getElem? (i := 640) (by decide +kernel)⟩
theorem lw_p17 : lw_okq (⟨"ShortenProgramsModel", "answered", "(I)V"⟩, 27) := ⟨⟨by decide +kernel, by decide +kernel⟩, List.mem_of_getElem? (i := 523) (by decide +kernel), List.mem_of_getElem? (i := 643) (by decide +kernel), List.mem_of_getElem? (i := 644) (by decide +kernel)⟩
theorem lw_p18 : lw_okq (⟨"ShortenProgramsModel", "takeLeaving", "()V"⟩, 27) := ⟨⟨by decide +kernel, by decide +kernel⟩, List.mem_of_getElem? (i := 523) (by decide +kernel), List.mem_of_getElem? (i := 647) (by decide +kernel), List.mem_of_getElem? (i := 648) (by decide +kernel)⟩
theorem lw_p19 : lw_okq (⟨"ShortenProgramsModel", "takeLowering", "()V"⟩, 27) := ⟨⟨by decide +kernel, by decide +kernel⟩, List.mem_of_getElem? (i := 523) (by decide +kernel), List.mem_of_getElem? (i := 651) (by decide +kernel), List.mem_of_getElem? (i := 652) (by decide +kernel)⟩
theorem lw_p20 : lw_okq (⟨"ShortenProgramsModel", "nextByte", "()V"⟩, 27) := ⟨⟨by decide +kernel, by decide +kernel⟩, List.mem_of_getElem? (i := 523) (by decide +kernel), List.mem_of_getElem? (i := 655) (by decide +kernel), List.mem_of_getElem? (i := 656) (by decide +kernel)⟩
theorem lw_p21 : lw_okq (⟨"ShortenProgramsModel", "goOn", "()V"⟩, 27) := ⟨⟨by decide +kernel, by decide +kernel⟩, List.mem_of_getElem? (i := 523) (by decide +kernel), List.mem_of_getElem? (i := 659) (by decide +kernel), List.mem_of_getElem? (i := 660) (by decide +kernel)⟩
theorem lw_p22 : lw_okq (⟨"ShortenProgramsModel", "prepare", "()Z"⟩, 27) := ⟨⟨by decide +kernel, by decide +kernel⟩, List.mem_of_getElem? (i := 523) (by decide +kernel), List.mem_of_getElem? (i := 663) (by decide +kernel), List.mem_of_getElem? (i := 664) (by decide +kernel)⟩
theorem lw_p23 : lw_okq (⟨"ShortenProgramsModel", "endPass", "()V"⟩, 27) := ⟨⟨by decide +kernel, by decide +kernel⟩, List.mem_of_getElem? (i := 523) (by decide +kernel), List.mem_of_getElem? (i := 667) (by decide +kernel), List.mem_of_getElem? (i := 668) (by decide +kernel)⟩
theorem lw_p24 : lw_okq (⟨"ShortenProgramsModel", "beginLowering", "()V"⟩, 27) := ⟨⟨by decide +kernel, by decide +kernel⟩, List.mem_of_getElem? (i := 523) (by decide +kernel), List.mem_of_getElem? (i := 671) (by decide +kernel), List.mem_of_getElem? (i := 672) (by decide +kernel)⟩
theorem lw_p25 : lw_okq (⟨"ShortenProgramsModel", "lowerTo", "()I"⟩, 27) := ⟨⟨by decide +kernel, by decide +kernel⟩, List.mem_of_getElem? (i := 523) (by decide +kernel), List.mem_of_getElem? (i := 675) (by decide +kernel), List.mem_of_getElem? (i := 676) (by decide +kernel)⟩
theorem lw_p26 : lw_okq (⟨"ShortenProgramsModel", "byteOf", "(II)I"⟩, 27) := ⟨⟨by decide +kernel, by decide +kernel⟩, List.mem_of_getElem? (i := 523) (by decide +kernel), List.mem_of_getElem? (i := 679) (by decide +kernel), List.mem_of_getElem? (i := 680) (by decide +kernel)⟩
theorem lw_p27 : lw_okq (⟨"ShortenProgramsModel", "withByte", "(III)V"⟩, 27) := ⟨⟨by decide +kernel, by decide +kernel⟩, List.mem_of_getElem? (i := 523) (by decide +kernel), List.mem_of_getElem? (i := 683) (by decide +kernel), List.mem_of_getElem? (i := 684) (by decide +kernel)⟩
theorem lw_p28 : lw_okq (⟨"ShortenProgramsModel", "find", "()I"⟩, 27) := ⟨⟨by decide +kernel, by decide +kernel⟩, List.mem_of_getElem? (i := 523) (by decide +kernel), List.mem_of_getElem? (i := 687) (by decide +kernel), List.mem_of_getElem? (i := 688) (by decide +kernel)⟩
theorem lw_p29 : lw_okq (⟨"ShortenProgramsModel", "isAsked", "(I)Z"⟩, 27) := ⟨⟨by decide +kernel, by decide +kernel⟩, List.mem_of_getElem? (i := 523) (by decide +kernel), List.mem_of_getElem? (i := 691) (by decide +kernel), List.mem_of_getElem? (i := 692) (by decide +kernel)⟩
def lw_privs_2 : List (MethodName × Nat) := [(⟨"ShortenProgramsModel", "beginLeaving", "(I)V"⟩, 27), (⟨"ShortenProgramsModel", "answered", "(I)V"⟩, 27), (⟨"ShortenProgramsModel", "takeLeaving", "()V"⟩, 27), (⟨"ShortenProgramsModel", "takeLowering", "()V"⟩, 27), (⟨"ShortenProgramsModel", "nextByte", "()V"⟩, 27), (⟨"ShortenProgramsModel", "goOn", "()V"⟩, 27), (⟨"ShortenProgramsModel", "prepare", "()Z"⟩, 27), (⟨"ShortenProgramsModel", "endPass", "()V"⟩, 27), (⟨"ShortenProgramsModel", "beginLowering", "()V"⟩, 27), (⟨"ShortenProgramsModel", "lowerTo", "()I"⟩, 27), (⟨"ShortenProgramsModel", "byteOf", "(II)I"⟩, 27), (⟨"ShortenProgramsModel", "withByte", "(III)V"⟩, 27), (⟨"ShortenProgramsModel", "find", "()I"⟩, 27), (⟨"ShortenProgramsModel", "isAsked", "(I)Z"⟩, 27)]
theorem lw_r2 : ∀ q ∈ lw_privs_2, lw_okq q := List.forall_mem_cons.mpr ⟨lw_p16, List.forall_mem_cons.mpr ⟨lw_p17, List.forall_mem_cons.mpr ⟨lw_p18, List.forall_mem_cons.mpr ⟨lw_p19, List.forall_mem_cons.mpr ⟨lw_p20, List.forall_mem_cons.mpr ⟨lw_p21, List.forall_mem_cons.mpr ⟨lw_p22, List.forall_mem_cons.mpr ⟨lw_p23, List.forall_mem_cons.mpr ⟨lw_p24, List.forall_mem_cons.mpr ⟨lw_p25, List.forall_mem_cons.mpr ⟨lw_p26, List.forall_mem_cons.mpr ⟨lw_p27, List.forall_mem_cons.mpr ⟨lw_p28, List.forall_mem_cons.mpr ⟨lw_p29, fun _ h => absurd h List.not_mem_nil⟩⟩⟩⟩⟩⟩⟩⟩⟩⟩⟩⟩⟩⟩
def lw_privs : List (MethodName × Nat) := lw_privs_1 ++ (lw_privs_2)
def lw_tbl : List Cond := k2_sels lw_privs ++ tables_1
theorem lw_privs_ok : ∀ q ∈ lw_privs, lw_okq q := by
  show ∀ q ∈ lw_privs_1 ++ (lw_privs_2), lw_okq q
  exact List.forall_mem_append.mpr ⟨lw_r1, lw_r2⟩
-- ===== end of PART A (kit/laws/SKELETON.whole); the rows below: claim/NAMES.whole.lean.txt as printed, ahead of its names, without its open row =====
/-! ===== BEGIN words of one list among another's, by their places ===== -/
theorem goodIn_r {big : List Cond} (ws : List Cond) (ps : List Nat) (hp : ws = ps.filterMap (fun i => big[i]?)) (h : ws.all goodWord = true) : GoodIn big ws := by
  intro w hw
  have h1 := List.all_eq_true.mp h w hw
  rw [hp] at hw
  obtain ⟨i, -, hi⟩ := List.mem_filterMap.mp hw
  have hm : w ∈ big := by first | exact List.mem_of_getElem? hi | exact List.getElem?_mem hi
  exact ⟨hm, good_of_word h1⟩
theorem goodIn_app {big a b : List Cond} (ha : GoodIn big a) (hb : GoodIn big b) : GoodIn big (a ++ b) := fun w h => (List.mem_append.mp h).elim (ha w) (hb w)
theorem goodIn_ca {big a b : List Cond} {c : Cond} (ha : GoodIn big (c :: a)) (hb : GoodIn big b) : GoodIn big (c :: (a ++ b)) := fun w h => (List.mem_cons.mp h).elim (fun e => ha w (List.mem_cons.mpr (Or.inl e))) (fun h => (List.mem_append.mp h).elim (fun h => ha w (List.mem_cons.mpr (Or.inr h))) (hb w))
theorem goodIn_sub {big ws : List Cond} (hm : ∀ w ∈ ws, w ∈ big) (h : ws.all goodWord = true) : GoodIn big ws := fun w hw => ⟨hm w hw, good_of_word (List.all_eq_true.mp h w hw)⟩
/-! ===== END ===== -/

/-! ===== BEGIN exceptions that leave a method, and their catching by the caller (launches without stack traces) ===== -/
section VXA
/-! The laws vx_back, vx_callV, vx_callS, vx_callSW, vx_throw0, vx_throwS follow proofs of the library, with one case more: JvmDerived/Free/Laws.lean (Back.of_free), Shelf42/LK1.lean (callV, callS), Shelf/KitTraced.lean (throwNew0V, throwNewS). -/
/-- where a method has thrown q: the class by its name, the cell, what was written, the world -/
def vx_T (XC : String → State → State → Prop) (st : State) (q : Addr) (t : State) (mc ms : Nat) (free : Addr → Prop) : Prop :=
  ∃ (E : String) (ce : Cell) (L : List Loc), XC E st t ∧ t.heap[q]? = some ce ∧ ce.vm = .none ∧ st.vm.findClass E = some ce.cls ∧ st.WarmedH t.vm ∧ st.sameButNew ({ t with vm := st.vm } : State) L mc ms ∧ ∀ z ∈ L, free z.base
def vx_Q (Qc : Array Value → State → Outcome → State → Prop) (XC : String → State → State → Prop) (mc ms : Nat) (free : Addr → Prop) : Array Value → State → Outcome → State → Prop := fun a st o t =>
  (Qc a st o t ∧ ∃ L, FrameEnd st o t L mc ms ∧ ∀ q ∈ L, free q.base) ∨ ∃ q, o = .threw q ∧ vx_T XC st q t mc ms free
/-- a callee that returns or throws -/
def vx_Met (l : Launch) (y : MethodName) (ws : List Cond) (rm : Room) (Pc : Array Value → State → Prop) (Qc : Array Value → State → Outcome → State → Prop) (XC : String → State → State → Prop) (mc ms : Nat) (free : Addr → Prop) : Prop :=
  MetFree l y (headSpec ws rm) Pc (fun _ _ _ _ _ => True) (vx_Q Qc XC mc ms free)
def vx_Post (XC : String → State → State → Prop) (mc ms : Nat) (free : Addr → Prop) : Pt → Array Value → Addr → Pt → Prop := fun A a q B =>
  ∃ (g : JFrame) (mk : MethodId) (t : State) (L : List Loc) (E : String) (ce : Cell), B.U.heap = t.heap ∧ B.U.vm = t.vm ∧ XC E (A.U.calling g mk a) t ∧ t.heap[q]? = some ce ∧ ce.vm = .none ∧ A.U.vm.findClass E = some ce.cls ∧ B.locs = A.locs ++ L ∧ (∀ z ∈ L, free z.base) ∧ B.cells = A.cells + mc ∧ B.slots = A.slots + ms
def vx_Back (l : Launch) (R : Room) (p : Program) (e : Env) (below : List Frame) (s : State) (sargs : Array Value) (y : MethodName) (len W9 : Nat)
    (Pre : Pt → Array Value → Prop) (Post : Pt → Array Value → Option Value → Pt → Prop) (PostX : Pt → Array Value → Addr → Pt → Prop) : Prop :=
  ∀ (m : MethodId) (meth : Method) (c : Code) (A : Pt) (g : JFrame) (ig : Instr) (mk : MethodId) (a : Array Value),
    Stand p l e R s m sargs below meth c A.U A.locs A.cells A.slots → g.method = m → g.locals.size = c.maxLocals → decode c.code g.pc = .ok (ig, len) →
    2 * g.monitorRoom + (g.stack.map fun v => v.category).sum ≤ W9 → A.U.methodNamed? y = some mk → Pre A a →
    (∃ (v : Option Value) (B : Pt), Stand p l e R s m sargs below meth c B.U B.locs B.cells B.slots ∧ Post A a v B ∧
      Steps p.tables e below (doInvoke e (A.U.setTop g) [] mk a).1 (B.U.setTop { g with pc := g.pc + len, stack := v.toList ++ g.stack })) ∨
    (∃ (q : Addr) (B : Pt), Stand p l e R s m sargs below meth c B.U B.locs B.cells B.slots ∧ PostX A a q B ∧
      Steps p.tables e below (doInvoke e (A.U.setTop g) [] mk a).1 ((B.U.setTop g).pushFrame (.throwing q)))
section Payer
variable {l : Launch} {R : Room} {p : Program} {e : Env} {below : List Frame} {s : State} {sargs : Array Value} {y : MethodName} {len W9 : Nat}
theorem vx_back {ws : List Cond} {rm : Room} {Pc : Array Value → State → Prop} {Qc : Array Value → State → Outcome → State → Prop} {XC : String → State → State → Prop} {mc ms : Nat} {free : Addr → Prop} {bytes : ByteArray} {maxL : Nat} {ret : Option FieldType}
    (hM : vx_Met l y ws rm Pc Qc XC mc ms free) (hblind : FrameBlind Pc) (hrc : rm.cells = mc) (hrs : rm.slots = ms)
    (hframes : rm.frames + 1 ≤ R.frames) (hlocals : W9 + (maxL + 11) + rm.locals ≤ R.locals)
    (hws : ∀ w ∈ ws, ∀ a' U, s.WarmedH U.vm → w.before a' U = true) (hcode : Cond.code y bytes maxL ret ∈ ws) (hinit : ∀ a' U, s.WarmedH U.vm → (Cond.initialized y.cls).before a' U = true) :
    vx_Back l R p e below s sargs y len W9 (PreOf R mc ms Pc) (PostOf Qc mc ms free) (vx_Post XC mc ms free) := by
  intro m meth c A g ig mk a X hg hsize hdg hW hn hp
  have h1 : (headSpec ws rm).pre.before a A.U = true := atoms_intro fun w hw => hws w hw _ _ X.warmed
  have h2 : (Cond.code y bytes maxL ret).before a A.U = true := hws _ hcode _ _ X.warmed
  have h3 : (Cond.initialized y.cls).before a A.U = true := hinit _ _ X.warmed
  have h4 : A.cells + (headSpec ws rm).room.cells ≤ R.cells := by rw [show (headSpec ws rm).room.cells = mc from hrc]; exact hp.1
  have h5 : A.slots + (headSpec ws rm).room.slots ≤ R.slots := by rw [show (headSpec ws rm).room.slots = ms from hrs]; exact hp.2.1
  have hPc : Pc a (A.U.calling g mk a) := hblind _ _ _ _ hp.2.2
  obtain ⟨U, Ls, c0, s0⟩ := A
  dsimp only [Pt.U, Pt.locs, Pt.cells, Pt.slots] at h1 h2 h3 h4 h5 X hn hPc ⊢
  obtain ⟨methY, cY, hmY, hcY, -, hlY, -, -, -, -⟩ := Cond.code_spec hn h2
  obtain ⟨kY, hkY, -⟩ := className_of_methodNamed hn
  have hinitY : kY.init = .initialized := Cond.initialized_spec (findClass_of_methodNamed hn) hkY h3
  have h : At U g.method c below := by rw [hg]; exact X.here
  have hlocals9 : W9 + (maxL + 11) + (headSpec ws rm).room.locals ≤ R.locals := hlocals
  have happ : (headSpec ws rm).appliesLoose y e.platform (U.calling g mk a) = true :=
    Spec.appliesLoose_calling (g := g) h hdg hn hkY hinitY
      (X.room_calling (g := g) (R' := (headSpec ws rm).room) hsize hmY hcY hframes (by rw [hlY]; omega) h4 h5) h1
  obtain ⟨mid, hmid⟩ := h.above
  have hfr : (U.setTop g).frames = (.java g :: mid) ++ below := by rw [State.frames_setTop' g h.top, hmid]; rfl
  obtain ⟨o, s₂, hsteps, -, hend, hq⟩ := Steps.callFree hM p X.admits X.cas X.clock (acts := []) hfr happ hPc trivial
  have hq' : vx_Q Qc XC mc ms free a (U.calling g mk a) o s₂ := hq
  rw [State.frames_setTop' g h.top] at hend
  obtain ⟨g₀, hg0⟩ := Option.isSome_iff_exists.mp h.top
  obtain ⟨r, hr⟩ := State.topJava?_eq_some.mp hg0
  have hr' : (({ U with heap := s₂.heap, slotsUsed := s₂.slotsUsed } : State).setVm s₂.vm).frames = .java g₀ :: r := hr
  rcases hq' with ⟨hqc, L, hfe, hL⟩ | ⟨q, rfl, E, ce, L, hx, hce, hcv, hcl, hW₂, hsm, hL⟩
  · obtain ⟨⟨v, rfl⟩, hW₂, e2, q2, q3, q4, q5, q6⟩ := id hfe
    have e3 : s₂ = ({ (U.calling g mk a).setFrames s₂.frames with heap := s₂.heap, slotsUsed := s₂.slotsUsed } : State).setVm s₂.vm := by
      have : s₂ = ({ s₂ with vm := (U.calling g mk a).vm } : State).setVm s₂.vm := rfl
      rw [e2] at this
      exact this
    obtain ⟨c₂, i₂, len₂, hc₂, hd₂, hf₂⟩ := hend
    have hW' : U.WarmedH s₂.vm := hW₂
    have hcc : c₂ = c := by
      have h1 : s₂.code? g.method = U.code? g.method := by
        rw [State.code?_eq, State.code?_eq, hW'.alike.method?]
      exact Option.some.inj (hc₂.symm.trans (h1.trans h.code))
    subst hcc
    have hlen : len₂ = len := by rw [hdg] at hd₂; cases hd₂; rfl
    subst hlen
    have hs₂ : s₂ = (({ U with heap := s₂.heap, slotsUsed := s₂.slotsUsed } : State).setVm s₂.vm).setTop { g with pc := g.pc + len₂, stack := v.toList ++ g.stack } := by
      refine e3.trans ?_
      rw [hf₂, State.calling_eq h.top, State.setFrames_setFrames, State.setTop_of_frames _ hr', hr]
      rfl
    have hsame : U.sameButNew ({ U with heap := s₂.heap, slotsUsed := s₂.slotsUsed } : State) L mc ms := by
      refine ⟨?_, q2, q3, q4, q5, q6⟩
      obtain ⟨t, ht, -⟩ := State.frames_cons hr
      show ({ U with heap := s₂.heap, slotsUsed := s₂.slotsUsed } : State) = { U.setFrames U.frames with heap := s₂.heap, slotsUsed := s₂.slotsUsed }
      rw [State.setFrames_self ht]
    subst hg
    refine Or.inl ⟨v, ⟨(({ U with heap := s₂.heap, slotsUsed := s₂.slotsUsed } : State).setVm s₂.vm), Ls ++ L, c0 + mc, s0 + ms⟩,
      ⟨X.admits, X.cas, X.clock, X.frames, X.room, X.hears, X.method, X.code, (X.here.setHeapUsed s₂.heap s₂.slotsUsed).setVm hW'.alike, X.tail, State.WarmedH.trans X.warmed hW', X.limits, X.bytes, X.same.trans (hsame.setVm s.vm)⟩,
      ⟨g, mk, s₂, L, rfl, rfl, hqc, rfl, hL, rfl, rfl⟩, ?_⟩
    show Steps p.tables e below _ ((({ U with heap := s₂.heap, slotsUsed := s₂.slotsUsed } : State).setVm s₂.vm).setTop { g with pc := g.pc + len₂, stack := v.toList ++ g.stack })
    rw [← hs₂]
    exact hsteps
  · obtain ⟨e2, q2, q3, q4, q5, q6⟩ := id hsm
    have e3 : s₂ = ({ (U.calling g mk a).setFrames s₂.frames with heap := s₂.heap, slotsUsed := s₂.slotsUsed } : State).setVm s₂.vm := by
      have : s₂ = ({ s₂ with vm := (U.calling g mk a).vm } : State).setVm s₂.vm := rfl
      rw [e2] at this
      exact this
    have hf₂ : s₂.frames = .throwing q :: .java g :: U.frames.tail := hend
    have hW' : U.WarmedH s₂.vm := hW₂
    have hs₂ : s₂ = ((({ U with heap := s₂.heap, slotsUsed := s₂.slotsUsed } : State).setVm s₂.vm).setTop g).pushFrame (.throwing q) := by
      refine e3.trans ?_
      rw [hf₂, State.calling_eq h.top, State.setFrames_setFrames, State.pushFrame, State.frames_setTop _ hr', State.setTop_of_frames _ hr', State.setFrames_setFrames, hr]
      rfl
    have hsame : U.sameButNew ({ U with heap := s₂.heap, slotsUsed := s₂.slotsUsed } : State) L mc ms := by
      refine ⟨?_, q2, q3, q4, q5, q6⟩
      obtain ⟨t, ht, -⟩ := State.frames_cons hr
      show ({ U with heap := s₂.heap, slotsUsed := s₂.slotsUsed } : State) = { U.setFrames U.frames with heap := s₂.heap, slotsUsed := s₂.slotsUsed }
      rw [State.setFrames_self ht]
    subst hg
    refine Or.inr ⟨q, ⟨(({ U with heap := s₂.heap, slotsUsed := s₂.slotsUsed } : State).setVm s₂.vm), Ls ++ L, c0 + mc, s0 + ms⟩,
      ⟨X.admits, X.cas, X.clock, X.frames, X.room, X.hears, X.method, X.code, (X.here.setHeapUsed s₂.heap s₂.slotsUsed).setVm hW'.alike, X.tail, State.WarmedH.trans X.warmed hW', X.limits, X.bytes, X.same.trans (hsame.setVm s.vm)⟩,
      ⟨g, mk, s₂, L, E, ce, rfl, rfl, hx, hce, hcv, hcl, rfl, hL, rfl, rfl⟩, ?_⟩
    show Steps p.tables e below _ (((({ U with heap := s₂.heap, slotsUsed := s₂.slotsUsed } : State).setVm s₂.vm).setTop g).pushFrame (.throwing q))
    rw [← hs₂]
    exact hsteps
end Payer
section Calls
variable {p : Program} {l : Launch} {e : Env} {R : Room} {s : State} {m : MethodId} {args : Array Value} {below : List Frame} {meth : Method} {c : Code} {T : State} {locs : List Loc} {cells slots : Nat}
theorem vx_callV (X : Stand p l e R s m args below meth c T locs cells slots) (hexec : p.tables.exec = Jvm.exec) {own C : String} {index : Nat} {y : MethodName} {bytes : ByteArray} {maxL : Nat} {ret : Option FieldType}
    (hown : s.vm.findClass own = some m.cls) (hlink : (Cond.methodLink own index y).before args s = true) (hinst : (Cond.instanceMethod y).before args s = true) (hsel : (Cond.selects C y y).before args s = true)
    (hcode : (Cond.code y bytes maxL ret).before args s = true) (hy : y.cls ≠ "java/lang/invoke/MethodHandle" ∧ y.cls ≠ "java/lang/invoke/VarHandle")
    {W9 : Nat} {Pre : Pt → Array Value → Prop} {Post : Pt → Array Value → Option Value → Pt → Prop} {PostX : Pt → Array Value → Addr → Pt → Prop} (hK : vx_Back l R p e below s args y 3 W9 Pre Post PostX)
    {b : Addr} {cellB : Cell} (hcell : T.heap[b]? = some cellB) (hobj : cellB.vm.isStatics = false) (hcls : s.vm.findClass C = some cellB.cls)
    {g : JFrame} (hg : g.method = m) (hsize : g.locals.size = c.maxLocals) {argsL rest : List Value} (hlen : ∀ sig, parseMethodDescriptor y.desc = some sig → argsL.length = sig.parameters.length)
    (hstack : g.stack = argsL.reverse ++ .ref b :: rest) (hW : 2 * g.monitorRoom + (rest.map fun v => v.category).sum ≤ W9) (hdg : decode c.code g.pc = .ok (.invokevirtual index, 3))
    (hpre : ∀ vm₁, s.WarmedH vm₁ → Pre ⟨T.setVm vm₁, locs, cells, slots⟩ (Value.ref b :: argsL).toArray) :
    (∃ (v : Option Value) (vm₁ : Vm) (B : Pt), s.WarmedH vm₁ ∧ Stand p l e R s m args below meth c B.U B.locs B.cells B.slots ∧ Post ⟨T.setVm vm₁, locs, cells, slots⟩ (Value.ref b :: argsL).toArray v B ∧
      ∀ target, Steps p.tables e below (B.U.setTop { g with pc := g.pc + 3, stack := v.toList ++ rest }) target → Steps p.tables e below (T.setTop g) target) ∨
    (∃ (q : Addr) (vm₁ : Vm) (B : Pt), s.WarmedH vm₁ ∧ Stand p l e R s m args below meth c B.U B.locs B.cells B.slots ∧ PostX ⟨T.setVm vm₁, locs, cells, slots⟩ (Value.ref b :: argsL).toArray q B ∧
      Steps p.tables e below (T.setTop g) ((B.U.setTop { g with stack := rest }).pushFrame (.throwing q))) := by
  obtain ⟨mk, methM, hnamed, hmethM, hstM, habM⟩ := Cond.instanceMethod_spec hinst
  obtain ⟨methM', cM, hmethM', -, -, -, -, -, -, hsigM⟩ := Cond.code_spec hnamed hcode
  cases hmethM.symm.trans hmethM'
  obtain ⟨c2, r2, m2, q1, q2, q3, q4, kP, hkP, hkPi⟩ := Cond.selects_spec hsel
  cases hcls.symm.trans q1
  cases (State.methodFound?_of_named hnamed hy).symm.trans q2
  cases hnamed.symm.trans q3
  have hselP : selectMethod e.platform s.vm cellB.cls mk = .method mk := by rw [Launch.admits_selectMethod X.admits]; exact q4
  obtain ⟨vm₁, X₁, hstep₁⟩ := X.invokevirtual hexec hown hlink hnamed hmethM hstM hkP hkPi hy (a := b) (cell := cellB) hcell
    (fun z h => by rw [h] at hobj; cases hobj) hselP hmethM habM hkP hkPi (g := g) hg (argsL := argsL) (rest := rest) (hlen _ hsigM) hstack hdg
  rcases hK m meth c ⟨T.setVm vm₁, locs, cells, slots⟩ { g with stack := rest } (.invokevirtual index) mk (Value.ref b :: argsL).toArray X₁ hg hsize hdg hW (X₁.named hnamed) (hpre vm₁ X₁.warmed) with ⟨v, B, X', hpost, hsteps⟩ | ⟨q, B, X', hpost, hsteps⟩
  · exact Or.inl ⟨v, vm₁, B, X₁.warmed, X', hpost, fun target h => hstep₁ _ fun acts => by rw [doInvoke_state]; exact hsteps.trans h⟩
  · exact Or.inr ⟨q, vm₁, B, X₁.warmed, X', hpost, hstep₁ _ fun acts => by rw [doInvoke_state]; exact hsteps⟩
theorem vx_callS (X : Stand p l e R s m args below meth c T locs cells slots) (hexec : p.tables.exec = Jvm.exec) {own : String} {index : Nat} {y : MethodName} {bytes : ByteArray} {maxL : Nat} {ret : Option FieldType}
    (hown : s.vm.findClass own = some m.cls) (hlink : (Cond.methodLink own index y).before args s = true) (hstat : (Cond.static y).before args s = true) (hinit : (Cond.initialized y.cls).before args s = true)
    (hcode : (Cond.code y bytes maxL ret).before args s = true) (hy : y.cls ≠ "java/lang/invoke/MethodHandle" ∧ y.cls ≠ "java/lang/invoke/VarHandle")
    {W9 : Nat} {Pre : Pt → Array Value → Prop} {Post : Pt → Array Value → Option Value → Pt → Prop} {PostX : Pt → Array Value → Addr → Pt → Prop} (hK : vx_Back l R p e below s args y 3 W9 Pre Post PostX)
    {g : JFrame} (hg : g.method = m) (hsize : g.locals.size = c.maxLocals) {argsL rest : List Value} (hlen : ∀ sig, parseMethodDescriptor y.desc = some sig → argsL.length = sig.parameters.length)
    (hstack : g.stack = argsL.reverse ++ rest) (hW : 2 * g.monitorRoom + (rest.map fun v => v.category).sum ≤ W9) (hdg : decode c.code g.pc = .ok (.invokestatic index, 3))
    (hpre : ∀ vm₁, s.WarmedH vm₁ → Pre ⟨T.setVm vm₁, locs, cells, slots⟩ argsL.toArray) :
    (∃ (v : Option Value) (vm₁ : Vm) (B : Pt), s.WarmedH vm₁ ∧ Stand p l e R s m args below meth c B.U B.locs B.cells B.slots ∧ Post ⟨T.setVm vm₁, locs, cells, slots⟩ argsL.toArray v B ∧
      ∀ target, Steps p.tables e below (B.U.setTop { g with pc := g.pc + 3, stack := v.toList ++ rest }) target → Steps p.tables e below (T.setTop g) target) ∨
    (∃ (q : Addr) (vm₁ : Vm) (B : Pt), s.WarmedH vm₁ ∧ Stand p l e R s m args below meth c B.U B.locs B.cells B.slots ∧ PostX ⟨T.setVm vm₁, locs, cells, slots⟩ argsL.toArray q B ∧
      Steps p.tables e below (T.setTop g) ((B.U.setTop { g with stack := rest }).pushFrame (.throwing q))) := by
  obtain ⟨mk, hnamed⟩ := Cond.code_named hcode
  obtain ⟨methM, cM, hmethM, -, -, -, -, -, -, hsigM⟩ := Cond.code_spec hnamed hcode
  have hstatic : methM.isStatic = true := Cond.static_spec hnamed hmethM hstat
  obtain ⟨kP, hkP, -⟩ := className_of_methodNamed hnamed
  have hinitP : kP.init = .initialized := Cond.initialized_spec (findClass_of_methodNamed hnamed) hkP hinit
  obtain ⟨vm₁, X₁, hstep₁⟩ := X.invokestatic hexec hown hlink hnamed hmethM hstatic hkP hinitP hy (g := g) hg (argsL := argsL) (rest := rest) (hlen _ hsigM) hstack hdg
  rcases hK m meth c ⟨T.setVm vm₁, locs, cells, slots⟩ { g with stack := rest } (.invokestatic index) mk argsL.toArray X₁ hg hsize hdg hW (X₁.named hnamed) (hpre vm₁ X₁.warmed) with ⟨v, B, X', hpost, hsteps⟩ | ⟨q, B, X', hpost, hsteps⟩
  · exact Or.inl ⟨v, vm₁, B, X₁.warmed, X', hpost, fun target h => hstep₁ _ fun acts => by rw [doInvoke_state]; exact hsteps.trans h⟩
  · exact Or.inr ⟨q, vm₁, B, X₁.warmed, X', hpost, hstep₁ _ fun acts => by rw [doInvoke_state]; exact hsteps⟩
end Calls
theorem vx_cls {s : State} {T : State} {vm₁ : Vm} {E : String} {k : ClassId} (hW : s.WarmedH vm₁) (h : (T.setVm vm₁).vm.findClass E = some k) : s.vm.findClass E = some k := by
  have h1 : vm₁.findClass E = some k := h
  rw [hW.alike.findClass] at h1
  exact h1
/-- the method's frame g, with q thrown over it -/
def vx_W (p : Program) (l : Launch) (e : Env) (R : Room) (s : State) (m : MethodId) (args : Array Value) (below : List Frame) (meth : Method) (c : Code) (H : Heap) (locs : List Loc) (cells slots : Nat) (Q : State → Prop) (g : JFrame) (q : Addr) : Prop :=
  ∀ T : State, T.heap = H → Stand p l e R s m args below meth c T locs cells slots → ∃ t, Steps p.tables e below ((T.setTop g).pushFrame (.throwing q)) t ∧ Q t
def vx_Run (p : Program) (l : Launch) (e : Env) (R : Room) (s : State) (m : MethodId) (args : Array Value) (below : List Frame) (meth : Method) (c : Code) (H : Heap) (locs : List Loc) (cells slots mc ms : Nat) (g : JFrame) (rest : List Value) (Qa : State → Outcome → State → Prop) (XC : String → State → State → Prop) (free : Addr → Prop) : Prop :=
  ∀ T : State, T.heap = H → Stand p l e R s m args below meth c T locs cells slots →
    (∃ (v : Option Value) (st₀ t T' : State) (L : List Loc), st₀.heap = H ∧ Stand p l e R s m args below meth c T' (locs ++ L) (cells + mc) (slots + ms) ∧ (∀ q ∈ L, free q.base) ∧ T'.heap = t.heap ∧ T'.vm = t.vm ∧ Qa st₀ (.returned v) t ∧
      Goes p e below T g T' { g with pc := g.pc + 3, stack := v.toList ++ rest }) ∨
    (∃ (q : Addr) (st₀ t T' : State) (L : List Loc) (E : String) (ce : Cell), st₀.heap = H ∧ Stand p l e R s m args below meth c T' (locs ++ L) (cells + mc) (slots + ms) ∧ (∀ z ∈ L, free z.base) ∧ T'.heap = t.heap ∧ T'.vm = t.vm ∧ XC E st₀ t ∧ t.heap[q]? = some ce ∧ ce.vm = .none ∧ s.vm.findClass E = some ce.cls ∧
      Steps p.tables e below (T.setTop g) ((T'.setTop { g with stack := rest }).pushFrame (.throwing q)))
def vx_X {S : Type} (px : S → Prop) (B : String → S → State → Prop) (A : Nat → Prop) : String → State → State → Prop := fun E st t => ∃ u : S, px u ∧ B E u t ∧ va_F A st t
section Runs
variable {p : Program} {l : Launch} {e : Env} {R : Room} {s : State} {m : MethodId} {args : Array Value} {below : List Frame} {meth : Method} {c : Code} {H : Heap} {locs : List Loc} {cells slots : Nat}
variable {y : MethodName} {bytes cc : ByteArray} {maxL nL mc ms n index : Nat} {ret : Option FieldType} {ws : List Cond} {rm : Room} {Pc : Array Value → State → Prop} {Qc : Array Value → State → Outcome → State → Prop} {XC : String → State → State → Prop} {free : Addr → Prop} {Ts : List Cond} {own C : String} {b : Addr} {As rest : List Value} {g : JFrame}
theorem vx_callBack (cb : CallB R s args own index y bytes maxL ret ws rm mc ms n) (hM : vx_Met l y ws rm Pc Qc XC mc ms free) (hbl : FrameBlind Pc) : vx_Back l R p e below s args y 3 8 (PreOf R mc ms Pc) (PostOf Qc mc ms free) (vx_Post XC mc ms free) := by
  obtain ⟨hrc, hrs, hfr, hlo, hws, hcw, -, hini, -⟩ := cb
  exact vx_back (bytes := bytes) (maxL := maxL) (ret := ret) hM hbl hrc hrs hfr hlo hws hcw (fun a' U hW => word_at hW (Or.inl (by first | rfl | simp [Cond.onTables, Cond.keeps, Cond.steady])) hini)
theorem vx_runV (S : CallFix p m c cc nL s args Ts own) (hM : vx_Met l y ws rm Pc Qc XC mc ms free) (cw : CallW R s args own C index y bytes maxL ret ws rm mc ms n) (hp : PreV s H C b Pc As)
    (hg : g.method = m) (hn : As.length = n) (hsize : g.locals.size = nL) (hstack : g.stack = As.reverse ++ .ref b :: rest) (hW : 2 * g.monitorRoom + (rest.map fun v => v.category).sum ≤ 8) (hdg : decode cc g.pc = .ok (.invokevirtual index, 3)) (hf : cells + mc ≤ R.cells ∧ slots + ms ≤ R.slots) :
    vx_Run p l e R s m args below meth c H locs cells slots mc ms g rest (Qc (Value.ref b :: As).toArray) XC free := by
  have hK : vx_Back l R p e below s args y 3 8 (PreOf R mc ms Pc) (PostOf Qc mc ms free) (vx_Post XC mc ms free) := vx_callBack cw.1 hM hp.1
  obtain ⟨⟨-, -, -, -, -, -, hcode, -, hy, hlen, hl⟩, hin, hse⟩ := cw
  obtain ⟨hx, hb, hml, ho, -⟩ := S
  obtain ⟨-, ⟨cellB, hcB, hoB, hclB⟩, hPc⟩ := hp
  intro T hT X
  rcases vx_callV X hx (C := C) (bytes := bytes) (maxL := maxL) (ret := ret) ho hl hin hse hcode hy hK (by rw [hT]; exact hcB) hoB hclB hg (hsize.trans hml.symm) (argsL := As) (rest := rest) (fun sig h => hn.trans (hlen sig h)) hstack hW (by rw [hb]; exact hdg)
    (fun vm₁ hW₁ => ⟨hf.1, hf.2, hPc (T.setVm vm₁) hT hW₁⟩) with ⟨v, vm₁, ⟨U', l2, c2, s2⟩, hW₁, X', ⟨g', mk, t, L, e1, e2, hq, h1, hL, h2, h3⟩, st⟩ | ⟨q, vm₁, ⟨U', l2, c2, s2⟩, hW₁, X', ⟨g', mk, t, L, E, ce, e1, e2, hq, hce, hcv, hcl, h1, hL, h2, h3⟩, st⟩
  · dsimp only [Pt.U, Pt.locs, Pt.cells, Pt.slots] at X' e1 e2 h1 h2 h3 st
    subst h1; subst h2; subst h3
    exact Or.inl ⟨v, (T.setVm vm₁).calling g' mk (Value.ref b :: As).toArray, t, U', L, hT, X', hL, e1, e2, hq, st⟩
  · dsimp only [Pt.U, Pt.locs, Pt.cells, Pt.slots] at X' e1 e2 h1 h2 h3 st hcl
    subst h1; subst h2; subst h3
    exact Or.inr ⟨q, (T.setVm vm₁).calling g' mk (Value.ref b :: As).toArray, t, U', L, E, ce, hT, X', hL, e1, e2, hq, hce, hcv, vx_cls hW₁ hcl, st⟩
theorem vx_runS (S : CallFix p m c cc nL s args Ts own) (hM : vx_Met l y ws rm Pc Qc XC mc ms free) (cw : CallB R s args own index y bytes maxL ret ws rm mc ms n ∧ (Cond.static y).before args s = true) (hp : PreS s H Pc As)
    (hg : g.method = m) (hn : As.length = n) (hsize : g.locals.size = nL) (hstack : g.stack = As.reverse ++ rest) (hW : 2 * g.monitorRoom + (rest.map fun v => v.category).sum ≤ 8) (hdg : decode cc g.pc = .ok (.invokestatic index, 3)) (hf : cells + mc ≤ R.cells ∧ slots + ms ≤ R.slots) :
    vx_Run p l e R s m args below meth c H locs cells slots mc ms g rest (Qc As.toArray) XC free := by
  have hK : vx_Back l R p e below s args y 3 8 (PreOf R mc ms Pc) (PostOf Qc mc ms free) (vx_Post XC mc ms free) := vx_callBack cw.1 hM hp.1
  obtain ⟨⟨-, -, -, -, -, -, hcode, hini, hy, hlen, hl⟩, hstt⟩ := cw
  obtain ⟨hx, hb, hml, ho, -⟩ := S
  intro T hT X
  rcases vx_callS X hx (bytes := bytes) (maxL := maxL) (ret := ret) ho hl hstt hini hcode hy hK hg (hsize.trans hml.symm) (argsL := As) (rest := rest) (fun sig h => hn.trans (hlen sig h)) hstack hW (by rw [hb]; exact hdg)
    (fun vm₁ hW₁ => ⟨hf.1, hf.2, hp.2 (T.setVm vm₁) hT hW₁⟩) with ⟨v, vm₁, ⟨U', l2, c2, s2⟩, hW₁, X', ⟨g', mk, t, L, e1, e2, hq, h1, hL, h2, h3⟩, st⟩ | ⟨q, vm₁, ⟨U', l2, c2, s2⟩, hW₁, X', ⟨g', mk, t, L, E, ce, e1, e2, hq, hce, hcv, hcl, h1, hL, h2, h3⟩, st⟩
  · dsimp only [Pt.U, Pt.locs, Pt.cells, Pt.slots] at X' e1 e2 h1 h2 h3 st
    subst h1; subst h2; subst h3
    exact Or.inl ⟨v, (T.setVm vm₁).calling g' mk As.toArray, t, U', L, hT, X', hL, e1, e2, hq, st⟩
  · dsimp only [Pt.U, Pt.locs, Pt.cells, Pt.slots] at X' e1 e2 h1 h2 h3 st hcl
    subst h1; subst h2; subst h3
    exact Or.inr ⟨q, (T.setVm vm₁).calling g' mk As.toArray, t, U', L, E, ce, hT, X', hL, e1, e2, hq, hce, hcv, vx_cls hW₁ hcl, st⟩
end Runs
section Rows
variable {p : Program} {l : Launch} {e : Env} {R : Room} {s : State} {m : MethodId} {args : Array Value} {below : List Frame} {meth : Method} {c : Code} {H : Heap} {locs : List Loc} {cells slots : Nat} {Q : State → Prop}
variable {mc ms : Nat} {free : Addr → Prop} {A0 A1 : Nat → Prop} {H0 : Heap} {a : Array Value} {pc : Nat} {ls : Array Slot} {st0 rest : List Value}
theorem vx_keep {st₀ t T' : State} {L : List Loc} (h0 : st₀.heap = H) (e1 : T'.heap = t.heap) (hS : va_S A0 H0 H locs) (hA : ∀ q, q < H.size → A1 q → A0 q) (hf : ∀ q, free q → A0 q) (hL : ∀ q ∈ L, free q.base) (hF : va_F A1 st₀ t) :
    H.size ≤ T'.heap.size ∧ (∀ q : Nat, q < H.size → ¬ A1 q → T'.heap[q]? = H[q]?) ∧ va_S A0 H0 T'.heap (locs ++ L) := by
  obtain ⟨hz, hk⟩ := hF
  rw [h0] at hz hk
  exact ⟨by rw [e1]; exact hz, fun q h1 h2 => by rw [e1]; exact hk q h1 h2,
    ⟨Nat.le_trans hS.1 (by rw [e1]; exact hz), fun q h1 h2 => by rw [e1, hk q (Nat.lt_of_lt_of_le h1 hS.1) (fun z => h2 (hA q (Nat.lt_of_lt_of_le h1 hS.1) z))]; exact hS.2.1 q h1 h2, fun q hq => by
      rcases List.mem_append.mp hq with h | h
      · exact hS.2.2 q h
      · exact hf _ (hL q h)⟩⟩
theorem vx_calli {S SX : Type} {post : Int32 → S → Prop} {px : SX → Prop} {B : S → State → Prop} {BX : String → SX → State → Prop} {AX : Nat → Prop} (hr : vx_Run p l e R s m args below meth c H locs cells slots mc ms (F0 m pc ls st0) rest (va_Qi post B A1 a) (vx_X px BX AX) free) (hS : va_S A0 H0 H locs) (hA : ∀ q, q < H.size → A1 q → A0 q) (hf : ∀ q, free q → A0 q) (hAX : ∀ q, q < H.size → AX q → A0 q)
    (kx : ∀ (E : String) (ce : Cell) (q9 : Addr) (u : SX) (t : State) (H1 : Heap) (locs1 : List Loc), t.heap = H1 → s.vm.Alike t.vm → px u → BX E u t → H.size ≤ H1.size → (∀ q : Nat, q < H.size → ¬ AX q → H1[q]? = H[q]?) → va_S A0 H0 H1 locs1 → H1[q9]? = some ce → ce.vm = .none → s.vm.findClass E = some ce.cls → vx_W p l e R s m args below meth c H1 locs1 (cells + mc) (slots + ms) Q (F0 m pc ls rest) q9)
    (kk : ∀ (r : Int32) (u : S) (t : State) (H1 : Heap) (locs1 : List Loc), t.heap = H1 → s.vm.Alike t.vm → post r u → B u t → H.size ≤ H1.size → (∀ q : Nat, q < H.size → ¬ A1 q → H1[q]? = H[q]?) → va_S A0 H0 H1 locs1 → W p l e R s m args below meth c H1 locs1 (cells + mc) (slots + ms) Q (F0 m (pc + 3) ls (.int r :: rest))) : W p l e R s m args below meth c H locs cells slots Q (F0 m pc ls st0) := by
  intro T hT X
  rcases hr T hT X with ⟨v, st₀, t, T', L, h0, X', hL, e1, e2, ⟨⟨r, u, hv, hp, hb⟩, hF⟩, st⟩ | ⟨q, st₀, t, T', L, E, ce, h0, X', hL, e1, e2, ⟨u, hp, hb, hF⟩, hce, hcv, hcl, st⟩
  · cases hv
    obtain ⟨k1, k2, k3⟩ := vx_keep h0 e1 hS hA hf hL hF
    obtain ⟨t2, a1, b1⟩ := kk r u t T'.heap (locs ++ L) e1.symm (by rw [← e2]; exact X'.warmed.alike) hp hb k1 k2 k3 T' rfl X'
    exact ⟨t2, st t2 a1, b1⟩
  · obtain ⟨k1, k2, k3⟩ := vx_keep h0 e1 hS hAX hf hL hF
    obtain ⟨t2, a1, b1⟩ := kx E ce q u t T'.heap (locs ++ L) e1.symm (by rw [← e2]; exact X'.warmed.alike) hp hb k1 k2 k3 (by rw [e1]; exact hce) hcv hcl T' rfl X'
    exact ⟨t2, st.trans a1, b1⟩
theorem vx_calll {S SX : Type} {post : Int64 → S → Prop} {px : SX → Prop} {B : S → State → Prop} {BX : String → SX → State → Prop} {AX : Nat → Prop} (hr : vx_Run p l e R s m args below meth c H locs cells slots mc ms (F0 m pc ls st0) rest (va_Ql post B A1 a) (vx_X px BX AX) free) (hS : va_S A0 H0 H locs) (hA : ∀ q, q < H.size → A1 q → A0 q) (hf : ∀ q, free q → A0 q) (hAX : ∀ q, q < H.size → AX q → A0 q)
    (kx : ∀ (E : String) (ce : Cell) (q9 : Addr) (u : SX) (t : State) (H1 : Heap) (locs1 : List Loc), t.heap = H1 → s.vm.Alike t.vm → px u → BX E u t → H.size ≤ H1.size → (∀ q : Nat, q < H.size → ¬ AX q → H1[q]? = H[q]?) → va_S A0 H0 H1 locs1 → H1[q9]? = some ce → ce.vm = .none → s.vm.findClass E = some ce.cls → vx_W p l e R s m args below meth c H1 locs1 (cells + mc) (slots + ms) Q (F0 m pc ls rest) q9)
    (kk : ∀ (r : Int64) (u : S) (t : State) (H1 : Heap) (locs1 : List Loc), t.heap = H1 → s.vm.Alike t.vm → post r u → B u t → H.size ≤ H1.size → (∀ q : Nat, q < H.size → ¬ A1 q → H1[q]? = H[q]?) → va_S A0 H0 H1 locs1 → W p l e R s m args below meth c H1 locs1 (cells + mc) (slots + ms) Q (F0 m (pc + 3) ls (.long r :: rest))) : W p l e R s m args below meth c H locs cells slots Q (F0 m pc ls st0) := by
  intro T hT X
  rcases hr T hT X with ⟨v, st₀, t, T', L, h0, X', hL, e1, e2, ⟨⟨r, u, hv, hp, hb⟩, hF⟩, st⟩ | ⟨q, st₀, t, T', L, E, ce, h0, X', hL, e1, e2, ⟨u, hp, hb, hF⟩, hce, hcv, hcl, st⟩
  · cases hv
    obtain ⟨k1, k2, k3⟩ := vx_keep h0 e1 hS hA hf hL hF
    obtain ⟨t2, a1, b1⟩ := kk r u t T'.heap (locs ++ L) e1.symm (by rw [← e2]; exact X'.warmed.alike) hp hb k1 k2 k3 T' rfl X'
    exact ⟨t2, st t2 a1, b1⟩
  · obtain ⟨k1, k2, k3⟩ := vx_keep h0 e1 hS hAX hf hL hF
    obtain ⟨t2, a1, b1⟩ := kx E ce q u t T'.heap (locs ++ L) e1.symm (by rw [← e2]; exact X'.warmed.alike) hp hb k1 k2 k3 (by rw [e1]; exact hce) hcv hcl T' rfl X'
    exact ⟨t2, st.trans a1, b1⟩
theorem vx_callf {S SX : Type} {post : UInt32 → S → Prop} {px : SX → Prop} {B : S → State → Prop} {BX : String → SX → State → Prop} {AX : Nat → Prop} (hr : vx_Run p l e R s m args below meth c H locs cells slots mc ms (F0 m pc ls st0) rest (va_Qf post B A1 a) (vx_X px BX AX) free) (hS : va_S A0 H0 H locs) (hA : ∀ q, q < H.size → A1 q → A0 q) (hf : ∀ q, free q → A0 q) (hAX : ∀ q, q < H.size → AX q → A0 q)
    (kx : ∀ (E : String) (ce : Cell) (q9 : Addr) (u : SX) (t : State) (H1 : Heap) (locs1 : List Loc), t.heap = H1 → s.vm.Alike t.vm → px u → BX E u t → H.size ≤ H1.size → (∀ q : Nat, q < H.size → ¬ AX q → H1[q]? = H[q]?) → va_S A0 H0 H1 locs1 → H1[q9]? = some ce → ce.vm = .none → s.vm.findClass E = some ce.cls → vx_W p l e R s m args below meth c H1 locs1 (cells + mc) (slots + ms) Q (F0 m pc ls rest) q9)
    (kk : ∀ (r : UInt32) (u : S) (t : State) (H1 : Heap) (locs1 : List Loc), t.heap = H1 → s.vm.Alike t.vm → post r u → B u t → H.size ≤ H1.size → (∀ q : Nat, q < H.size → ¬ A1 q → H1[q]? = H[q]?) → va_S A0 H0 H1 locs1 → W p l e R s m args below meth c H1 locs1 (cells + mc) (slots + ms) Q (F0 m (pc + 3) ls (.float r :: rest))) : W p l e R s m args below meth c H locs cells slots Q (F0 m pc ls st0) := by
  intro T hT X
  rcases hr T hT X with ⟨v, st₀, t, T', L, h0, X', hL, e1, e2, ⟨⟨r, u, hv, hp, hb⟩, hF⟩, st⟩ | ⟨q, st₀, t, T', L, E, ce, h0, X', hL, e1, e2, ⟨u, hp, hb, hF⟩, hce, hcv, hcl, st⟩
  · cases hv
    obtain ⟨k1, k2, k3⟩ := vx_keep h0 e1 hS hA hf hL hF
    obtain ⟨t2, a1, b1⟩ := kk r u t T'.heap (locs ++ L) e1.symm (by rw [← e2]; exact X'.warmed.alike) hp hb k1 k2 k3 T' rfl X'
    exact ⟨t2, st t2 a1, b1⟩
  · obtain ⟨k1, k2, k3⟩ := vx_keep h0 e1 hS hAX hf hL hF
    obtain ⟨t2, a1, b1⟩ := kx E ce q u t T'.heap (locs ++ L) e1.symm (by rw [← e2]; exact X'.warmed.alike) hp hb k1 k2 k3 (by rw [e1]; exact hce) hcv hcl T' rfl X'
    exact ⟨t2, st.trans a1, b1⟩
theorem vx_calld {S SX : Type} {post : UInt64 → S → Prop} {px : SX → Prop} {B : S → State → Prop} {BX : String → SX → State → Prop} {AX : Nat → Prop} (hr : vx_Run p l e R s m args below meth c H locs cells slots mc ms (F0 m pc ls st0) rest (va_Qd post B A1 a) (vx_X px BX AX) free) (hS : va_S A0 H0 H locs) (hA : ∀ q, q < H.size → A1 q → A0 q) (hf : ∀ q, free q → A0 q) (hAX : ∀ q, q < H.size → AX q → A0 q)
    (kx : ∀ (E : String) (ce : Cell) (q9 : Addr) (u : SX) (t : State) (H1 : Heap) (locs1 : List Loc), t.heap = H1 → s.vm.Alike t.vm → px u → BX E u t → H.size ≤ H1.size → (∀ q : Nat, q < H.size → ¬ AX q → H1[q]? = H[q]?) → va_S A0 H0 H1 locs1 → H1[q9]? = some ce → ce.vm = .none → s.vm.findClass E = some ce.cls → vx_W p l e R s m args below meth c H1 locs1 (cells + mc) (slots + ms) Q (F0 m pc ls rest) q9)
    (kk : ∀ (r : UInt64) (u : S) (t : State) (H1 : Heap) (locs1 : List Loc), t.heap = H1 → s.vm.Alike t.vm → post r u → B u t → H.size ≤ H1.size → (∀ q : Nat, q < H.size → ¬ A1 q → H1[q]? = H[q]?) → va_S A0 H0 H1 locs1 → W p l e R s m args below meth c H1 locs1 (cells + mc) (slots + ms) Q (F0 m (pc + 3) ls (.double r :: rest))) : W p l e R s m args below meth c H locs cells slots Q (F0 m pc ls st0) := by
  intro T hT X
  rcases hr T hT X with ⟨v, st₀, t, T', L, h0, X', hL, e1, e2, ⟨⟨r, u, hv, hp, hb⟩, hF⟩, st⟩ | ⟨q, st₀, t, T', L, E, ce, h0, X', hL, e1, e2, ⟨u, hp, hb, hF⟩, hce, hcv, hcl, st⟩
  · cases hv
    obtain ⟨k1, k2, k3⟩ := vx_keep h0 e1 hS hA hf hL hF
    obtain ⟨t2, a1, b1⟩ := kk r u t T'.heap (locs ++ L) e1.symm (by rw [← e2]; exact X'.warmed.alike) hp hb k1 k2 k3 T' rfl X'
    exact ⟨t2, st t2 a1, b1⟩
  · obtain ⟨k1, k2, k3⟩ := vx_keep h0 e1 hS hAX hf hL hF
    obtain ⟨t2, a1, b1⟩ := kx E ce q u t T'.heap (locs ++ L) e1.symm (by rw [← e2]; exact X'.warmed.alike) hp hb k1 k2 k3 (by rw [e1]; exact hce) hcv hcl T' rfl X'
    exact ⟨t2, st.trans a1, b1⟩
theorem vx_callv {S SX : Type} {post : S → Prop} {px : SX → Prop} {B : S → State → Prop} {BX : String → SX → State → Prop} {AX : Nat → Prop} (hr : vx_Run p l e R s m args below meth c H locs cells slots mc ms (F0 m pc ls st0) rest (va_Qv post B A1 a) (vx_X px BX AX) free) (hS : va_S A0 H0 H locs) (hA : ∀ q, q < H.size → A1 q → A0 q) (hf : ∀ q, free q → A0 q) (hAX : ∀ q, q < H.size → AX q → A0 q)
    (kx : ∀ (E : String) (ce : Cell) (q9 : Addr) (u : SX) (t : State) (H1 : Heap) (locs1 : List Loc), t.heap = H1 → s.vm.Alike t.vm → px u → BX E u t → H.size ≤ H1.size → (∀ q : Nat, q < H.size → ¬ AX q → H1[q]? = H[q]?) → va_S A0 H0 H1 locs1 → H1[q9]? = some ce → ce.vm = .none → s.vm.findClass E = some ce.cls → vx_W p l e R s m args below meth c H1 locs1 (cells + mc) (slots + ms) Q (F0 m pc ls rest) q9)
    (kk : ∀ (u : S) (t : State) (H1 : Heap) (locs1 : List Loc), t.heap = H1 → s.vm.Alike t.vm → post u → B u t → H.size ≤ H1.size → (∀ q : Nat, q < H.size → ¬ A1 q → H1[q]? = H[q]?) → va_S A0 H0 H1 locs1 → W p l e R s m args below meth c H1 locs1 (cells + mc) (slots + ms) Q (F0 m (pc + 3) ls (rest))) : W p l e R s m args below meth c H locs cells slots Q (F0 m pc ls st0) := by
  intro T hT X
  rcases hr T hT X with ⟨v, st₀, t, T', L, h0, X', hL, e1, e2, ⟨⟨u, hv, hp, hb⟩, hF⟩, st⟩ | ⟨q, st₀, t, T', L, E, ce, h0, X', hL, e1, e2, ⟨u, hp, hb, hF⟩, hce, hcv, hcl, st⟩
  · cases hv
    obtain ⟨k1, k2, k3⟩ := vx_keep h0 e1 hS hA hf hL hF
    obtain ⟨t2, a1, b1⟩ := kk u t T'.heap (locs ++ L) e1.symm (by rw [← e2]; exact X'.warmed.alike) hp hb k1 k2 k3 T' rfl X'
    exact ⟨t2, st t2 a1, b1⟩
  · obtain ⟨k1, k2, k3⟩ := vx_keep h0 e1 hS hAX hf hL hF
    obtain ⟨t2, a1, b1⟩ := kx E ce q u t T'.heap (locs ++ L) e1.symm (by rw [← e2]; exact X'.warmed.alike) hp hb k1 k2 k3 (by rw [e1]; exact hce) hcv hcl T' rfl X'
    exact ⟨t2, st.trans a1, b1⟩
/-- caught by the row x of this method's table; the rows ahead don't take it -/
theorem vx_catch {own name : String} {E : String} {ce : Cell} {q : Addr} (hown : s.vm.findClass own = some m.cls) (pre : List ExceptionTableEntry) (x : ExceptionTableEntry) (suf : List ExceptionTableEntry) (hsplit : c.exceptionTable.toList = pre ++ x :: suf)
    (hpass : ∀ z ∈ pre, covers z pc = false ∨ (z.catchType ≠ 0 ∧ ∃ nm : String, (Cond.classLink own z.catchType nm).before args s = true ∧ va_Nc E nm s)) (hx : covers x pc = true) (h0 : x.catchType ≠ 0)
    (hlink : (Cond.classLink own x.catchType name).before args s = true) (hcast : (Cond.castable E name).before args s = true) (hcell : H[q]? = some ce) (hv : ce.vm = .none) (hcl : s.vm.findClass E = some ce.cls)
    (kk : W p l e R s m args below meth c H locs cells slots Q (F0 m x.handlerPc ls [.ref q])) : vx_W p l e R s m args below meth c H locs cells slots Q (F0 m pc ls rest) q := by
  intro T hT X
  have hpl : e.platform.magicAccessors = ({} : Platform).magicAccessors := by rw [X.admits.platform]
  obtain ⟨c3, c4, hc3, hc4, hasg⟩ := Cond.castable_spec hcast
  cases Option.some.inj (hc3.symm.trans hcl)
  obtain ⟨c5, hc5, hcl5⟩ := Cond.classLink_spec hown hlink e.platform hpl
  cases Option.some.inj (hc4.symm.trans hc5)
  obtain ⟨vm', X', st⟩ := X.thenCaughtThrough q (g := F0 m pc ls rest) rfl (Steps.refl _) (by rw [hT]; exact hcell) (by rw [hv]; rfl) (by obtain ⟨k9, h9, -⟩ := Vm.findClass_spec hcl; exact ⟨k9, h9⟩) pre x suf hsplit
    (fun z hz => by
      rcases hpass z hz with h | ⟨hz0, nm, hl1, hn1⟩
      · exact Or.inl h
      · obtain ⟨c6, hc6, hcl6⟩ := Cond.classLink_spec hown hl1 e.platform hpl
        obtain ⟨a8, b8, h1, h2, h3⟩ := hn1
        cases Option.some.inj (h1.symm.trans hcl)
        cases Option.some.inj (h2.symm.trans hc6)
        exact Or.inr ⟨hz0, _, hcl6, h3⟩) hx (Or.inr ⟨h0, c4, hcl5, hasg⟩)
  obtain ⟨t, a1, b1⟩ := kk (T.setVm vm') hT X'
  exact ⟨t, st.trans a1, b1⟩
end Rows
section Ends
variable {p : Program} {l : Launch} {e : Env} {R : Room} {s : State} {m : MethodId} {args : Array Value} {below : List Frame} {meth : Method} {c : Code} {H : Heap} {locs : List Loc} {cells slots : Nat} {Q : State → Prop}
variable {mc ms : Nat} {free : Addr → Prop} {A0 A1 : Nat → Prop} {H0 : Heap} {a : Array Value} {ls : Array Slot} {st0 rest : List Value}
variable {Qc : Array Value → State → Outcome → State → Prop} {XC : String → State → State → Prop}
/-- what a body that may throw owes at its end -/
def vx_MQ (below : List Frame) (Qc : Array Value → State → Outcome → State → Prop) (XC : String → State → State → Prop) (a : Array Value) (s : State) (mc ms : Nat) (free : Addr → Prop) : State → Prop := fun t =>
  ∃ o, t.status = .running ∧ Ended t below o ∧ vx_Q Qc XC mc ms free a s o t
theorem vx_ret {g : JFrame} {mc ms : Nat} (k : W p l e R s m args below meth c H locs cells slots (MQ below Qc args s mc ms free) g) : W p l e R s m args below meth c H locs cells slots (vx_MQ below Qc XC args s mc ms free) g := by
  intro T hT X
  obtain ⟨t, a1, o, b1, b2, b3, b4⟩ := k T hT X
  exact ⟨t, a1, o, b1, b2, Or.inl ⟨b3, b4⟩⟩
/-- not caught here: it goes on to the caller -/
theorem vx_widen {g : JFrame} {q : Addr} {k n : Nat} (h1 : cells ≤ k) (h2 : slots ≤ n) (kk : vx_W p l e R s m args below meth c H locs k n Q g q) : vx_W p l e R s m args below meth c H locs cells slots Q g q := fun T hT X => kk T hT (stand_widen X h1 h2)
theorem vx_out {pc : Nat} {E : String} {ce : Cell} {q : Addr} {mc ms : Nat} (hout : ∀ x ∈ c.exceptionTable.toList, covers x pc = false) (hlocks : meth.locks = false) (hcell : H[q]? = some ce) (hv : ce.vm = .none) (hcl : s.vm.findClass E = some ce.cls)
    (hx : ∀ t : State, t.heap = H → s.vm.Alike t.vm → XC E s t) (hf : ∀ z ∈ locs, free z.base) (hc : cells ≤ mc) (hs : slots ≤ ms) :
    vx_W p l e R s m args below meth c H locs cells slots (vx_MQ below Qc XC args s mc ms free) (F0 m pc ls rest) q := by
  intro T hT X
  obtain ⟨st1, hrun, hend, hW, hsm⟩ := X.leaveThrown q (g := F0 m pc ls rest) rfl rfl rfl hout hlocks
  have hcell9 : (T.setFrames (.throwing q :: below)).heap[q]? = some ce := by
    show T.heap[q]? = some ce
    rw [hT]; exact hcell
  exact ⟨_, st1, .threw q, hrun, hend, Or.inr ⟨q, rfl, E, ce, locs, hx _ hT hW.alike, hcell9, hv, hcl, hW, hsm.mono hc hs, hf⟩⟩
theorem vx_frame {U : State} {k n : Nat} (h : s.sameButNew ({ U with vm := s.vm } : State) locs k n) : s.heap.size ≤ U.heap.size ∧ ∀ q : Nat, q < s.heap.size → (∀ z ∈ locs, z.base ≠ q) → U.heap[q]? = s.heap[q]? := by
  obtain ⟨-, h2, -, -, -, h6⟩ := h
  refine ⟨h2, fun q hq hz => ?_⟩
  obtain ⟨c9, e1, e2, e3, e4⟩ := h6 q _ (Array.getElem?_eq_getElem hq)
  have hs : c9.slots = (s.heap[q]).slots := Array.ext_getElem? fun i => e4 i fun hm => hz _ hm rfl
  have h9 : c9 = s.heap[q] := by
    rw [hs] at e2
    exact e2
  have e5 : U.heap[q]? = some c9 := e1
  rw [e5, h9, Array.getElem?_eq_getElem hq]
/-- the words of a throw but the four that speak of the heap -/
def vx_no (w : Cond) : Bool := decide (w ≠ .isRef (.static Bundle.tN "UNASSIGNED_STACK" Bundle.steD)) && decide (w ≠ .isRef (.static Bundle.tN "SUPPRESSED_SENTINEL" Bundle.listD)) && decide (w ≠ .laysStatic Bundle.tN "UNASSIGNED_STACK" Bundle.steD) && decide (w ≠ .laysStatic Bundle.tN "SUPPRESSED_SENTINEL" Bundle.listD)
def vx_at0 (own : String) (ic : Nat) (X : String) (names : List String) : List Cond := (Bundle.ownAtoms0 own ic X names).filter vx_no
def vx_atS (own : String) (ic : Nat) (X : String) (names : List String) : List Cond := (Bundle.ownAtoms own ic X names).filter vx_no
/-- a word that the tables alone decide, or a good one -/
def vx_ot (w : Cond) : Bool := w.onTables || goodWord w
theorem vx_ot_at {args a' : Array Value} {s U : State} {w : Cond} (hW : s.WarmedH U.vm) (hvm : s.vm = U.vm) (hg : vx_ot w = true) (h : w.before args s = true) : w.before a' U = true := by
  simp only [vx_ot, Bool.or_eq_true] at hg
  rcases hg with hg | hg
  · exact va_tabs hg hvm h
  · exact word_at hW (good_of_word hg) h
/-- a list's words: the good ones out of the method's own list, the others by premises of their own -/
theorem vx_hat {args : Array Value} {s : State} {L B : List Cond} (h1 : ∀ w ∈ L.filter goodWord, w.before args s = true) (h2 : ∀ w ∈ L.filter (fun w => !goodWord w), w ∈ B) (h3 : ∀ w ∈ B, w.before args s = true) : ∀ w ∈ L, w.before args s = true := by
  intro w hw
  by_cases g : goodWord w = true
  · exact h1 w (List.mem_filter.mpr ⟨hw, g⟩)
  · refine h3 w (h2 w (List.mem_filter.mpr ⟨hw, ?_⟩))
    show (!goodWord w) = true
    cases hgw : goodWord w
    · rfl
    · exact absurd hgw g
theorem vx_c {args : Array Value} {s : State} {w : Cond} {B : List Cond} (h : w.before args s = true) (t : ∀ w ∈ B, w.before args s = true) : ∀ w' ∈ w :: B, w'.before args s = true := fun w' h' => (List.mem_cons.mp h').elim (fun e => by rw [e]; exact h) (t w')
theorem vx_n {args : Array Value} {s : State} : ∀ w ∈ ([] : List Cond), w.before args s = true := fun _ h => nomatch h
theorem vx_own {args : Array Value} {s : State} {L : List Cond} (h1 : ∀ w ∈ L.filter vx_no, w.before args s = true)
    (hU : (Cond.isRef (.static Bundle.tN "UNASSIGNED_STACK" Bundle.steD)).before args s = true) (hN : (Cond.isRef (.static Bundle.tN "SUPPRESSED_SENTINEL" Bundle.listD)).before args s = true)
    (lU : (Cond.laysStatic Bundle.tN "UNASSIGNED_STACK" Bundle.steD).before args s = true) (lN : (Cond.laysStatic Bundle.tN "SUPPRESSED_SENTINEL" Bundle.listD).before args s = true) : ∀ w ∈ L, w.before args s = true := by
  intro w hw
  by_cases e1 : w = .isRef (.static Bundle.tN "UNASSIGNED_STACK" Bundle.steD)
  · rw [e1]; exact hU
  · by_cases e2 : w = .isRef (.static Bundle.tN "SUPPRESSED_SENTINEL" Bundle.listD)
    · rw [e2]; exact hN
    · by_cases e3 : w = .laysStatic Bundle.tN "UNASSIGNED_STACK" Bundle.steD
      · rw [e3]; exact lU
      · by_cases e4 : w = .laysStatic Bundle.tN "SUPPRESSED_SENTINEL" Bundle.listD
        · rw [e4]; exact lN
        · exact h1 w (List.mem_filter.mpr ⟨hw, by unfold vx_no; rw [decide_eq_true e1, decide_eq_true e2, decide_eq_true e3, decide_eq_true e4]; rfl⟩)
/-- where a static field lies, its class's statics cell in H -/
def vx_L (C n d : String) (A : Nat → Prop) (U : State) (H : Heap) : Prop := ∃ (c : ClassId) (k : Class) (i : Nat) (f : Field) (a : Nat) (cell : Cell), U.vm.findClass C = some c ∧ U.fieldFound? C n d = some (c, k, i, f) ∧ f.isStatic = true ∧ k.statics = some a ∧ H[a]? = some cell ∧ cell.vm.isStatics = true ∧ cell.cls = c ∧ f.slot < cell.slots.size ∧ k.staticTypes[f.slot]? = some f.type ∧ ¬ A a
theorem vx_L.moved {C n d : String} {A : Nat → Prop} {u U : State} {H : Heap} (hvm : u.vm.Alike U.vm) (h : vx_L C n d A u H) : vx_L C n d A U H := by
  obtain ⟨c, k, i, f, a, cell, h1, h2, h3, h4, h5, h6, h7, h8, h9, h10⟩ := h
  obtain ⟨k', hi', he⟩ := State.fieldFound?_setVm hvm h2
  exact ⟨c, k', i, f, a, cell, by rw [hvm.findClass]; exact h1, hi', h3, by rw [he]; exact h4, h5, h6, h7, h8, by rw [he]; exact h9, h10⟩
theorem vx_L.kept {C n d : String} {A : Nat → Prop} {U : State} {H H1 : Heap} (h : vx_L C n d A U H) (hq : ∀ a : Nat, a < H.size → ¬ A a → H1[a]? = H[a]?) : vx_L C n d A U H1 := by
  obtain ⟨c, k, i, f, a, cell, h1, h2, h3, h4, h5, h6, h7, h8, h9, h10⟩ := h
  exact ⟨c, k, i, f, a, cell, h1, h2, h3, h4, by rw [hq a (Array.getElem?_eq_some_iff.mp h5).1 h10]; exact h5, h6, h7, h8, h9, h10⟩
theorem vx_L.narrow {C n d : String} {A B : Nat → Prop} {U : State} {H : Heap} (h : vx_L C n d A U H) (hAB : ∀ q, B q → A q) : vx_L C n d B U H := by
  obtain ⟨c, k, i, f, a, cell, h1, h2, h3, h4, h5, h6, h7, h8, h9, h10⟩ := h
  exact ⟨c, k, i, f, a, cell, h1, h2, h3, h4, h5, h6, h7, h8, h9, fun z => h10 (hAB _ z)⟩
theorem vx_L.word {C n d : String} {A : Nat → Prop} {s : State} {args : Array Value} (h : vx_L C n d A s s.heap) : (Cond.laysStatic C n d).before args s = true := by
  obtain ⟨c, k, i, f, a, cell, h1, h2, h3, h4, h5, h6, h7, h8, h9, -⟩ := h
  show (Cond.laysStatic C n d).holds args s none s [] = true
  exact Cond.laysStatic_of h1 h2 h3 h4 h5 h6 h7 h8 h9
/-- .. and what it holds: null or some reference -/
def vx_Zq (C n d : String) (A : Nat → Prop) (U : State) (H : Heap) : Prop := va_Zq C n d A U H ∧ vx_L C n d A U H
theorem vx_Zq.moved {C n d : String} {A : Nat → Prop} {u U : State} {H : Heap} (hvm : u.vm.Alike U.vm) (h : vx_Zq C n d A u H) : vx_Zq C n d A U H := ⟨va_Zq.moved hvm h.1, vx_L.moved hvm h.2⟩
theorem vx_Zq.kept {C n d : String} {A : Nat → Prop} {U : State} {H H1 : Heap} (h : vx_Zq C n d A U H) (hq : ∀ a : Nat, a < H.size → ¬ A a → H1[a]? = H[a]?) : vx_Zq C n d A U H1 := ⟨va_Zq.kept h.1 hq, vx_L.kept h.2 hq⟩
theorem vx_Zq.narrow {C n d : String} {A B : Nat → Prop} {U : State} {H : Heap} (h : vx_Zq C n d A U H) (hAB : ∀ q, B q → A q) : vx_Zq C n d B U H := ⟨va_Zq.narrow h.1 hAB, vx_L.narrow h.2 hAB⟩
theorem vx_Zqof {args : Array Value} {s : State} {C n d : String} {A : Nat → Prop} (hl : (Cond.laysStatic C n d).before args s = true) (hini : (Cond.initialized C).before args s = true) (h : (Cond.isRef (.static C n d)).before args s = true) (hA : ∀ a : Nat, a < s.heap.size → ¬ A a) : vx_Zq C n d A s s.heap := by
  refine ⟨va_Zqof hl hini h hA, ?_⟩
  obtain ⟨c, k, i, f, a, cell, h1, h2, h3, h4, h5, h6, h7, h8, h9⟩ := Cond.laysStatic_spec hl
  exact ⟨c, k, i, f, a, cell, h1, h2, h3, h4, h5, h6, h7, h8, h9, hA a (Array.getElem?_eq_some_iff.mp h5).1⟩
theorem vx_isRef {C n d : String} {v : Value} {A : Nat → Prop} {s : State} {args : Array Value} (h : va_Z C n d v A s s.heap) (hv : v.isRef = true) : (Cond.isRef (.static C n d)).before args s = true := by
  obtain ⟨cf, kf, fi, f, a, cell, h1, h2, h3, h4, h5, h6, h7, -⟩ := h
  have he : (Term.static C n d).eval args s none [] s = some v := by
    simp [Term.eval, State.fieldNamed?, h1, h2, h4, h5, h6, h7]
  simp only [Cond.before, Cond.holds, Cond.value, he]
  cases v <;> simp_all [Value.isRef]
theorem vx_isRefq {C n d : String} {A : Nat → Prop} {s : State} {args : Array Value} (h : va_Zq C n d A s s.heap) : (Cond.isRef (.static C n d)).before args s = true := by
  rcases h with h | ⟨t, h⟩
  · exact vx_isRef h rfl
  · exact vx_isRef h rfl
/-- the same frame, seen from here: as if the method were called anew in this heap -/
theorem vx_rebase {T : State} (X : Stand p l e R s m args below meth c T locs cells slots) {R' : Room} (hf : R'.frames ≤ R.frames) (hl : R'.locals ≤ R.locals) (hc : cells + R'.cells ≤ R.cells) (hs : slots + R'.slots ≤ R.slots) :
    Stand p l e R' ((T.setVm s.vm).setFrames (.invoking m args :: below)) m args below meth c T [] 0 0 := by
  have htop : (T.setVm s.vm).topJava?.isSome := X.here.top
  have hF : ((T.setVm s.vm).setFrames (.invoking m args :: below)).frames = .invoking m args :: below := State.frames_setFrames _ (State.cur_lt_of_top htop)
  obtain ⟨g₀, hg0⟩ := Option.isSome_iff_exists.mp htop
  obtain ⟨r, hr⟩ := State.topJava?_eq_some.mp hg0
  have hl9 : e.platform.stackLimits (T.setVm s.vm).me = e.platform.stackLimits s.me := X.limits
  have hb9 : (T.setVm s.vm).me.stackBytes = s.me.stackBytes := X.bytes
  refine ⟨X.admits, X.cas, X.clock, hF, ?_, X.hears, X.method, X.code, X.here, X.tail, X.warmed, ?_, ?_, ?_⟩
  · have h := X.room
    have hU : ((T.setVm s.vm).setFrames (.invoking m args :: below)).localsInUse = s.localsInUse := by
      rw [State.localsInUse_invoking hF (meth := meth) (c := c) X.method X.code, State.localsInUse_invoking X.frames X.method X.code]
    simp only [State.hasRoom, Bool.and_eq_true, decide_eq_true_eq] at h ⊢
    obtain ⟨⟨⟨⟨h1, h2, h3, h4, h5, h6⟩, h7⟩, h8⟩, h9⟩ := h
    rw [X.frames, List.length_cons] at h2 h3
    have q1 := X.heapSize
    have q2 := X.used
    simp only [hF, hU, List.length_cons, State.stackLimits_setFrames, State.stackBytes_setFrames, hl9, hb9]
    refine ⟨⟨⟨⟨by omega, by omega, by omega, by omega, by omega, h6⟩, ?_⟩, ?_⟩, X.book⟩
    · show T.heap.size + R'.cells ≤ e.platform.maxCells
      omega
    · show T.slotsUsed + R'.slots ≤ e.platform.maxSlots
      omega
  · rw [State.stackLimits_setFrames]; rfl
  · rw [State.stackBytes_setFrames]; rfl
  · refine ⟨?_, Nat.le_refl _, Nat.le_refl _, ?_, ?_, fun a c9 h9 => ⟨c9, h9, rfl, rfl, fun _ _ => rfl⟩⟩
    · obtain ⟨t, ht, -⟩ := State.frames_cons hr
      show T.setVm s.vm = { ((T.setVm s.vm).setFrames (.invoking m args :: below)).setFrames (T.setVm s.vm).frames with heap := T.heap, slotsUsed := T.slotsUsed }
      rw [State.setFrames_setFrames, State.setFrames_self ht]
      rfl
    · show T.slotsUsed = T.slotsUsed + ((T.heap.toList.drop T.heap.size).map (·.slots.size)).sum
      rw [List.drop_eq_nil_of_le (Nat.le_of_eq Array.length_toList)]
      rfl
    · show ((T.heap.toList.drop T.heap.size).map (·.slots.size)).sum ≤ 0
      rw [List.drop_eq_nil_of_le (Nat.le_of_eq Array.length_toList)]
      exact Nat.le_refl _
/-- 'throw new E()': new; dup; invokespecial; athrow -/
theorem vx_throw0 {cc : ByteArray} {pc : Nat} (hexec : p.tables.exec = Jvm.exec) (hb : c.code = cc) (hl : l.stackTraces = false) {own cls : String} {names : List String} {ik ic mc ms : Nat} {A : Nat → Prop}
    (hown : s.vm.findClass own = some m.cls) (hcls : Bundle.fit cls = true) (hnames : ∀ n ∈ names, Bundle.fit n = true)
    (hk : (Cond.classLink own ik cls).before args s = true) (hini : (Cond.initialized cls).before args s = true) (hat : ∀ w ∈ vx_at0 own ic cls names, w.before args s = true)
    (hgood : ∀ w ∈ Cond.classLink own ik cls :: Cond.initialized cls :: vx_at0 own ic cls names, vx_ot w = true)
    (hU : vx_Zq Bundle.tN "UNASSIGNED_STACK" Bundle.steD A s s.heap) (hN : vx_Zq Bundle.tN "SUPPRESSED_SENTINEL" Bundle.listD A s s.heap) (hS : va_S A s.heap H locs) (hsize : ls.size = c.maxLocals)
    (d0 : decode cc pc = .ok (.new ik, 3)) (d3 : decode cc (pc + 3) = .ok (.dup, 1)) (d4 : decode cc (pc + 4) = .ok (.invokespecial ic, 3)) (d7 : decode cc (pc + 7) = .ok (.athrow, 1))
    (hout : ∀ x ∈ c.exceptionTable.toList, covers x (pc + 7) = false)
    (hRframes : names.length + 3 < R.frames) (hRlocals : (rest.map fun v => v.category).sum + (13 * (names.length + 1) + 42) ≤ R.locals) (hRcells : cells + 1 ≤ R.cells) (hRslots : slots + 6 ≤ R.slots) (hlocks : meth.locks = false)
    (hx : ∀ t : State, s.vm.Alike t.vm → H.size ≤ t.heap.size → (∀ q : Nat, q < H.size → t.heap[q]? = H[q]?) → XC cls s t)
    (hf : ∀ z ∈ locs, free z.base) (hc : cells + 1 ≤ mc) (hs : slots + 6 ≤ ms) :
    W p l e R s m args below meth c H locs cells slots (vx_MQ below Qc XC args s mc ms free) (F0 m pc ls rest) := by
  intro T hT X
  have htr : e.platform.stackTraces = false := (show e.platform.stackTraces = l.stackTraces by rw [X.admits.platform]).trans hl
  have Y := vx_rebase X (R' := { frames := R.frames, locals := R.locals, cells := 1, slots := 6 }) (Nat.le_refl _) (Nat.le_refl _) hRcells hRslots
  obtain ⟨s', hA⟩ : ∃ z, z = (T.setVm s.vm).setFrames (.invoking m args :: below) := ⟨_, rfl⟩
  rw [← hA] at Y
  have hvm : s'.vm = s.vm := by rw [hA]; rfl
  have hhp : s'.heap = H := by rw [hA]; exact hT
  have hW0 : s.WarmedH s'.vm := by rw [hvm]; exact State.WarmedH.refl s
  have hat' : ∀ w ∈ vx_at0 own ic cls names, w.before args s' = true := fun w hw => vx_ot_at hW0 hvm.symm (hgood w (List.mem_cons_of_mem _ (List.mem_cons_of_mem _ hw))) (hat w hw)
  have hk' : (Cond.classLink own ik cls).before args s' = true := vx_ot_at hW0 hvm.symm (hgood _ List.mem_cons_self) hk
  have hini' : (Cond.initialized cls).before args s' = true := vx_ot_at hW0 hvm.symm (hgood _ (List.mem_cons_of_mem _ List.mem_cons_self)) hini
  have hU' : vx_Zq Bundle.tN "UNASSIGNED_STACK" Bundle.steD A s' s'.heap := by rw [hhp]; exact vx_Zq.moved hW0.alike (hU.kept hS.2.1)
  have hN' : vx_Zq Bundle.tN "SUPPRESSED_SENTINEL" Bundle.listD A s' s'.heap := by rw [hhp]; exact vx_Zq.moved hW0.alike (hN.kept hS.2.1)
  have h : ∀ w ∈ Bundle.ownAtoms0 own ic cls names, w.before args s' = true := vx_own hat' (vx_isRefq hU'.1) (vx_isRefq hN'.1) hU'.2.word hN'.2.word
  have hown' : s'.vm.findClass own = some m.cls := by rw [hvm]; exact hown
  have hins : (Cond.instantiable cls 6).before args s' = true := h _ (by simp [Bundle.ownAtoms0])
  obtain ⟨vm₁, cX, kX, hfX, hkX, -, -, X₁, st1⟩ := Y.newCold hexec (own := own) (C := cls) (index := ik) (n := 6) hown' hk' hins hini'
    (g := F0 m pc ls rest) rfl (by rw [hb]; exact d0) (Nat.le_refl _) (Nat.le_refl _)
  generalize hT1 : (T.setVm vm₁).pushCell { cls := cX, slots := kX.instanceTypes.map defaultValue, vm := .none } = T1 at X₁ st1
  have hcat : (Value.ref T.heap.size).category = 1 := rfl
  have hcellA : T1.heap[T.heap.size]? = some (freshCell cX kX) := by rw [← hT1]; exact State.heap_pushCell_size _ _
  have d3' : decode c.code (pc + 3) = .ok (.dup, 1) := by rw [hb]; exact d3
  obtain ⟨U, hsteps, hrun, hend, hW, hsame, ce, hce, hO⟩ := X₁.ctorThrow0 hexec htr (own := own) (cls := cls) (names := names) (ic := ic) hown' hcls hnames h (fun x hx => nomatch hx) hfX hkX hcellA (by rw [hhp, hT]; exact Nat.le_refl _)
    (g := { method := m, pc := pc + 4, locals := ls, stack := .ref T.heap.size :: .ref T.heap.size :: rest, locked := none }) rfl hsize rfl rfl (rest := rest) rfl
    (by rw [hb]; exact d4) (by rw [hb]; exact d7) hout hRframes (by simp only [List.map_cons, List.sum_cons, hcat]; omega) hlocks
  obtain ⟨f1, f2⟩ := vx_frame hsame
  rw [hhp] at f1 f2
  have hWs : s.WarmedH U.vm := State.WarmedH.trans hW0 hW
  have hcl : s.vm.findClass cls = some ce.cls := by
    have h9 := hO.cls
    rw [hvm] at h9
    exact h9
  have hall : s.sameButNew ({ U with vm := s.vm } : State) locs mc ms := by
    subst hA
    obtain ⟨e1, e2⟩ := hsame
    rw [State.setFrames_setFrames] at e1
    have h2 : (T.setVm s.vm).sameButNew ({ U with vm := s.vm } : State) [] (0 + 1) (0 + 6) := ⟨e1, e2⟩
    have h3 := X.same.trans h2
    rw [List.append_nil] at h3
    exact h3.mono hc hs
  refine ⟨U, ?_, .threw T.heap.size, hrun, hend, Or.inr ⟨T.heap.size, rfl, cls, ce, locs, hx U hWs.alike f1 (fun q hq => f2 q hq (fun z hz => nomatch hz)), hce, hO.vm, hcl, hWs, hall, hf⟩⟩
  refine st1 _ ?_
  show Steps p.tables e below (T1.setTop { method := m, pc := pc + 3, locals := ls, stack := .ref T.heap.size :: rest, locked := none }) _
  jvm_step X₁.here [X₁.here.top, hexec, d3', Value.category]
  exact hsteps
/-- 'throw new E("text")': new; dup; ldc; invokespecial; athrow -/
theorem vx_throwS {cc : ByteArray} {pc : Nat} (hexec : p.tables.exec = Jvm.exec) (hb : c.code = cc) (hl : l.stackTraces = false) {own cls text : String} {names : List String} {ik is ic mc ms sa : Nat} {A : Nat → Prop}
    (hown : s.vm.findClass own = some m.cls) (hcls : Bundle.fit cls = true) (hnames : ∀ n ∈ names, Bundle.fit n = true)
    (hk : (Cond.classLink own ik cls).before args s = true) (hini : (Cond.initialized cls).before args s = true) (hstr : vk_R own is text sa s) (hat : ∀ w ∈ vx_atS own ic cls names, w.before args s = true)
    (hgood : ∀ w ∈ Cond.classLink own ik cls :: Cond.initialized cls :: vx_atS own ic cls names, vx_ot w = true)
    (hU : vx_Zq Bundle.tN "UNASSIGNED_STACK" Bundle.steD A s s.heap) (hN : vx_Zq Bundle.tN "SUPPRESSED_SENTINEL" Bundle.listD A s s.heap) (hS : va_S A s.heap H locs) (hsize : ls.size = c.maxLocals)
    (d0 : decode cc pc = .ok (.new ik, 3)) (d3 : decode cc (pc + 3) = .ok (.dup, 1)) (d4 : decode cc (pc + 4) = .ok (.ldc is, 2)) (d6 : decode cc (pc + 6) = .ok (.invokespecial ic, 3)) (d9 : decode cc (pc + 9) = .ok (.athrow, 1))
    (hout : ∀ x ∈ c.exceptionTable.toList, covers x (pc + 9) = false)
    (hRframes : names.length + 3 < R.frames) (hRlocals : (rest.map fun v => v.category).sum + (13 * (names.length + 1) + 43) ≤ R.locals) (hRcells : cells + 1 ≤ R.cells) (hRslots : slots + 6 ≤ R.slots) (hlocks : meth.locks = false)
    (hx : ∀ t : State, s.vm.Alike t.vm → H.size ≤ t.heap.size → (∀ q : Nat, q < H.size → t.heap[q]? = H[q]?) → XC cls s t)
    (hf : ∀ z ∈ locs, free z.base) (hc : cells + 1 ≤ mc) (hs : slots + 6 ≤ ms) :
    W p l e R s m args below meth c H locs cells slots (vx_MQ below Qc XC args s mc ms free) (F0 m pc ls rest) := by
  intro T hT X
  have htr : e.platform.stackTraces = false := (show e.platform.stackTraces = l.stackTraces by rw [X.admits.platform]).trans hl
  have Y := vx_rebase X (R' := { frames := R.frames, locals := R.locals, cells := 1, slots := 6 }) (Nat.le_refl _) (Nat.le_refl _) hRcells hRslots
  obtain ⟨s', hA⟩ : ∃ z, z = (T.setVm s.vm).setFrames (.invoking m args :: below) := ⟨_, rfl⟩
  rw [← hA] at Y
  have hvm : s'.vm = s.vm := by rw [hA]; rfl
  have hhp : s'.heap = H := by rw [hA]; exact hT
  have hW0 : s.WarmedH s'.vm := by rw [hvm]; exact State.WarmedH.refl s
  have hat' : ∀ w ∈ vx_atS own ic cls names, w.before args s' = true := fun w hw => vx_ot_at hW0 hvm.symm (hgood w (List.mem_cons_of_mem _ (List.mem_cons_of_mem _ hw))) (hat w hw)
  have hk' : (Cond.classLink own ik cls).before args s' = true := vx_ot_at hW0 hvm.symm (hgood _ List.mem_cons_self) hk
  have hini' : (Cond.initialized cls).before args s' = true := vx_ot_at hW0 hvm.symm (hgood _ (List.mem_cons_of_mem _ List.mem_cons_self)) hini
  have hU' : vx_Zq Bundle.tN "UNASSIGNED_STACK" Bundle.steD A s' s'.heap := by rw [hhp]; exact vx_Zq.moved hW0.alike (hU.kept hS.2.1)
  have hN' : vx_Zq Bundle.tN "SUPPRESSED_SENTINEL" Bundle.listD A s' s'.heap := by rw [hhp]; exact vx_Zq.moved hW0.alike (hN.kept hS.2.1)
  have h : ∀ w ∈ Bundle.ownAtoms own ic cls names, w.before args s' = true := vx_own hat' (vx_isRefq hU'.1) (vx_isRefq hN'.1) hU'.2.word hN'.2.word
  have hown' : s'.vm.findClass own = some m.cls := by rw [hvm]; exact hown
  have hins : (Cond.instantiable cls 6).before args s' = true := h _ (by simp [Bundle.ownAtoms])
  obtain ⟨vm₁, cX, kX, hfX, hkX, -, -, X₁, st1⟩ := Y.newCold hexec (own := own) (C := cls) (index := ik) (n := 6) hown' hk' hins hini'
    (g := F0 m pc ls rest) rfl (by rw [hb]; exact d0) (Nat.le_refl _) (Nat.le_refl _)
  generalize hT1 : (T.setVm vm₁).pushCell { cls := cX, slots := kX.instanceTypes.map defaultValue, vm := .none } = T1 at X₁ st1
  have hcat : (Value.ref T.heap.size).category = 1 := rfl
  have hcellA : T1.heap[T.heap.size]? = some (freshCell cX kX) := by rw [← hT1]; exact State.heap_pushCell_size _ _
  have d3' : decode c.code (pc + 3) = .ok (.dup, 1) := by rw [hb]; exact d3
  have d4' : decode c.code (pc + 4) = .ok (.ldc is, 2) := by rw [hb]; exact d4
  have hstr' : vk_R own is text sa s' := vk_R.warm hW0 hstr
  obtain ⟨U, hsteps, hrun, hend, hW, hsame, ce, hce, hO⟩ := X₁.ctorThrowS hexec htr (own := own) (cls := cls) (names := names) (ic := ic) hown' hcls hnames h (fun x hx => nomatch hx) hfX hkX hcellA (by rw [hhp, hT]; exact Nat.le_refl _) (msg := .ref sa) rfl
    (g := { method := m, pc := pc + 6, locals := ls, stack := .ref sa :: .ref T.heap.size :: .ref T.heap.size :: rest, locked := none }) rfl hsize rfl rfl (rest := rest) rfl
    (by rw [hb]; exact d6) (by rw [hb]; exact d9) hout hRframes (by simp only [List.map_cons, List.sum_cons, hcat]; omega) hlocks
  obtain ⟨f1, f2⟩ := vx_frame hsame
  rw [hhp] at f1 f2
  have hWs : s.WarmedH U.vm := State.WarmedH.trans hW0 hW
  have hcl : s.vm.findClass cls = some ce.cls := by
    have h9 := hO.cls
    rw [hvm] at h9
    exact h9
  have hall : s.sameButNew ({ U with vm := s.vm } : State) locs mc ms := by
    subst hA
    obtain ⟨e1, e2⟩ := hsame
    rw [State.setFrames_setFrames] at e1
    have h2 : (T.setVm s.vm).sameButNew ({ U with vm := s.vm } : State) [] (0 + 1) (0 + 6) := ⟨e1, e2⟩
    have h3 := X.same.trans h2
    rw [List.append_nil] at h3
    exact h3.mono hc hs
  refine ⟨U, ?_, .threw T.heap.size, hrun, hend, Or.inr ⟨T.heap.size, rfl, cls, ce, locs, hx U hWs.alike f1 (fun q hq => f2 q hq (fun z hz => nomatch hz)), hce, hO.vm, hcl, hWs, hall, hf⟩⟩
  refine st1 _ ?_
  show Steps p.tables e below (T1.setTop { method := m, pc := pc + 3, locals := ls, stack := .ref T.heap.size :: rest, locked := none }) _
  jvm_step X₁.here [X₁.here.top, hexec, d3', Value.category]
  exact X₁.ldcString hexec (own := own) (text := text) (index := is) (a := sa) hown' hstr'.1 hstr'.2
    (g := { method := m, pc := pc + 4, locals := ls, stack := .ref T.heap.size :: .ref T.heap.size :: rest, locked := none }) rfl d4' _ hsteps
/-- 'throw new E("text")', the text by a wide index -/
theorem vx_throwSW {cc : ByteArray} {pc : Nat} (hexec : p.tables.exec = Jvm.exec) (hb : c.code = cc) (hl : l.stackTraces = false) {own cls text : String} {names : List String} {ik is ic mc ms sa : Nat} {A : Nat → Prop}
    (hown : s.vm.findClass own = some m.cls) (hcls : Bundle.fit cls = true) (hnames : ∀ n ∈ names, Bundle.fit n = true)
    (hk : (Cond.classLink own ik cls).before args s = true) (hini : (Cond.initialized cls).before args s = true) (hstr : vk_R own is text sa s) (hat : ∀ w ∈ vx_atS own ic cls names, w.before args s = true)
    (hgood : ∀ w ∈ Cond.classLink own ik cls :: Cond.initialized cls :: vx_atS own ic cls names, vx_ot w = true)
    (hU : vx_Zq Bundle.tN "UNASSIGNED_STACK" Bundle.steD A s s.heap) (hN : vx_Zq Bundle.tN "SUPPRESSED_SENTINEL" Bundle.listD A s s.heap) (hS : va_S A s.heap H locs) (hsize : ls.size = c.maxLocals)
    (d0 : decode cc pc = .ok (.new ik, 3)) (d3 : decode cc (pc + 3) = .ok (.dup, 1)) (d4 : decode cc (pc + 4) = .ok (.ldc_w is, 3)) (d7 : decode cc (pc + 7) = .ok (.invokespecial ic, 3)) (d10 : decode cc (pc + 10) = .ok (.athrow, 1))
    (hout : ∀ x ∈ c.exceptionTable.toList, covers x (pc + 10) = false)
    (hRframes : names.length + 3 < R.frames) (hRlocals : (rest.map fun v => v.category).sum + (13 * (names.length + 1) + 43) ≤ R.locals) (hRcells : cells + 1 ≤ R.cells) (hRslots : slots + 6 ≤ R.slots) (hlocks : meth.locks = false)
    (hx : ∀ t : State, s.vm.Alike t.vm → H.size ≤ t.heap.size → (∀ q : Nat, q < H.size → t.heap[q]? = H[q]?) → XC cls s t)
    (hf : ∀ z ∈ locs, free z.base) (hc : cells + 1 ≤ mc) (hs : slots + 6 ≤ ms) :
    W p l e R s m args below meth c H locs cells slots (vx_MQ below Qc XC args s mc ms free) (F0 m pc ls rest) := by
  intro T hT X
  have htr : e.platform.stackTraces = false := (show e.platform.stackTraces = l.stackTraces by rw [X.admits.platform]).trans hl
  have Y := vx_rebase X (R' := { frames := R.frames, locals := R.locals, cells := 1, slots := 6 }) (Nat.le_refl _) (Nat.le_refl _) hRcells hRslots
  obtain ⟨s', hA⟩ : ∃ z, z = (T.setVm s.vm).setFrames (.invoking m args :: below) := ⟨_, rfl⟩
  rw [← hA] at Y
  have hvm : s'.vm = s.vm := by rw [hA]; rfl
  have hhp : s'.heap = H := by rw [hA]; exact hT
  have hW0 : s.WarmedH s'.vm := by rw [hvm]; exact State.WarmedH.refl s
  have hat' : ∀ w ∈ vx_atS own ic cls names, w.before args s' = true := fun w hw => vx_ot_at hW0 hvm.symm (hgood w (List.mem_cons_of_mem _ (List.mem_cons_of_mem _ hw))) (hat w hw)
  have hk' : (Cond.classLink own ik cls).before args s' = true := vx_ot_at hW0 hvm.symm (hgood _ List.mem_cons_self) hk
  have hini' : (Cond.initialized cls).before args s' = true := vx_ot_at hW0 hvm.symm (hgood _ (List.mem_cons_of_mem _ List.mem_cons_self)) hini
  have hU' : vx_Zq Bundle.tN "UNASSIGNED_STACK" Bundle.steD A s' s'.heap := by rw [hhp]; exact vx_Zq.moved hW0.alike (hU.kept hS.2.1)
  have hN' : vx_Zq Bundle.tN "SUPPRESSED_SENTINEL" Bundle.listD A s' s'.heap := by rw [hhp]; exact vx_Zq.moved hW0.alike (hN.kept hS.2.1)
  have h : ∀ w ∈ Bundle.ownAtoms own ic cls names, w.before args s' = true := vx_own hat' (vx_isRefq hU'.1) (vx_isRefq hN'.1) hU'.2.word hN'.2.word
  have hown' : s'.vm.findClass own = some m.cls := by rw [hvm]; exact hown
  have hins : (Cond.instantiable cls 6).before args s' = true := h _ (by simp [Bundle.ownAtoms])
  obtain ⟨vm₁, cX, kX, hfX, hkX, -, -, X₁, st1⟩ := Y.newCold hexec (own := own) (C := cls) (index := ik) (n := 6) hown' hk' hins hini'
    (g := F0 m pc ls rest) rfl (by rw [hb]; exact d0) (Nat.le_refl _) (Nat.le_refl _)
  generalize hT1 : (T.setVm vm₁).pushCell { cls := cX, slots := kX.instanceTypes.map defaultValue, vm := .none } = T1 at X₁ st1
  have hcat : (Value.ref T.heap.size).category = 1 := rfl
  have hcellA : T1.heap[T.heap.size]? = some (freshCell cX kX) := by rw [← hT1]; exact State.heap_pushCell_size _ _
  have d3' : decode c.code (pc + 3) = .ok (.dup, 1) := by rw [hb]; exact d3
  have d4' : decode c.code (pc + 4) = .ok (.ldc_w is, 3) := by rw [hb]; exact d4
  have hstr' : vk_R own is text sa s' := vk_R.warm hW0 hstr
  obtain ⟨U, hsteps, hrun, hend, hW, hsame, ce, hce, hO⟩ := X₁.ctorThrowS hexec htr (own := own) (cls := cls) (names := names) (ic := ic) hown' hcls hnames h (fun x hx => nomatch hx) hfX hkX hcellA (by rw [hhp, hT]; exact Nat.le_refl _) (msg := .ref sa) rfl
    (g := { method := m, pc := pc + 7, locals := ls, stack := .ref sa :: .ref T.heap.size :: .ref T.heap.size :: rest, locked := none }) rfl hsize rfl rfl (rest := rest) rfl
    (by rw [hb]; exact d7) (by rw [hb]; exact d10) hout hRframes (by simp only [List.map_cons, List.sum_cons, hcat]; omega) hlocks
  obtain ⟨f1, f2⟩ := vx_frame hsame
  rw [hhp] at f1 f2
  have hWs : s.WarmedH U.vm := State.WarmedH.trans hW0 hW
  have hcl : s.vm.findClass cls = some ce.cls := by
    have h9 := hO.cls
    rw [hvm] at h9
    exact h9
  have hall : s.sameButNew ({ U with vm := s.vm } : State) locs mc ms := by
    subst hA
    obtain ⟨e1, e2⟩ := hsame
    rw [State.setFrames_setFrames] at e1
    have h2 : (T.setVm s.vm).sameButNew ({ U with vm := s.vm } : State) [] (0 + 1) (0 + 6) := ⟨e1, e2⟩
    have h3 := X.same.trans h2
    rw [List.append_nil] at h3
    exact h3.mono hc hs
  refine ⟨U, ?_, .threw T.heap.size, hrun, hend, Or.inr ⟨T.heap.size, rfl, cls, ce, locs, hx U hWs.alike f1 (fun q hq => f2 q hq (fun z hz => nomatch hz)), hce, hO.vm, hcl, hWs, hall, hf⟩⟩
  refine st1 _ ?_
  show Steps p.tables e below (T1.setTop { method := m, pc := pc + 3, locals := ls, stack := .ref T.heap.size :: rest, locked := none }) _
  jvm_step X₁.here [X₁.here.top, hexec, d3', Value.category]
  exact X₁.ldcStringW hexec (own := own) (text := text) (index := is) (a := sa) hown' hstr'.1 hstr'.2
    (g := { method := m, pc := pc + 4, locals := ls, stack := .ref T.heap.size :: .ref T.heap.size :: rest, locked := none }) rfl d4' _ hsteps
end Ends
section Bodies
variable {l : Launch}
theorem vx_ofW {y : MethodName} {ws ws' : List Cond} {rm : Room} {Pc : Array Value → State → Prop} {Qc : Array Value → State → Outcome → State → Prop} {XC : String → State → State → Prop} {mc ms : Nat} {free : Addr → Prop} {cc : ByteArray} {maxL : Nat} {ret : Option FieldType}
    (hy : plainName y.cls = true) (hw : ws = Cond.code y cc maxL ret :: ws')
    (body : ∀ p e s m args below meth c s₁, BodyLoose p l y (headSpec ws rm) cc maxL ret e s m args below meth c s₁ → c.maxLocals = maxL → (∀ x ∈ c.exceptionTable.toList, False) → Pc args s →
      W p l e (headSpec ws rm).room s m args below meth c s.heap [] 0 0 (vx_MQ below Qc XC args s mc ms free) (entryFrame m args maxL)) : vx_Met l y ws rm Pc Qc XC mc ms free := by
  refine MetFree.of_bodyS (code := cc) (maxLocals := maxL) (ret := ret) hy ?_ ?_
  · intro args s m h hn
    obtain ⟨meth, c, h1, h2, h3, h4, h5, h6, -, -⟩ := Cond.code_spec hn (atoms_spec (ws := ws) h _ (by rw [hw]; exact List.mem_cons_self))
    exact ⟨meth, c, h1, h2, h3, h4, h5, h6⟩
  · intro p e s m args below meth c s₁ B hml hP _
    have hh0 : s₁.heap = s.heap := by rw [B.state]; rfl
    have ht : ∀ x ∈ c.exceptionTable.toList, False := by
      obtain ⟨meth9, c9, h1, h2, -, -, -, -, h7, -⟩ := Cond.code_spec B.named (atoms_spec (ws := ws) B.pre _ (by rw [hw]; exact List.mem_cons_self))
      cases Option.some.inj (h1.symm.trans B.method)
      cases Option.some.inj (h2.symm.trans (Stand.of_body B).code)
      intro x hx
      rw [Array.isEmpty_iff.mp h7] at hx
      cases hx
    obtain ⟨t, a1, o, b1, b2, b3⟩ := body p e s m args below meth c s₁ B hml ht hP s₁ hh0 (Stand.of_body B)
    exact ⟨t, o, a1, b1, b2, b3⟩
/-- the table of a body with handlers -/
theorem vx_table {p : Program} {x y : MethodName} {S : Spec} {cc bytes : ByteArray} {maxL maxL' : Nat} {ret ret' : Option FieldType} {e : Env} {s s₁ : State} {m : MethodId} {args : Array Value} {below : List Frame} {meth : Method} {c : Code} {hh : List (Nat × Nat × Nat × Nat)}
    (B : BodyLoose p l y S cc maxL ret e s m args below meth c s₁) (h : (Cond.codeWith y bytes maxL' ret' hh).before args s = true) : c.exceptionTable.toList = tableOf hh := by
  obtain ⟨m9, meth9, c9, hn9, h1, h2, -, -, h6, -⟩ := Cond.codeWith_spec h
  cases Option.some.inj (hn9.symm.trans B.named)
  cases Option.some.inj (h1.symm.trans B.method)
  cases Option.some.inj (h2.symm.trans (Stand.of_body B).code)
  rw [← h6, table_eq]
end Bodies
end VXA
/-! ===== END ===== -/
/-! ===== BEGIN a static call of a method with an exception table ===== -/
section VXS
variable {p : Program} {l : Launch} {e : Env} {R : Room} {s : State} {m : MethodId} {args : Array Value} {below : List Frame} {meth : Method} {c : Code} {T : State} {H : Heap} {locs : List Loc} {cells slots : Nat}
abbrev vx_CSW (R : Room) (s : State) (args : Array Value) (own : String) (index : Nat) (y : MethodName) (bytes : ByteArray) (maxL : Nat) (ret : Option FieldType) (hh : List (Nat × Nat × Nat × Nat)) (ws : List Cond) (rm : Room) (mc ms n : Nat) : Prop :=
  (rm.cells = mc ∧ rm.slots = ms ∧ rm.frames + 1 ≤ R.frames ∧ 8 + (maxL + 11) + rm.locals ≤ R.locals ∧ (∀ w ∈ ws, ∀ (a' : Array Value) (U : State), s.WarmedH U.vm → w.before a' U = true) ∧ Cond.codeWith y bytes maxL ret hh ∈ ws) ∧
  (Cond.codeWith y bytes maxL ret hh).before args s = true ∧ (Cond.initialized y.cls).before args s = true ∧ (y.cls ≠ "java/lang/invoke/MethodHandle" ∧ y.cls ≠ "java/lang/invoke/VarHandle") ∧
  (∀ sig, parseMethodDescriptor y.desc = some sig → n = sig.parameters.length) ∧ (Cond.methodLink own index y).before args s = true ∧ (Cond.static y).before args s = true
theorem vx_cwSW {own : String} {index maxL mc ms : Nat} {y : MethodName} {bytes : ByteArray} {ret : Option FieldType} {hh : List (Nat × Nat × Nat × Nat)} {Ts ws ws' : List Cond} {rm : Room} (n : Nat) (ht : ∀ w ∈ Ts, w.before args s = true) (hT : GoodIn Ts (va_wsS own index y ws)) (hw : ws = Cond.codeWith y bytes maxL ret hh :: ws') (hrc : rm.cells = mc) (hrs : rm.slots = ms)
    (hd : y.cls ≠ "java/lang/invoke/MethodHandle" ∧ y.cls ≠ "java/lang/invoke/VarHandle" ∧ (parseMethodDescriptor y.desc).map (fun d => d.parameters.length) = some n) (hR : rm.frames + 1 ≤ R.frames ∧ 8 + (maxL + 11) + rm.locals ≤ R.locals) :
    vx_CSW R s args own index y bytes maxL ret hh ws rm mc ms n := by
  have ok : ∀ w ∈ va_wsS own index y ws, w.before args s = true := fun w h => ht w (hT w h).1
  have hG : GoodIn Ts ws := fun w h => hT w (by unfold va_wsS; exact List.mem_append_right _ h)
  have hc : Cond.codeWith y bytes maxL ret hh ∈ ws := by rw [hw]; exact List.mem_cons_self
  refine ⟨⟨hrc, hrs, hR.1, hR.2, pay_in ht hG, hc⟩, ht _ (hG _ hc).1, ok _ (by simp [va_wsS]), ⟨hd.1, hd.2.1⟩, fun sig h => ?_, ok _ (by simp [va_wsS]), ok _ (by simp [va_wsS])⟩
  have h2 := hd.2.2
  rw [h] at h2
  exact (Option.some.inj h2).symm
theorem vx_callSW (X : Stand p l e R s m args below meth c T locs cells slots) (hexec : p.tables.exec = Jvm.exec) {own : String} {index : Nat} {y : MethodName} {bytes : ByteArray} {maxL : Nat} {ret : Option FieldType} {hh : List (Nat × Nat × Nat × Nat)}
    (hown : s.vm.findClass own = some m.cls) (hlink : (Cond.methodLink own index y).before args s = true) (hstat : (Cond.static y).before args s = true) (hinit : (Cond.initialized y.cls).before args s = true)
    (hcode : (Cond.codeWith y bytes maxL ret hh).before args s = true) (hy : y.cls ≠ "java/lang/invoke/MethodHandle" ∧ y.cls ≠ "java/lang/invoke/VarHandle")
    {W9 : Nat} {Pre : Pt → Array Value → Prop} {Post : Pt → Array Value → Option Value → Pt → Prop} (hK : Back l R p e below s args y 3 W9 Pre Post)
    {g : JFrame} (hg : g.method = m) (hsize : g.locals.size = c.maxLocals) {argsL rest : List Value} (hlen : ∀ sig, parseMethodDescriptor y.desc = some sig → argsL.length = sig.parameters.length)
    (hstack : g.stack = argsL.reverse ++ rest) (hW : 2 * g.monitorRoom + (rest.map fun v => v.category).sum ≤ W9) (hdg : decode c.code g.pc = .ok (.invokestatic index, 3))
    (hpre : ∀ vm₁, s.WarmedH vm₁ → Pre ⟨T.setVm vm₁, locs, cells, slots⟩ argsL.toArray) :
    ∃ (v : Option Value) (vm₁ : Vm) (B : Pt), s.WarmedH vm₁ ∧ Stand p l e R s m args below meth c B.U B.locs B.cells B.slots ∧ Post ⟨T.setVm vm₁, locs, cells, slots⟩ argsL.toArray v B ∧
      ∀ target, Steps p.tables e below (B.U.setTop { g with pc := g.pc + 3, stack := v.toList ++ rest }) target → Steps p.tables e below (T.setTop g) target := by
  obtain ⟨mk, methM, cM, hnamed, hmethM, -, -, -, -, -, -, hsigM⟩ := Cond.codeWith_spec hcode
  have hstatic : methM.isStatic = true := Cond.static_spec hnamed hmethM hstat
  obtain ⟨kP, hkP, -⟩ := className_of_methodNamed hnamed
  have hinitP : kP.init = .initialized := Cond.initialized_spec (findClass_of_methodNamed hnamed) hkP hinit
  obtain ⟨vm₁, X₁, hstep₁⟩ := X.invokestatic hexec hown hlink hnamed hmethM hstatic hkP hinitP hy (g := g) hg (argsL := argsL) (rest := rest) (hlen _ hsigM) hstack hdg
  obtain ⟨v, B, X', hpost, hsteps⟩ := hK m meth c ⟨T.setVm vm₁, locs, cells, slots⟩ { g with stack := rest } (.invokestatic index) mk argsL.toArray X₁ hg hsize hdg hW (X₁.named hnamed) (hpre vm₁ X₁.warmed)
  exact ⟨v, vm₁, B, X₁.warmed, X', hpost, fun target h => hstep₁ _ fun acts => by rw [doInvoke_state]; exact hsteps.trans h⟩
theorem vx_runSW {y : MethodName} {bytes cc : ByteArray} {maxL nL mc ms n index : Nat} {ret : Option FieldType} {hh : List (Nat × Nat × Nat × Nat)} {ws : List Cond} {rm : Room} {Pc : Array Value → State → Prop} {Qc : Array Value → State → Outcome → State → Prop} {free : Addr → Prop} {Ts : List Cond} {own : String} {As rest : List Value} {g : JFrame}
    (S : CallFix p m c cc nL s args Ts own) (hM : Met l y ws rm Pc Qc mc ms free) (cw : vx_CSW R s args own index y bytes maxL ret hh ws rm mc ms n) (hp : PreS s H Pc As)
    (hg : g.method = m) (hn : As.length = n) (hsize : g.locals.size = nL) (hstack : g.stack = As.reverse ++ rest) (hW : 2 * g.monitorRoom + (rest.map fun v => v.category).sum ≤ 8) (hdg : decode cc g.pc = .ok (.invokestatic index, 3)) (hf : cells + mc ≤ R.cells ∧ slots + ms ≤ R.slots) :
    va_Run p l e R s m args below meth c H locs cells slots mc ms g rest (Qc As.toArray) (free) := by
  obtain ⟨⟨hrc, hrs, hfr, hlo, hws, hcw⟩, hcode, hini, hy, hlen, hl, hstt⟩ := cw
  have hK : Back l R p e below s args y 3 8 (PreOf R mc ms Pc) (PostOf Qc mc ms free) := va_backW (hh := hh) (bytes := bytes) (maxL := maxL) (ret := ret) hM hp.1 hrc hrs hfr hlo hws hcw (fun a' U hW => word_at hW (Or.inl (by first | rfl | simp [Cond.onTables, Cond.keeps, Cond.steady])) hini)
  obtain ⟨hx, hb, hml, ho, -⟩ := S
  intro T hT X
  obtain ⟨v, vm₁, ⟨U', l2, c2, s2⟩, hW₁, X', ⟨g', mk, t, L, e1, e2, hq, h1, hL, h2, h3⟩, st⟩ := vx_callSW X hx (hh := hh) (bytes := bytes) (maxL := maxL) (ret := ret) ho hl hstt hini hcode hy hK hg (hsize.trans hml.symm) (argsL := As) (rest := rest) (fun sig h => hn.trans (hlen sig h)) hstack hW (by rw [hb]; exact hdg)
    (fun vm₁ hW₁ => ⟨hf.1, hf.2, hp.2 (T.setVm vm₁) hT hW₁⟩)
  dsimp only [Pt.U, Pt.locs, Pt.cells, Pt.slots] at X' e1 e2 h1 h2 h3 st
  subst h1; subst h2; subst h3
  exact ⟨v, (T.setVm vm₁).calling g' mk As.toArray, t, U', L, hT, X', hL, e1, e2, hq, st⟩
/-- not caught here, past rows that name other classes: it goes on to the caller -/
theorem vx_outP {p : Program} {l : Launch} {e : Env} {R : Room} {s : State} {m : MethodId} {args : Array Value} {below : List Frame} {meth : Method} {c : Code} {H : Heap} {locs : List Loc} {cells slots : Nat} {free : Addr → Prop} {ls : Array Slot} {rest : List Value} {Qc : Array Value → State → Outcome → State → Prop} {XC : String → State → State → Prop}
    {pc : Nat} {own E : String} {ce : Cell} {q : Addr} {mc ms : Nat} (hown : s.vm.findClass own = some m.cls) (hlocks : meth.locks = false)
    (hpass : ∀ z ∈ c.exceptionTable.toList, covers z pc = false ∨ (z.catchType ≠ 0 ∧ ∃ nm : String, (Cond.classLink own z.catchType nm).before args s = true ∧ va_Nc E nm s)) (hcell : H[q]? = some ce) (hv : ce.vm = .none) (hcl : s.vm.findClass E = some ce.cls)
    (hx : ∀ t : State, t.heap = H → s.vm.Alike t.vm → XC E s t) (hf : ∀ z ∈ locs, free z.base) (hc : cells ≤ mc) (hs : slots ≤ ms) :
    vx_W p l e R s m args below meth c H locs cells slots (vx_MQ below Qc XC args s mc ms free) (F0 m pc ls rest) q := by
  intro T hT X
  have hpl : e.platform.magicAccessors = ({} : Platform).magicAccessors := by rw [X.admits.platform]
  obtain ⟨vm', hW', X', st⟩ := X.outThrough hlocks q (g := F0 m pc ls rest) rfl rfl rfl (cell := ce) (by rw [hT]; exact hcell) (by rw [hv]; rfl)
    (by obtain ⟨k9, h9, -⟩ := Vm.findClass_spec hcl; exact ⟨k9, h9⟩) (fun z hz => by
      rcases hpass z hz with h | ⟨hz0, nm, hl1, hn1⟩
      · exact Or.inl h
      · obtain ⟨c6, hc6, hcl6⟩ := Cond.classLink_spec hown hl1 e.platform hpl
        obtain ⟨a8, b8, h1, h2, h3⟩ := hn1
        cases Option.some.inj (h1.symm.trans hcl)
        cases Option.some.inj (h2.symm.trans hc6)
        exact Or.inr ⟨hz0, _, hcl6, h3⟩)
  obtain ⟨g₀, hfr⟩ := X'.frames_eq
  have hcell9 : ((T.setVm vm').setFrames (.throwing q :: below)).heap[q]? = some ce := by
    show T.heap[q]? = some ce
    rw [hT]; exact hcell
  have hend : Ended ((T.setVm vm').setFrames (.throwing q :: below)) below (.threw q) := State.frames_setFrames _ (State.cur_lt_of_frames hfr)
  refine ⟨(T.setVm vm').setFrames (.throwing q :: below), ?_, .threw q, X'.here.running, hend, Or.inr ⟨q, rfl, E, ce, locs, hx _ hT (X'.ends _).1.alike, hcell9, hv, hcl, (X'.ends _).1, (X'.ends _).2.mono hc hs, hf⟩⟩
  rw [X.pushThrowing_eq]
  exact st
/-- a thing of a world lies in the heap -/
theorem vx_lt {D : va_G} {cl : List vw_C} {ws : va_W} {H1 : Heap} (h : va_P D cl ws H1) {k : Nat} {q : Nat × va_E} (hk : ws[k]? = some q) : q.1 < H1.size := (h k q hk).lt
end VXS
/-! ===== END ===== -/
/-! ===== BEGIN methods with a table of their own: called by a name, returning or throwing ===== -/
section VXH
/-! vx_backW, vx_callVX, vx_callSX, vx_callVW, vx_runVW, vx_runVX, vx_runSX, vx_ofWH follow the same proofs as their sisters above (Free/Laws.lean, Shelf42/LK1.lean); vx_outP calls Shelf42/NT130.lean (outThrough). -/
section
variable {l : Launch} {R : Room} {p : Program} {e : Env} {below : List Frame} {s : State} {sargs : Array Value} {y : MethodName} {len W9 : Nat}
theorem vx_backW {ws : List Cond} {rm : Room} {Pc : Array Value → State → Prop} {Qc : Array Value → State → Outcome → State → Prop} {XC : String → State → State → Prop} {mc ms : Nat} {free : Addr → Prop} {bytes : ByteArray} {maxL : Nat} {ret : Option FieldType} {hh : List (Nat × Nat × Nat × Nat)}
    (hM : vx_Met l y ws rm Pc Qc XC mc ms free) (hblind : FrameBlind Pc) (hrc : rm.cells = mc) (hrs : rm.slots = ms)
    (hframes : rm.frames + 1 ≤ R.frames) (hlocals : W9 + (maxL + 11) + rm.locals ≤ R.locals)
    (hws : ∀ w ∈ ws, ∀ a' U, s.WarmedH U.vm → w.before a' U = true) (hcode : Cond.codeWith y bytes maxL ret hh ∈ ws) (hinit : ∀ a' U, s.WarmedH U.vm → (Cond.initialized y.cls).before a' U = true) :
    vx_Back l R p e below s sargs y len W9 (PreOf R mc ms Pc) (PostOf Qc mc ms free) (vx_Post XC mc ms free) := by
  intro m meth c A g ig mk a X hg hsize hdg hW hn hp
  have h1 : (headSpec ws rm).pre.before a A.U = true := atoms_intro fun w hw => hws w hw _ _ X.warmed
  have h2 : (Cond.codeWith y bytes maxL ret hh).before a A.U = true := hws _ hcode _ _ X.warmed
  have h3 : (Cond.initialized y.cls).before a A.U = true := hinit _ _ X.warmed
  have h4 : A.cells + (headSpec ws rm).room.cells ≤ R.cells := by rw [show (headSpec ws rm).room.cells = mc from hrc]; exact hp.1
  have h5 : A.slots + (headSpec ws rm).room.slots ≤ R.slots := by rw [show (headSpec ws rm).room.slots = ms from hrs]; exact hp.2.1
  have hPc : Pc a (A.U.calling g mk a) := hblind _ _ _ _ hp.2.2
  obtain ⟨U, Ls, c0, s0⟩ := A
  dsimp only [Pt.U, Pt.locs, Pt.cells, Pt.slots] at h1 h2 h3 h4 h5 X hn hPc ⊢
  obtain ⟨m9, methY, cY, hn9, hmY, hcY, -, hlY, -⟩ := Cond.codeWith_spec h2
  cases Option.some.inj (hn9.symm.trans hn)
  obtain ⟨kY, hkY, -⟩ := className_of_methodNamed hn
  have hinitY : kY.init = .initialized := Cond.initialized_spec (findClass_of_methodNamed hn) hkY h3
  have h : At U g.method c below := by rw [hg]; exact X.here
  have hlocals9 : W9 + (maxL + 11) + (headSpec ws rm).room.locals ≤ R.locals := hlocals
  have happ : (headSpec ws rm).appliesLoose y e.platform (U.calling g mk a) = true :=
    Spec.appliesLoose_calling (g := g) h hdg hn hkY hinitY
      (X.room_calling (g := g) (R' := (headSpec ws rm).room) hsize hmY hcY hframes (by rw [hlY]; omega) h4 h5) h1
  obtain ⟨mid, hmid⟩ := h.above
  have hfr : (U.setTop g).frames = (.java g :: mid) ++ below := by rw [State.frames_setTop' g h.top, hmid]; rfl
  obtain ⟨o, s₂, hsteps, -, hend, hq⟩ := Steps.callFree hM p X.admits X.cas X.clock (acts := []) hfr happ hPc trivial
  have hq' : vx_Q Qc XC mc ms free a (U.calling g mk a) o s₂ := hq
  rw [State.frames_setTop' g h.top] at hend
  obtain ⟨g₀, hg0⟩ := Option.isSome_iff_exists.mp h.top
  obtain ⟨r, hr⟩ := State.topJava?_eq_some.mp hg0
  have hr' : (({ U with heap := s₂.heap, slotsUsed := s₂.slotsUsed } : State).setVm s₂.vm).frames = .java g₀ :: r := hr
  rcases hq' with ⟨hqc, L, hfe, hL⟩ | ⟨q, rfl, E, ce, L, hx, hce, hcv, hcl, hW₂, hsm, hL⟩
  · obtain ⟨⟨v, rfl⟩, hW₂, e2, q2, q3, q4, q5, q6⟩ := id hfe
    have e3 : s₂ = ({ (U.calling g mk a).setFrames s₂.frames with heap := s₂.heap, slotsUsed := s₂.slotsUsed } : State).setVm s₂.vm := by
      have : s₂ = ({ s₂ with vm := (U.calling g mk a).vm } : State).setVm s₂.vm := rfl
      rw [e2] at this
      exact this
    obtain ⟨c₂, i₂, len₂, hc₂, hd₂, hf₂⟩ := hend
    have hW' : U.WarmedH s₂.vm := hW₂
    have hcc : c₂ = c := by
      have h1 : s₂.code? g.method = U.code? g.method := by
        rw [State.code?_eq, State.code?_eq, hW'.alike.method?]
      exact Option.some.inj (hc₂.symm.trans (h1.trans h.code))
    subst hcc
    have hlen : len₂ = len := by rw [hdg] at hd₂; cases hd₂; rfl
    subst hlen
    have hs₂ : s₂ = (({ U with heap := s₂.heap, slotsUsed := s₂.slotsUsed } : State).setVm s₂.vm).setTop { g with pc := g.pc + len₂, stack := v.toList ++ g.stack } := by
      refine e3.trans ?_
      rw [hf₂, State.calling_eq h.top, State.setFrames_setFrames, State.setTop_of_frames _ hr', hr]
      rfl
    have hsame : U.sameButNew ({ U with heap := s₂.heap, slotsUsed := s₂.slotsUsed } : State) L mc ms := by
      refine ⟨?_, q2, q3, q4, q5, q6⟩
      obtain ⟨t, ht, -⟩ := State.frames_cons hr
      show ({ U with heap := s₂.heap, slotsUsed := s₂.slotsUsed } : State) = { U.setFrames U.frames with heap := s₂.heap, slotsUsed := s₂.slotsUsed }
      rw [State.setFrames_self ht]
    subst hg
    refine Or.inl ⟨v, ⟨(({ U with heap := s₂.heap, slotsUsed := s₂.slotsUsed } : State).setVm s₂.vm), Ls ++ L, c0 + mc, s0 + ms⟩,
      ⟨X.admits, X.cas, X.clock, X.frames, X.room, X.hears, X.method, X.code, (X.here.setHeapUsed s₂.heap s₂.slotsUsed).setVm hW'.alike, X.tail, State.WarmedH.trans X.warmed hW', X.limits, X.bytes, X.same.trans (hsame.setVm s.vm)⟩,
      ⟨g, mk, s₂, L, rfl, rfl, hqc, rfl, hL, rfl, rfl⟩, ?_⟩
    show Steps p.tables e below _ ((({ U with heap := s₂.heap, slotsUsed := s₂.slotsUsed } : State).setVm s₂.vm).setTop { g with pc := g.pc + len₂, stack := v.toList ++ g.stack })
    rw [← hs₂]
    exact hsteps
  · obtain ⟨e2, q2, q3, q4, q5, q6⟩ := id hsm
    have e3 : s₂ = ({ (U.calling g mk a).setFrames s₂.frames with heap := s₂.heap, slotsUsed := s₂.slotsUsed } : State).setVm s₂.vm := by
      have : s₂ = ({ s₂ with vm := (U.calling g mk a).vm } : State).setVm s₂.vm := rfl
      rw [e2] at this
      exact this
    have hf₂ : s₂.frames = .throwing q :: .java g :: U.frames.tail := hend
    have hW' : U.WarmedH s₂.vm := hW₂
    have hs₂ : s₂ = ((({ U with heap := s₂.heap, slotsUsed := s₂.slotsUsed } : State).setVm s₂.vm).setTop g).pushFrame (.throwing q) := by
      refine e3.trans ?_
      rw [hf₂, State.calling_eq h.top, State.setFrames_setFrames, State.pushFrame, State.frames_setTop _ hr', State.setTop_of_frames _ hr', State.setFrames_setFrames, hr]
      rfl
    have hsame : U.sameButNew ({ U with heap := s₂.heap, slotsUsed := s₂.slotsUsed } : State) L mc ms := by
      refine ⟨?_, q2, q3, q4, q5, q6⟩
      obtain ⟨t, ht, -⟩ := State.frames_cons hr
      show ({ U with heap := s₂.heap, slotsUsed := s₂.slotsUsed } : State) = { U.setFrames U.frames with heap := s₂.heap, slotsUsed := s₂.slotsUsed }
      rw [State.setFrames_self ht]
    subst hg
    refine Or.inr ⟨q, ⟨(({ U with heap := s₂.heap, slotsUsed := s₂.slotsUsed } : State).setVm s₂.vm), Ls ++ L, c0 + mc, s0 + ms⟩,
      ⟨X.admits, X.cas, X.clock, X.frames, X.room, X.hears, X.method, X.code, (X.here.setHeapUsed s₂.heap s₂.slotsUsed).setVm hW'.alike, X.tail, State.WarmedH.trans X.warmed hW', X.limits, X.bytes, X.same.trans (hsame.setVm s.vm)⟩,
      ⟨g, mk, s₂, L, E, ce, rfl, rfl, hx, hce, hcv, hcl, rfl, hL, rfl, rfl⟩, ?_⟩
    show Steps p.tables e below _ (((({ U with heap := s₂.heap, slotsUsed := s₂.slotsUsed } : State).setVm s₂.vm).setTop g).pushFrame (.throwing q))
    rw [← hs₂]
    exact hsteps
end
variable {p : Program} {l : Launch} {e : Env} {R : Room} {s : State} {m : MethodId} {args : Array Value} {below : List Frame} {meth : Method} {c : Code} {T : State} {H : Heap} {locs : List Loc} {cells slots : Nat}
theorem vx_callVX (X : Stand p l e R s m args below meth c T locs cells slots) (hexec : p.tables.exec = Jvm.exec) {own C : String} {index : Nat} {y : MethodName} {bytes : ByteArray} {maxL : Nat} {ret : Option FieldType} {hh : List (Nat × Nat × Nat × Nat)}
    (hown : s.vm.findClass own = some m.cls) (hlink : (Cond.methodLink own index y).before args s = true) (hinst : (Cond.instanceMethod y).before args s = true) (hsel : (Cond.selects C y y).before args s = true)
    (hcode : (Cond.codeWith y bytes maxL ret hh).before args s = true) (hy : y.cls ≠ "java/lang/invoke/MethodHandle" ∧ y.cls ≠ "java/lang/invoke/VarHandle")
    {W9 : Nat} {Pre : Pt → Array Value → Prop} {Post : Pt → Array Value → Option Value → Pt → Prop} {PostX : Pt → Array Value → Addr → Pt → Prop} (hK : vx_Back l R p e below s args y 3 W9 Pre Post PostX)
    {b : Addr} {cellB : Cell} (hcell : T.heap[b]? = some cellB) (hobj : cellB.vm.isStatics = false) (hcls : s.vm.findClass C = some cellB.cls)
    {g : JFrame} (hg : g.method = m) (hsize : g.locals.size = c.maxLocals) {argsL rest : List Value} (hlen : ∀ sig, parseMethodDescriptor y.desc = some sig → argsL.length = sig.parameters.length)
    (hstack : g.stack = argsL.reverse ++ .ref b :: rest) (hW : 2 * g.monitorRoom + (rest.map fun v => v.category).sum ≤ W9) (hdg : decode c.code g.pc = .ok (.invokevirtual index, 3))
    (hpre : ∀ vm₁, s.WarmedH vm₁ → Pre ⟨T.setVm vm₁, locs, cells, slots⟩ (Value.ref b :: argsL).toArray) :
    (∃ (v : Option Value) (vm₁ : Vm) (B : Pt), s.WarmedH vm₁ ∧ Stand p l e R s m args below meth c B.U B.locs B.cells B.slots ∧ Post ⟨T.setVm vm₁, locs, cells, slots⟩ (Value.ref b :: argsL).toArray v B ∧
      ∀ target, Steps p.tables e below (B.U.setTop { g with pc := g.pc + 3, stack := v.toList ++ rest }) target → Steps p.tables e below (T.setTop g) target) ∨
    (∃ (q : Addr) (vm₁ : Vm) (B : Pt), s.WarmedH vm₁ ∧ Stand p l e R s m args below meth c B.U B.locs B.cells B.slots ∧ PostX ⟨T.setVm vm₁, locs, cells, slots⟩ (Value.ref b :: argsL).toArray q B ∧
      Steps p.tables e below (T.setTop g) ((B.U.setTop { g with stack := rest }).pushFrame (.throwing q))) := by
  obtain ⟨mk, methM, hnamed, hmethM, hstM, habM⟩ := Cond.instanceMethod_spec hinst
  obtain ⟨m8, methM', cM, hn8, hmethM', -, -, -, -, -, -, hsigM⟩ := Cond.codeWith_spec hcode
  cases Option.some.inj (hn8.symm.trans hnamed)
  cases hmethM.symm.trans hmethM'
  obtain ⟨c2, r2, m2, q1, q2, q3, q4, kP, hkP, hkPi⟩ := Cond.selects_spec hsel
  cases hcls.symm.trans q1
  cases (State.methodFound?_of_named hnamed hy).symm.trans q2
  cases hnamed.symm.trans q3
  have hselP : selectMethod e.platform s.vm cellB.cls mk = .method mk := by rw [Launch.admits_selectMethod X.admits]; exact q4
  obtain ⟨vm₁, X₁, hstep₁⟩ := X.invokevirtual hexec hown hlink hnamed hmethM hstM hkP hkPi hy (a := b) (cell := cellB) hcell
    (fun z h => by rw [h] at hobj; cases hobj) hselP hmethM habM hkP hkPi (g := g) hg (argsL := argsL) (rest := rest) (hlen _ hsigM) hstack hdg
  rcases hK m meth c ⟨T.setVm vm₁, locs, cells, slots⟩ { g with stack := rest } (.invokevirtual index) mk (Value.ref b :: argsL).toArray X₁ hg hsize hdg hW (X₁.named hnamed) (hpre vm₁ X₁.warmed) with ⟨v, B, X', hpost, hsteps⟩ | ⟨q, B, X', hpost, hsteps⟩
  · exact Or.inl ⟨v, vm₁, B, X₁.warmed, X', hpost, fun target h => hstep₁ _ fun acts => by rw [doInvoke_state]; exact hsteps.trans h⟩
  · exact Or.inr ⟨q, vm₁, B, X₁.warmed, X', hpost, hstep₁ _ fun acts => by rw [doInvoke_state]; exact hsteps⟩
theorem vx_callSX (X : Stand p l e R s m args below meth c T locs cells slots) (hexec : p.tables.exec = Jvm.exec) {own : String} {index : Nat} {y : MethodName} {bytes : ByteArray} {maxL : Nat} {ret : Option FieldType} {hh : List (Nat × Nat × Nat × Nat)}
    (hown : s.vm.findClass own = some m.cls) (hlink : (Cond.methodLink own index y).before args s = true) (hstat : (Cond.static y).before args s = true) (hinit : (Cond.initialized y.cls).before args s = true)
    (hcode : (Cond.codeWith y bytes maxL ret hh).before args s = true) (hy : y.cls ≠ "java/lang/invoke/MethodHandle" ∧ y.cls ≠ "java/lang/invoke/VarHandle")
    {W9 : Nat} {Pre : Pt → Array Value → Prop} {Post : Pt → Array Value → Option Value → Pt → Prop} {PostX : Pt → Array Value → Addr → Pt → Prop} (hK : vx_Back l R p e below s args y 3 W9 Pre Post PostX)
    {g : JFrame} (hg : g.method = m) (hsize : g.locals.size = c.maxLocals) {argsL rest : List Value} (hlen : ∀ sig, parseMethodDescriptor y.desc = some sig → argsL.length = sig.parameters.length)
    (hstack : g.stack = argsL.reverse ++ rest) (hW : 2 * g.monitorRoom + (rest.map fun v => v.category).sum ≤ W9) (hdg : decode c.code g.pc = .ok (.invokestatic index, 3))
    (hpre : ∀ vm₁, s.WarmedH vm₁ → Pre ⟨T.setVm vm₁, locs, cells, slots⟩ argsL.toArray) :
    (∃ (v : Option Value) (vm₁ : Vm) (B : Pt), s.WarmedH vm₁ ∧ Stand p l e R s m args below meth c B.U B.locs B.cells B.slots ∧ Post ⟨T.setVm vm₁, locs, cells, slots⟩ argsL.toArray v B ∧
      ∀ target, Steps p.tables e below (B.U.setTop { g with pc := g.pc + 3, stack := v.toList ++ rest }) target → Steps p.tables e below (T.setTop g) target) ∨
    (∃ (q : Addr) (vm₁ : Vm) (B : Pt), s.WarmedH vm₁ ∧ Stand p l e R s m args below meth c B.U B.locs B.cells B.slots ∧ PostX ⟨T.setVm vm₁, locs, cells, slots⟩ argsL.toArray q B ∧
      Steps p.tables e below (T.setTop g) ((B.U.setTop { g with stack := rest }).pushFrame (.throwing q))) := by
  obtain ⟨mk, methM, cM, hnamed, hmethM, -, -, -, -, -, -, hsigM⟩ := Cond.codeWith_spec hcode
  have hstatic : methM.isStatic = true := Cond.static_spec hnamed hmethM hstat
  obtain ⟨kP, hkP, -⟩ := className_of_methodNamed hnamed
  have hinitP : kP.init = .initialized := Cond.initialized_spec (findClass_of_methodNamed hnamed) hkP hinit
  obtain ⟨vm₁, X₁, hstep₁⟩ := X.invokestatic hexec hown hlink hnamed hmethM hstatic hkP hinitP hy (g := g) hg (argsL := argsL) (rest := rest) (hlen _ hsigM) hstack hdg
  rcases hK m meth c ⟨T.setVm vm₁, locs, cells, slots⟩ { g with stack := rest } (.invokestatic index) mk argsL.toArray X₁ hg hsize hdg hW (X₁.named hnamed) (hpre vm₁ X₁.warmed) with ⟨v, B, X', hpost, hsteps⟩ | ⟨q, B, X', hpost, hsteps⟩
  · exact Or.inl ⟨v, vm₁, B, X₁.warmed, X', hpost, fun target h => hstep₁ _ fun acts => by rw [doInvoke_state]; exact hsteps.trans h⟩
  · exact Or.inr ⟨q, vm₁, B, X₁.warmed, X', hpost, hstep₁ _ fun acts => by rw [doInvoke_state]; exact hsteps⟩
theorem vx_callVW (X : Stand p l e R s m args below meth c T locs cells slots) (hexec : p.tables.exec = Jvm.exec) {own C : String} {index : Nat} {y : MethodName} {bytes : ByteArray} {maxL : Nat} {ret : Option FieldType} {hh : List (Nat × Nat × Nat × Nat)}
    (hown : s.vm.findClass own = some m.cls) (hlink : (Cond.methodLink own index y).before args s = true) (hinst : (Cond.instanceMethod y).before args s = true) (hsel : (Cond.selects C y y).before args s = true)
    (hcode : (Cond.codeWith y bytes maxL ret hh).before args s = true) (hy : y.cls ≠ "java/lang/invoke/MethodHandle" ∧ y.cls ≠ "java/lang/invoke/VarHandle")
    {W9 : Nat} {Pre : Pt → Array Value → Prop} {Post : Pt → Array Value → Option Value → Pt → Prop} (hK : Back l R p e below s args y 3 W9 Pre Post)
    {b : Addr} {cellB : Cell} (hcell : T.heap[b]? = some cellB) (hobj : cellB.vm.isStatics = false) (hcls : s.vm.findClass C = some cellB.cls)
    {g : JFrame} (hg : g.method = m) (hsize : g.locals.size = c.maxLocals) {argsL rest : List Value} (hlen : ∀ sig, parseMethodDescriptor y.desc = some sig → argsL.length = sig.parameters.length)
    (hstack : g.stack = argsL.reverse ++ .ref b :: rest) (hW : 2 * g.monitorRoom + (rest.map fun v => v.category).sum ≤ W9) (hdg : decode c.code g.pc = .ok (.invokevirtual index, 3))
    (hpre : ∀ vm₁, s.WarmedH vm₁ → Pre ⟨T.setVm vm₁, locs, cells, slots⟩ (Value.ref b :: argsL).toArray) :
    ∃ (v : Option Value) (vm₁ : Vm) (B : Pt), s.WarmedH vm₁ ∧ Stand p l e R s m args below meth c B.U B.locs B.cells B.slots ∧ Post ⟨T.setVm vm₁, locs, cells, slots⟩ (Value.ref b :: argsL).toArray v B ∧
      ∀ target, Steps p.tables e below (B.U.setTop { g with pc := g.pc + 3, stack := v.toList ++ rest }) target → Steps p.tables e below (T.setTop g) target := by
  obtain ⟨mk, methM, hnamed, hmethM, hstM, habM⟩ := Cond.instanceMethod_spec hinst
  obtain ⟨m8, methM', cM, hn8, hmethM', -, -, -, -, -, -, hsigM⟩ := Cond.codeWith_spec hcode
  cases Option.some.inj (hn8.symm.trans hnamed)
  cases hmethM.symm.trans hmethM'
  obtain ⟨c2, r2, m2, q1, q2, q3, q4, kP, hkP, hkPi⟩ := Cond.selects_spec hsel
  cases hcls.symm.trans q1
  cases (State.methodFound?_of_named hnamed hy).symm.trans q2
  cases hnamed.symm.trans q3
  have hselP : selectMethod e.platform s.vm cellB.cls mk = .method mk := by rw [Launch.admits_selectMethod X.admits]; exact q4
  obtain ⟨vm₁, X₁, hstep₁⟩ := X.invokevirtual hexec hown hlink hnamed hmethM hstM hkP hkPi hy (a := b) (cell := cellB) hcell
    (fun z h => by rw [h] at hobj; cases hobj) hselP hmethM habM hkP hkPi (g := g) hg (argsL := argsL) (rest := rest) (hlen _ hsigM) hstack hdg
  obtain ⟨v, B, X', hpost, hsteps⟩ := hK m meth c ⟨T.setVm vm₁, locs, cells, slots⟩ { g with stack := rest } (.invokevirtual index) mk (Value.ref b :: argsL).toArray X₁ hg hsize hdg hW (X₁.named hnamed) (hpre vm₁ X₁.warmed)
  exact ⟨v, vm₁, B, X₁.warmed, X', hpost, fun target h => hstep₁ _ fun acts => by rw [doInvoke_state]; exact hsteps.trans h⟩
abbrev vx_CVW (R : Room) (s : State) (args : Array Value) (own C : String) (index : Nat) (y : MethodName) (bytes : ByteArray) (maxL : Nat) (ret : Option FieldType) (hh : List (Nat × Nat × Nat × Nat)) (ws : List Cond) (rm : Room) (mc ms n : Nat) : Prop :=
  (rm.cells = mc ∧ rm.slots = ms ∧ rm.frames + 1 ≤ R.frames ∧ 8 + (maxL + 11) + rm.locals ≤ R.locals ∧ (∀ w ∈ ws, ∀ (a' : Array Value) (U : State), s.WarmedH U.vm → w.before a' U = true) ∧ Cond.codeWith y bytes maxL ret hh ∈ ws) ∧
  (Cond.codeWith y bytes maxL ret hh).before args s = true ∧ (Cond.initialized y.cls).before args s = true ∧ (y.cls ≠ "java/lang/invoke/MethodHandle" ∧ y.cls ≠ "java/lang/invoke/VarHandle") ∧
  (∀ sig, parseMethodDescriptor y.desc = some sig → n = sig.parameters.length) ∧ (Cond.methodLink own index y).before args s = true ∧ (Cond.instanceMethod y).before args s = true ∧ (Cond.selects C y y).before args s = true
theorem vx_cwVW {own C : String} {index maxL mc ms : Nat} {y : MethodName} {bytes : ByteArray} {ret : Option FieldType} {hh : List (Nat × Nat × Nat × Nat)} {Ts ws ws' : List Cond} {rm : Room} (n : Nat) (ht : ∀ w ∈ Ts, w.before args s = true) (hT : GoodIn Ts (wsV own index C y ws)) (hw : ws = Cond.codeWith y bytes maxL ret hh :: ws') (hrc : rm.cells = mc) (hrs : rm.slots = ms)
    (hd : y.cls = C ∧ y.cls ≠ "java/lang/invoke/MethodHandle" ∧ y.cls ≠ "java/lang/invoke/VarHandle" ∧ (parseMethodDescriptor y.desc).map (fun d => d.parameters.length) = some n) (hR : rm.frames + 1 ≤ R.frames ∧ 8 + (maxL + 11) + rm.locals ≤ R.locals) :
    vx_CVW R s args own C index y bytes maxL ret hh ws rm mc ms n := by
  obtain ⟨hC, hd⟩ := hd
  subst hC
  have ok : ∀ w ∈ wsV own index y.cls y ws, w.before args s = true := fun w h => ht w (hT w h).1
  have hG : GoodIn Ts ws := fun w h => hT w (by unfold wsV; exact List.mem_append_right _ h)
  have hc : Cond.codeWith y bytes maxL ret hh ∈ ws := by rw [hw]; exact List.mem_cons_self
  refine ⟨⟨hrc, hrs, hR.1, hR.2, pay_in ht hG, hc⟩, ht _ (hG _ hc).1, ok _ (by simp [wsV]), ⟨hd.1, hd.2.1⟩, fun sig h => ?_, ok _ (by simp [wsV]), ok _ (by simp [wsV]), ok _ (by simp [wsV])⟩
  have h2 := hd.2.2
  rw [h] at h2
  exact (Option.some.inj h2).symm
theorem vx_runVW {y : MethodName} {bytes cc : ByteArray} {maxL nL mc ms n index : Nat} {ret : Option FieldType} {hh : List (Nat × Nat × Nat × Nat)} {ws : List Cond} {rm : Room} {Pc : Array Value → State → Prop} {Qc : Array Value → State → Outcome → State → Prop} {free : Addr → Prop} {Ts : List Cond} {own C : String} {b : Addr} {As rest : List Value} {g : JFrame}
    (S : CallFix p m c cc nL s args Ts own) (hM : Met l y ws rm Pc Qc mc ms free) (cw : vx_CVW R s args own C index y bytes maxL ret hh ws rm mc ms n) (hp : PreV s H C b Pc As)
    (hg : g.method = m) (hn : As.length = n) (hsize : g.locals.size = nL) (hstack : g.stack = As.reverse ++ .ref b :: rest) (hW : 2 * g.monitorRoom + (rest.map fun v => v.category).sum ≤ 8) (hdg : decode cc g.pc = .ok (.invokevirtual index, 3)) (hf : cells + mc ≤ R.cells ∧ slots + ms ≤ R.slots) :
    va_Run p l e R s m args below meth c H locs cells slots mc ms g rest (Qc (Value.ref b :: As).toArray) free := by
  obtain ⟨⟨hrc, hrs, hfr, hlo, hws, hcw⟩, hcode, hini, hy, hlen, hl, hin, hse⟩ := cw
  have hK : Back l R p e below s args y 3 8 (PreOf R mc ms Pc) (PostOf Qc mc ms free) := va_backW (hh := hh) (bytes := bytes) (maxL := maxL) (ret := ret) hM hp.1 hrc hrs hfr hlo hws hcw (fun a' U hW => word_at hW (Or.inl (by first | rfl | simp [Cond.onTables, Cond.keeps, Cond.steady])) hini)
  obtain ⟨hx, hb, hml, ho, -⟩ := S
  obtain ⟨-, ⟨cellB, hcB, hoB, hclB⟩, hPc⟩ := hp
  intro T hT X
  obtain ⟨v, vm₁, ⟨U', l2, c2, s2⟩, hW₁, X', ⟨g', mk, t, L, e1, e2, hq, h1, hL, h2, h3⟩, st⟩ := vx_callVW X hx (C := C) (hh := hh) (bytes := bytes) (maxL := maxL) (ret := ret) ho hl hin hse hcode hy hK (by rw [hT]; exact hcB) hoB hclB hg (hsize.trans hml.symm) (argsL := As) (rest := rest) (fun sig h => hn.trans (hlen sig h)) hstack hW (by rw [hb]; exact hdg)
    (fun vm₁ hW₁ => ⟨hf.1, hf.2, hPc (T.setVm vm₁) hT hW₁⟩)
  dsimp only [Pt.U, Pt.locs, Pt.cells, Pt.slots] at X' e1 e2 h1 h2 h3 st
  subst h1; subst h2; subst h3
  exact ⟨v, (T.setVm vm₁).calling g' mk (Value.ref b :: As).toArray, t, U', L, hT, X', hL, e1, e2, hq, st⟩
section
variable {y : MethodName} {bytes cc : ByteArray} {maxL nL mc ms n index : Nat} {ret : Option FieldType} {ws : List Cond} {rm : Room} {Pc : Array Value → State → Prop} {Qc : Array Value → State → Outcome → State → Prop} {XC : String → State → State → Prop} {free : Addr → Prop} {Ts : List Cond} {own C : String} {b : Addr} {As rest : List Value} {g : JFrame}
theorem vx_runVX {hh : List (Nat × Nat × Nat × Nat)} (S : CallFix p m c cc nL s args Ts own) (hM : vx_Met l y ws rm Pc Qc XC mc ms free) (cw : vx_CVW R s args own C index y bytes maxL ret hh ws rm mc ms n) (hp : PreV s H C b Pc As)
    (hg : g.method = m) (hn : As.length = n) (hsize : g.locals.size = nL) (hstack : g.stack = As.reverse ++ .ref b :: rest) (hW : 2 * g.monitorRoom + (rest.map fun v => v.category).sum ≤ 8) (hdg : decode cc g.pc = .ok (.invokevirtual index, 3)) (hf : cells + mc ≤ R.cells ∧ slots + ms ≤ R.slots) :
    vx_Run p l e R s m args below meth c H locs cells slots mc ms g rest (Qc (Value.ref b :: As).toArray) XC free := by
  obtain ⟨⟨hrc, hrs, hfr, hlo, hws, hcw⟩, hcode, hini, hy, hlen, hl, hin, hse⟩ := cw
  have hK : vx_Back l R p e below s args y 3 8 (PreOf R mc ms Pc) (PostOf Qc mc ms free) (vx_Post XC mc ms free) := vx_backW (hh := hh) (bytes := bytes) (maxL := maxL) (ret := ret) hM hp.1 hrc hrs hfr hlo hws hcw (fun a' U hW => word_at hW (Or.inl (by first | rfl | simp [Cond.onTables, Cond.keeps, Cond.steady])) hini)
  obtain ⟨hx, hb, hml, ho, -⟩ := S
  obtain ⟨-, ⟨cellB, hcB, hoB, hclB⟩, hPc⟩ := hp
  intro T hT X
  rcases vx_callVX X hx (C := C) (hh := hh) (bytes := bytes) (maxL := maxL) (ret := ret) ho hl hin hse hcode hy hK (by rw [hT]; exact hcB) hoB hclB hg (hsize.trans hml.symm) (argsL := As) (rest := rest) (fun sig h => hn.trans (hlen sig h)) hstack hW (by rw [hb]; exact hdg)
    (fun vm₁ hW₁ => ⟨hf.1, hf.2, hPc (T.setVm vm₁) hT hW₁⟩) with ⟨v, vm₁, ⟨U', l2, c2, s2⟩, hW₁, X', ⟨g', mk, t, L, e1, e2, hq, h1, hL, h2, h3⟩, st⟩ | ⟨q, vm₁, ⟨U', l2, c2, s2⟩, hW₁, X', ⟨g', mk, t, L, E, ce, e1, e2, hq, hce, hcv, hcl, h1, hL, h2, h3⟩, st⟩
  · dsimp only [Pt.U, Pt.locs, Pt.cells, Pt.slots] at X' e1 e2 h1 h2 h3 st
    subst h1; subst h2; subst h3
    exact Or.inl ⟨v, (T.setVm vm₁).calling g' mk (Value.ref b :: As).toArray, t, U', L, hT, X', hL, e1, e2, hq, st⟩
  · dsimp only [Pt.U, Pt.locs, Pt.cells, Pt.slots] at X' e1 e2 h1 h2 h3 st hcl
    subst h1; subst h2; subst h3
    exact Or.inr ⟨q, (T.setVm vm₁).calling g' mk (Value.ref b :: As).toArray, t, U', L, E, ce, hT, X', hL, e1, e2, hq, hce, hcv, vx_cls hW₁ hcl, st⟩
theorem vx_runSX {hh : List (Nat × Nat × Nat × Nat)} (S : CallFix p m c cc nL s args Ts own) (hM : vx_Met l y ws rm Pc Qc XC mc ms free) (cw : vx_CSW R s args own index y bytes maxL ret hh ws rm mc ms n) (hp : PreS s H Pc As)
    (hg : g.method = m) (hn : As.length = n) (hsize : g.locals.size = nL) (hstack : g.stack = As.reverse ++ rest) (hW : 2 * g.monitorRoom + (rest.map fun v => v.category).sum ≤ 8) (hdg : decode cc g.pc = .ok (.invokestatic index, 3)) (hf : cells + mc ≤ R.cells ∧ slots + ms ≤ R.slots) :
    vx_Run p l e R s m args below meth c H locs cells slots mc ms g rest (Qc As.toArray) XC free := by
  obtain ⟨⟨hrc, hrs, hfr, hlo, hws, hcw⟩, hcode, hini, hy, hlen, hl, hstt⟩ := cw
  have hK : vx_Back l R p e below s args y 3 8 (PreOf R mc ms Pc) (PostOf Qc mc ms free) (vx_Post XC mc ms free) := vx_backW (hh := hh) (bytes := bytes) (maxL := maxL) (ret := ret) hM hp.1 hrc hrs hfr hlo hws hcw (fun a' U hW => word_at hW (Or.inl (by first | rfl | simp [Cond.onTables, Cond.keeps, Cond.steady])) hini)
  obtain ⟨hx, hb, hml, ho, -⟩ := S
  intro T hT X
  rcases vx_callSX X hx (hh := hh) (bytes := bytes) (maxL := maxL) (ret := ret) ho hl hstt hini hcode hy hK hg (hsize.trans hml.symm) (argsL := As) (rest := rest) (fun sig h => hn.trans (hlen sig h)) hstack hW (by rw [hb]; exact hdg)
    (fun vm₁ hW₁ => ⟨hf.1, hf.2, hp.2 (T.setVm vm₁) hT hW₁⟩) with ⟨v, vm₁, ⟨U', l2, c2, s2⟩, hW₁, X', ⟨g', mk, t, L, e1, e2, hq, h1, hL, h2, h3⟩, st⟩ | ⟨q, vm₁, ⟨U', l2, c2, s2⟩, hW₁, X', ⟨g', mk, t, L, E, ce, e1, e2, hq, hce, hcv, hcl, h1, hL, h2, h3⟩, st⟩
  · dsimp only [Pt.U, Pt.locs, Pt.cells, Pt.slots] at X' e1 e2 h1 h2 h3 st
    subst h1; subst h2; subst h3
    exact Or.inl ⟨v, (T.setVm vm₁).calling g' mk As.toArray, t, U', L, hT, X', hL, e1, e2, hq, st⟩
  · dsimp only [Pt.U, Pt.locs, Pt.cells, Pt.slots] at X' e1 e2 h1 h2 h3 st hcl
    subst h1; subst h2; subst h3
    exact Or.inr ⟨q, (T.setVm vm₁).calling g' mk As.toArray, t, U', L, E, ce, hT, X', hL, e1, e2, hq, hce, hcv, vx_cls hW₁ hcl, st⟩
end
end VXH
theorem vx_ofWH {l : Launch} {y : MethodName} {ws ws' : List Cond} {rm : Room} {Pc : Array Value → State → Prop} {Qc : Array Value → State → Outcome → State → Prop} {XC : String → State → State → Prop} {mc ms : Nat} {free : Addr → Prop} {cc : ByteArray} {maxL : Nat} {ret : Option FieldType} {hh : List (Nat × Nat × Nat × Nat)}
    (hy : plainName y.cls = true) (hw : ws = Cond.codeWith y cc maxL ret hh :: ws')
    (body : ∀ p e s m args below meth c s₁, BodyLoose p l y (headSpec ws rm) cc maxL ret e s m args below meth c s₁ → c.maxLocals = maxL → Pc args s →
      W p l e (headSpec ws rm).room s m args below meth c s.heap [] 0 0 (vx_MQ below Qc XC args s mc ms free) (entryFrame m args maxL)) : vx_Met l y ws rm Pc Qc XC mc ms free := by
  refine MetFree.of_bodyS (code := cc) (maxLocals := maxL) (ret := ret) hy ?_ ?_
  · intro args s m h hn
    obtain ⟨m9, meth, c, hn9, h1, h2, h3, h4, -, h5, h6, -⟩ := Cond.codeWith_spec (atoms_spec (ws := ws) h _ (by rw [hw]; exact List.mem_cons_self))
    cases hn.symm.trans hn9
    exact ⟨meth, c, h1, h2, h3, h4, h5, h6⟩
  · intro p e s m args below meth c s₁ B hml hP _
    have hh0 : s₁.heap = s.heap := by rw [B.state]; rfl
    obtain ⟨t, a1, o, b1, b2, b3⟩ := body p e s m args below meth c s₁ B hml hP s₁ hh0 (Stand.of_body B)
    exact ⟨t, o, a1, b1, b2, b3⟩
/-! ===== END ===== -/
end
section
-- own names: classes, fields, methods, the words of the tables that stay (by wip/gen/names.py)
def rP : String := "ShortenPrograms$Program"
def rA : String := "ShortenPrograms$Ask"
def rM : String := "ShortenPrograms$Memory"
def rW : String := "ShortenPrograms$Walk"
def rS : String := "ShortenPrograms"
def rD : String := "ShortenProgramsModel"
def rL : String := "ShortenProgramsLaw"
def tP : u_T := fun k => match k with
  | 0 => ("ShortenPrograms$Program", "words", "[I", true)
  | 1 => ("ShortenPrograms$Program", "origins", "[I", true)
  | _ => ("ShortenPrograms$Program", "length", "I", false)
def tyP : Nat → FieldType := fun k => match k with
  | 0 => .array .int
  | 1 => .array .int
  | _ => .int
theorem nmP : ∀ a, a < 3 → ∀ b, b < 3 → a ≠ b → (tP a).2.1 ≠ (tP b).2.1 := by decide +kernel
theorem tyP_ok : ∀ k, k < 3 → parseFieldDescriptor (tP k).2.2.1 = some (tyP k) := by decide +kernel
def tA : u_T := fun k => match k with
  | 0 => ("ShortenPrograms$Ask", "program", "LShortenPrograms$Program;", true)
  | 1 => ("ShortenPrograms$Ask", "mark", "I", false)
  | _ => ("ShortenPrograms$Ask", "answer", "I", false)
def tyA : Nat → FieldType := fun k => match k with
  | 0 => .object "ShortenPrograms$Program"
  | 1 => .int
  | _ => .int
theorem nmA : ∀ a, a < 3 → ∀ b, b < 3 → a ≠ b → (tA a).2.1 ≠ (tA b).2.1 := by decide +kernel
theorem tyA_ok : ∀ k, k < 3 → parseFieldDescriptor (tA k).2.2.1 = some (tyA k) := by decide +kernel
def tM : u_T := fun k => match k with
  | 0 => ("ShortenPrograms$Memory", "asks", "[LShortenPrograms$Ask;", true)
  | _ => ("ShortenPrograms$Memory", "filled", "I", false)
def tyM : Nat → FieldType := fun k => match k with
  | 0 => .array (.object "ShortenPrograms$Ask")
  | _ => .int
theorem nmM : ∀ a, a < 2 → ∀ b, b < 2 → a ≠ b → (tM a).2.1 ≠ (tM b).2.1 := by decide +kernel
theorem tyM_ok : ∀ k, k < 2 → parseFieldDescriptor (tM k).2.2.1 = some (tyM k) := by decide +kernel
def tW : u_T := fun k => match k with
  | 0 => ("ShortenPrograms$Walk", "step", "I", false)
  | 1 => ("ShortenPrograms$Walk", "piece", "I", false)
  | 2 => ("ShortenPrograms$Walk", "place", "I", false)
  | 3 => ("ShortenPrograms$Walk", "someLeftOut", "Z", false)
  | 4 => ("ShortenPrograms$Walk", "wordPlace", "I", false)
  | 5 => ("ShortenPrograms$Walk", "bytePlace", "I", false)
  | 6 => ("ShortenPrograms$Walk", "someLowered", "Z", false)
  | _ => ("ShortenPrograms$Walk", "timesLeaving", "I", false)
def tyW : Nat → FieldType := fun k => match k with
  | 0 => .int
  | 1 => .int
  | 2 => .int
  | 3 => .boolean
  | 4 => .int
  | 5 => .int
  | 6 => .boolean
  | _ => .int
theorem nmW : ∀ a, a < 8 → ∀ b, b < 8 → a ≠ b → (tW a).2.1 ≠ (tW b).2.1 := by decide +kernel
theorem tyW_ok : ∀ k, k < 8 → parseFieldDescriptor (tW k).2.2.1 = some (tyW k) := by decide +kernel
def tS : u_T := fun k => match k with
  | 0 => ("ShortenPrograms", "budget", "I", true)
  | 1 => ("ShortenPrograms", "current", "LShortenPrograms$Program;", true)
  | 2 => ("ShortenPrograms", "candidate", "LShortenPrograms$Program;", true)
  | 3 => ("ShortenPrograms", "memory", "LShortenPrograms$Memory;", true)
  | 4 => ("ShortenPrograms", "walk", "LShortenPrograms$Walk;", true)
  | 5 => ("ShortenPrograms", "state", "I", false)
  | 6 => ("ShortenPrograms", "theDifference", "I", false)
  | 7 => ("ShortenPrograms", "remembered", "I", false)
  | 8 => ("ShortenPrograms", "good", "I", false)
  | 9 => ("ShortenPrograms", "leftOut", "I", false)
  | _ => ("ShortenPrograms", "lowered", "I", false)
def tyS : Nat → FieldType := fun k => match k with
  | 0 => .int
  | 1 => .object "ShortenPrograms$Program"
  | 2 => .object "ShortenPrograms$Program"
  | 3 => .object "ShortenPrograms$Memory"
  | 4 => .object "ShortenPrograms$Walk"
  | 5 => .int
  | 6 => .int
  | 7 => .int
  | 8 => .int
  | 9 => .int
  | _ => .int
theorem nmS : ∀ a, a < 11 → ∀ b, b < 11 → a ≠ b → (tS a).2.1 ≠ (tS b).2.1 := by decide +kernel
theorem tyS_ok : ∀ k, k < 11 → parseFieldDescriptor (tS k).2.2.1 = some (tyS k) := by decide +kernel
def tD : u_T := fun k => match k with
  | 0 => ("ShortenProgramsModel", "thrown", "I", false)
  | 1 => ("ShortenProgramsModel", "budget", "I", true)
  | 2 => ("ShortenProgramsModel", "state", "I", false)
  | 3 => ("ShortenProgramsModel", "size", "I", false)
  | 4 => ("ShortenProgramsModel", "word", "[I", true)
  | 5 => ("ShortenProgramsModel", "origin", "[I", true)
  | 6 => ("ShortenProgramsModel", "candSize", "I", false)
  | 7 => ("ShortenProgramsModel", "cand", "[I", true)
  | 8 => ("ShortenProgramsModel", "isFirst", "Z", false)
  | 9 => ("ShortenProgramsModel", "isLowering", "Z", false)
  | 10 => ("ShortenProgramsModel", "someGood", "Z", false)
  | 11 => ("ShortenProgramsModel", "wasLowered", "Z", false)
  | 12 => ("ShortenProgramsModel", "piece", "I", false)
  | 13 => ("ShortenProgramsModel", "place", "I", false)
  | 14 => ("ShortenProgramsModel", "atWord", "I", false)
  | 15 => ("ShortenProgramsModel", "atByte", "I", false)
  | 16 => ("ShortenProgramsModel", "how", "I", false)
  | 17 => ("ShortenProgramsModel", "difference", "I", false)
  | 18 => ("ShortenProgramsModel", "asks", "I", false)
  | 19 => ("ShortenProgramsModel", "askedSize", "[I", true)
  | 20 => ("ShortenProgramsModel", "askedWord", "[I", true)
  | 21 => ("ShortenProgramsModel", "answer", "[I", true)
  | 22 => ("ShortenProgramsModel", "remembered", "I", false)
  | 23 => ("ShortenProgramsModel", "good", "I", false)
  | 24 => ("ShortenProgramsModel", "leftOut", "I", false)
  | 25 => ("ShortenProgramsModel", "lowered", "I", false)
  | _ => ("ShortenProgramsModel", "begun", "I", false)
def tyD : Nat → FieldType := fun k => match k with
  | 0 => .int
  | 1 => .int
  | 2 => .int
  | 3 => .int
  | 4 => .array .int
  | 5 => .array .int
  | 6 => .int
  | 7 => .array .int
  | 8 => .boolean
  | 9 => .boolean
  | 10 => .boolean
  | 11 => .boolean
  | 12 => .int
  | 13 => .int
  | 14 => .int
  | 15 => .int
  | 16 => .int
  | 17 => .int
  | 18 => .int
  | 19 => .array .int
  | 20 => .array .int
  | 21 => .array .int
  | 22 => .int
  | 23 => .int
  | 24 => .int
  | 25 => .int
  | _ => .int
theorem nmD : ∀ a, a < 27 → ∀ b, b < 27 → a ≠ b → (tD a).2.1 ≠ (tD b).2.1 := by decide +kernel
theorem tyD_ok : ∀ k, k < 27 → parseFieldDescriptor (tD k).2.2.1 = some (tyD k) := by decide +kernel
abbrev vwCl : List vw_C := [(rP, tP, 3), (rA, tA, 3), (rM, tM, 2), (rW, tW, 8), (rS, tS, 11), (rD, tD, 27)]
abbrev cS_init : ByteArray := prog_1_method_1_code
def yS_init : MethodName := ⟨rS, "<init>", "(I)V"⟩
abbrev cP_init : ByteArray := prog_4_method_1_code
def yP_init : MethodName := ⟨rP, "<init>", "()V"⟩
abbrev cM_init : ByteArray := prog_3_method_1_code
def yM_init : MethodName := ⟨rM, "<init>", "()V"⟩
abbrev cW_init : ByteArray := prog_5_method_1_code
def yW_init : MethodName := ⟨rW, "<init>", "()V"⟩
abbrev cS_count : ByteArray := prog_1_method_10_code
def yS_count : MethodName := ⟨rS, "count", "(I)I"⟩
abbrev cP_length : ByteArray := prog_4_method_2_code
def yP_length : MethodName := ⟨rP, "length", "()I"⟩
abbrev cM_filled : ByteArray := prog_3_method_2_code
def yM_filled : MethodName := ⟨rM, "filled", "()I"⟩
abbrev cW_timesLeaving : ByteArray := prog_5_method_2_code
def yW_timesLeaving : MethodName := ⟨rW, "timesLeaving", "()I"⟩
abbrev cL_cell : ByteArray := method_2_code
def yL_cell : MethodName := ⟨rL, "cell", "([II)I"⟩
abbrev cL_feed : ByteArray := method_3_code
def yL_feed : MethodName := ⟨rL, "feed", "(LShortenPrograms;I[J)I"⟩
abbrev cS_feed : ByteArray := prog_1_method_2_code
def yS_feed : MethodName := ⟨rS, "feed", "(I)I"⟩
abbrev cS_startAfresh : ByteArray := prog_1_method_11_code
def yS_startAfresh : MethodName := ⟨rS, "startAfresh", "()V"⟩
abbrev cP_clear : ByteArray := prog_4_method_7_code
def yP_clear : MethodName := ⟨rP, "clear", "()V"⟩
abbrev cM_clear : ByteArray := prog_3_method_3_code
def yM_clear : MethodName := ⟨rM, "clear", "()V"⟩
abbrev cW_clear : ByteArray := prog_5_method_4_code
def yW_clear : MethodName := ⟨rW, "clear", "()V"⟩
abbrev cP_isFull : ByteArray := prog_4_method_3_code
def yP_isFull : MethodName := ⟨rP, "isFull", "()Z"⟩
abbrev cP_append : ByteArray := prog_4_method_8_code
def yP_append : MethodName := ⟨rP, "append", "(I)V"⟩
abbrev cL_begin : ByteArray := method_4_code
def yL_begin : MethodName := ⟨rL, "begin", "(LShortenPrograms;)I"⟩
abbrev cS_begin : ByteArray := prog_1_method_3_code
def yS_begin : MethodName := ⟨rS, "begin", "()V"⟩
abbrev cM_keep : ByteArray := prog_3_method_4_code
def yM_keep : MethodName := ⟨rM, "keep", "(LShortenPrograms$Program;)V"⟩
abbrev cA_init : ByteArray := prog_2_method_1_code
def yA_init : MethodName := ⟨rA, "<init>", "()V"⟩
abbrev cA_open : ByteArray := prog_2_method_5_code
def yA_open : MethodName := ⟨rA, "open", "(LShortenPrograms$Program;)V"⟩
abbrev cP_copy : ByteArray := prog_4_method_9_code
def yP_copy : MethodName := ⟨rP, "copy", "(LShortenPrograms$Program;)V"⟩
abbrev cP_mark : ByteArray := prog_4_method_15_code
def yP_mark : MethodName := ⟨rP, "mark", "()I"⟩
abbrev cL_asked : ByteArray := method_5_code
def yL_asked : MethodName := ⟨rL, "asked", "(LShortenPrograms;I[J)I"⟩
abbrev cS_asked : ByteArray := prog_1_method_4_code
def yS_asked : MethodName := ⟨rS, "asked", "(I)I"⟩
abbrev cS_openAsk : ByteArray := prog_1_method_12_code
def yS_openAsk : MethodName := ⟨rS, "openAsk", "()LShortenPrograms$Ask;"⟩
abbrev cM_last : ByteArray := prog_3_method_5_code
def yM_last : MethodName := ⟨rM, "last", "()LShortenPrograms$Ask;"⟩
abbrev cA_program : ByteArray := prog_2_method_2_code
def yA_program : MethodName := ⟨rA, "program", "()LShortenPrograms$Program;"⟩
abbrev cP_has : ByteArray := prog_4_method_4_code
def yP_has : MethodName := ⟨rP, "has", "(I)Z"⟩
abbrev cP_word : ByteArray := prog_4_method_5_code
def yP_word : MethodName := ⟨rP, "word", "(I)I"⟩
abbrev cL_size : ByteArray := method_6_code
def yL_size : MethodName := ⟨rL, "size", "(LShortenPrograms;[J)I"⟩
abbrev cS_size : ByteArray := prog_1_method_5_code
def yS_size : MethodName := ⟨rS, "size", "()I"⟩
abbrev cL_judge : ByteArray := method_7_code
def yL_judge : MethodName := ⟨rL, "judge", "(LShortenPrograms;I[J)I"⟩
abbrev cS_judge : ByteArray := prog_1_method_6_code
def yS_judge : MethodName := ⟨rS, "judge", "(I)I"⟩
abbrev cA_setAnswer : ByteArray := prog_2_method_4_code
def yA_setAnswer : MethodName := ⟨rA, "setAnswer", "(I)V"⟩
abbrev cS_takeFirst : ByteArray := prog_1_method_13_code
def yS_takeFirst : MethodName := ⟨rS, "takeFirst", "(I)V"⟩
abbrev cW_startLeaving : ByteArray := prog_5_method_5_code
def yW_startLeaving : MethodName := ⟨rW, "startLeaving", "(I)V"⟩
abbrev cW_startGoingThrough : ByteArray := prog_5_method_6_code
def yW_startGoingThrough : MethodName := ⟨rW, "startGoingThrough", "(I)V"⟩
abbrev cS_take : ByteArray := prog_1_method_14_code
def yS_take : MethodName := ⟨rS, "take", "(I)V"⟩
abbrev cW_passOver : ByteArray := prog_5_method_14_code
def yW_passOver : MethodName := ⟨rW, "passOver", "()V"⟩
abbrev cW_nextByte : ByteArray := prog_5_method_15_code
def yW_nextByte : MethodName := ⟨rW, "nextByte", "()V"⟩
abbrev cW_change : ByteArray := prog_5_method_12_code
def yW_change : MethodName := ⟨rW, "change", "(LShortenPrograms$Program;)V"⟩
abbrev cP_leaveOut : ByteArray := prog_4_method_10_code
def yP_leaveOut : MethodName := ⟨rP, "leaveOut", "(II)V"⟩
abbrev cP_byteOf : ByteArray := prog_4_method_11_code
def yP_byteOf : MethodName := ⟨rP, "byteOf", "(II)I"⟩
abbrev cP_shift : ByteArray := prog_4_method_13_code
def yP_shift : MethodName := ⟨rP, "shift", "(I)I"⟩
abbrev cW_lowerValue : ByteArray := prog_5_method_11_code
def yW_lowerValue : MethodName := ⟨rW, "lowerValue", "(I)I"⟩
abbrev cP_setByte : ByteArray := prog_4_method_12_code
def yP_setByte : MethodName := ⟨rP, "setByte", "(III)V"⟩
abbrev cW_isLowering : ByteArray := prog_5_method_3_code
def yW_isLowering : MethodName := ⟨rW, "isLowering", "()Z"⟩
abbrev cW_goOn : ByteArray := prog_5_method_13_code
def yW_goOn : MethodName := ⟨rW, "goOn", "()V"⟩
abbrev cS_askNext : ByteArray := prog_1_method_15_code
def yS_askNext : MethodName := ⟨rS, "askNext", "()V"⟩
abbrev cW_findChange : ByteArray := prog_5_method_8_code
def yW_findChange : MethodName := ⟨rW, "findChange", "(LShortenPrograms$Program;)Z"⟩
abbrev cW_endGoingThrough : ByteArray := prog_5_method_9_code
def yW_endGoingThrough : MethodName := ⟨rW, "endGoingThrough", "()V"⟩
abbrev cW_startLowering : ByteArray := prog_5_method_7_code
def yW_startLowering : MethodName := ⟨rW, "startLowering", "()V"⟩
abbrev cW_canLower : ByteArray := prog_5_method_10_code
def yW_canLower : MethodName := ⟨rW, "canLower", "(I)Z"⟩
abbrev cM_find : ByteArray := prog_3_method_6_code
def yM_find : MethodName := ⟨rM, "find", "(LShortenPrograms$Program;)LShortenPrograms$Ask;"⟩
abbrev cA_isOf : ByteArray := prog_2_method_6_code
def yA_isOf : MethodName := ⟨rA, "isOf", "(LShortenPrograms$Program;I)Z"⟩
abbrev cP_hasSameWords : ByteArray := prog_4_method_14_code
def yP_hasSameWords : MethodName := ⟨rP, "hasSameWords", "(LShortenPrograms$Program;)Z"⟩
abbrev cS_ask : ByteArray := prog_1_method_16_code
def yS_ask : MethodName := ⟨rS, "ask", "()V"⟩
abbrev cA_answer : ByteArray := prog_2_method_3_code
def yA_answer : MethodName := ⟨rA, "answer", "()I"⟩
abbrev cL_at : ByteArray := method_8_code
def yL_at : MethodName := ⟨rL, "at", "(LShortenPrograms;I[J)I"⟩
abbrev cS_at : ByteArray := prog_1_method_7_code
def yS_at : MethodName := ⟨rS, "at", "(I)I"⟩
abbrev cL_from : ByteArray := method_9_code
def yL_from : MethodName := ⟨rL, "from", "(LShortenPrograms;I[J)I"⟩
abbrev cS_from : ByteArray := prog_1_method_8_code
def yS_from : MethodName := ⟨rS, "from", "(I)I"⟩
abbrev cP_origin : ByteArray := prog_4_method_6_code
def yP_origin : MethodName := ⟨rP, "origin", "(I)I"⟩
abbrev cL_known : ByteArray := method_10_code
def yL_known : MethodName := ⟨rL, "known", "(LShortenPrograms;IIII[J)I"⟩
abbrev cS_known : ByteArray := prog_1_method_9_code
def yS_known : MethodName := ⟨rS, "known", "(IIII)I"⟩
abbrev cD_init : ByteArray := prog_7_method_1_code
def yD_init : MethodName := ⟨rD, "<init>", "(I)V"⟩
abbrev cD_thrown : ByteArray := prog_7_method_2_code
def yD_thrown : MethodName := ⟨rD, "thrown", "()I"⟩
abbrev cD_feed : ByteArray := prog_7_method_5_code
def yD_feed : MethodName := ⟨rD, "feed", "(I)I"⟩
abbrev cD_fail : ByteArray := prog_7_method_3_code
def yD_fail : MethodName := ⟨rD, "fail", "(I)I"⟩
abbrev cD_begin : ByteArray := prog_7_method_22_code
def yD_begin : MethodName := ⟨rD, "begin", "()V"⟩
abbrev cD_without : ByteArray := prog_7_method_8_code
def yD_without : MethodName := ⟨rD, "without", "(II)V"⟩
abbrev cD_put : ByteArray := prog_7_method_21_code
def yD_put : MethodName := ⟨rD, "put", "()V"⟩
abbrev cD_judge : ByteArray := prog_7_method_23_code
def yD_judge : MethodName := ⟨rD, "judge", "(I)I"⟩
abbrev cD_beginLeaving : ByteArray := prog_7_method_12_code
def yD_beginLeaving : MethodName := ⟨rD, "beginLeaving", "(I)V"⟩
abbrev cD_answered : ByteArray := prog_7_method_19_code
def yD_answered : MethodName := ⟨rD, "answered", "(I)V"⟩
abbrev cD_takeLeaving : ByteArray := prog_7_method_17_code
def yD_takeLeaving : MethodName := ⟨rD, "takeLeaving", "()V"⟩
abbrev cD_takeLowering : ByteArray := prog_7_method_18_code
def yD_takeLowering : MethodName := ⟨rD, "takeLowering", "()V"⟩
abbrev cD_nextByte : ByteArray := prog_7_method_14_code
def yD_nextByte : MethodName := ⟨rD, "nextByte", "()V"⟩
abbrev cD_goOn : ByteArray := prog_7_method_20_code
def yD_goOn : MethodName := ⟨rD, "goOn", "()V"⟩
abbrev cD_prepare : ByteArray := prog_7_method_16_code
def yD_prepare : MethodName := ⟨rD, "prepare", "()Z"⟩
abbrev cD_endPass : ByteArray := prog_7_method_15_code
def yD_endPass : MethodName := ⟨rD, "endPass", "()V"⟩
abbrev cD_beginLowering : ByteArray := prog_7_method_13_code
def yD_beginLowering : MethodName := ⟨rD, "beginLowering", "()V"⟩
abbrev cD_lowerTo : ByteArray := prog_7_method_11_code
def yD_lowerTo : MethodName := ⟨rD, "lowerTo", "()I"⟩
abbrev cD_byteOf : ByteArray := prog_7_method_10_code
def yD_byteOf : MethodName := ⟨rD, "byteOf", "(II)I"⟩
abbrev cD_withByte : ByteArray := prog_7_method_9_code
def yD_withByte : MethodName := ⟨rD, "withByte", "(III)V"⟩
abbrev cD_find : ByteArray := prog_7_method_7_code
def yD_find : MethodName := ⟨rD, "find", "()I"⟩
abbrev cD_isAsked : ByteArray := prog_7_method_6_code
def yD_isAsked : MethodName := ⟨rD, "isAsked", "(I)Z"⟩
abbrev cD_asked : ByteArray := prog_7_method_24_code
def yD_asked : MethodName := ⟨rD, "asked", "(I)I"⟩
abbrev cD_within : ByteArray := prog_7_method_4_code
def yD_within : MethodName := ⟨rD, "within", "(III)Z"⟩
abbrev cD_size : ByteArray := prog_7_method_25_code
def yD_size : MethodName := ⟨rD, "size", "()I"⟩
abbrev cD_at : ByteArray := prog_7_method_26_code
def yD_at : MethodName := ⟨rD, "at", "(I)I"⟩
abbrev cD_from : ByteArray := prog_7_method_27_code
def yD_from : MethodName := ⟨rD, "from", "(I)I"⟩
abbrev cD_known : ByteArray := prog_7_method_28_code
def yD_known : MethodName := ⟨rD, "known", "(IIII)I"⟩
abbrev cD_count : ByteArray := prog_7_method_29_code
def yD_count : MethodName := ⟨rD, "count", "(I)I"⟩
abbrev cL_law : ByteArray := code
def wA_0 : List Cond := [.initialized "ShortenProgramsLaw", .initialized "ShortenPrograms", .initialized "java/lang/Math", .initialized "ShortenPrograms$Program", .initialized "ShortenPrograms$Memory", .initialized "ShortenPrograms$Walk", .initialized "ShortenProgramsModel", .initialized "java/lang/Throwable", .initialized "java/lang/Exception", .initialized "java/lang/RuntimeException", .initialized "java/lang/UnsupportedOperationException", .initialized "java/lang/IllegalStateException", .initialized "ShortenPrograms$Ask", .initialized "java/lang/IndexOutOfBoundsException", .initialized "java/lang/IllegalArgumentException", .classLink "ShortenProgramsLaw" 8 "ShortenPrograms", .instantiable "ShortenPrograms" 11, .methodLink "ShortenProgramsLaw" 50 yS_init, .instanceMethod yS_init, .code yS_init prog_1_method_1_code 2 none, .methodLink "ShortenPrograms" 1 ⟨"java/lang/Object", "<init>", "()V"⟩, .instanceMethod ⟨"java/lang/Object", "<init>", "()V"⟩, .code ⟨"java/lang/Object", "<init>", "()V"⟩ object_method_1_code 1 none, .constantLong "ShortenPrograms" 9 (600), .methodLink "ShortenPrograms" 11 ⟨"java/lang/Math", "floorMod", "(JJ)J"⟩, .static ⟨"java/lang/Math", "floorMod", "(JJ)J"⟩, .code ⟨"java/lang/Math", "floorMod", "(JJ)J"⟩ prog_12_method_52_code 6 (some .long), .classLink "ShortenPrograms" 21 "ShortenPrograms$Program", .instantiable "ShortenPrograms$Program" 3, .instanceMethod yP_init, .code yP_init prog_4_method_1_code 1 none, .methodLink "ShortenPrograms$Program" 3 ⟨"java/lang/Object", "<init>", "()V"⟩, .fieldLink "ShortenPrograms$Program" 9 "ShortenPrograms$Program" "words" "[I", .fieldLink "ShortenPrograms$Program" 15 "ShortenPrograms$Program" "origins" "[I", .fieldLink "ShortenPrograms$Program" 18 "ShortenPrograms$Program" "length" "I", .laysFinal "ShortenPrograms$Program" "ShortenPrograms$Program" "words" "[I", .soleField "ShortenPrograms$Program" "words", .laysFinal "ShortenPrograms$Program" "ShortenPrograms$Program" "origins" "[I", .soleField "ShortenPrograms$Program" "origins", .lays "ShortenPrograms$Program" "ShortenPrograms$Program" "length" "I"]
def wA_1 : List Cond := [.soleField "ShortenPrograms$Program" "length", .superclass "ShortenPrograms$Program" "java/lang/Object", .arrayClass .int, .classLink "ShortenPrograms" 31 "ShortenPrograms$Memory", .instantiable "ShortenPrograms$Memory" 2, .instanceMethod yM_init, .code yM_init prog_3_method_1_code 1 none, .methodLink "ShortenPrograms$Memory" 3 ⟨"java/lang/Object", "<init>", "()V"⟩, .classLink "ShortenPrograms$Memory" 9 "ShortenPrograms$Ask", .fieldLink "ShortenPrograms$Memory" 11 "ShortenPrograms$Memory" "asks" "[LShortenPrograms$Ask;", .fieldLink "ShortenPrograms$Memory" 17 "ShortenPrograms$Memory" "filled" "I", .laysFinal "ShortenPrograms$Memory" "ShortenPrograms$Memory" "asks" "[LShortenPrograms$Ask;", .soleField "ShortenPrograms$Memory" "asks", .lays "ShortenPrograms$Memory" "ShortenPrograms$Memory" "filled" "I", .soleField "ShortenPrograms$Memory" "filled", .superclass "ShortenPrograms$Memory" "java/lang/Object", .classLink "ShortenPrograms" 38 "ShortenPrograms$Walk", .instantiable "ShortenPrograms$Walk" 8, .instanceMethod yW_init, .code yW_init prog_5_method_1_code 1 none, .methodLink "ShortenPrograms$Walk" 3 ⟨"java/lang/Object", "<init>", "()V"⟩, .fieldLink "ShortenPrograms$Walk" 15 "ShortenPrograms$Walk" "step" "I", .fieldLink "ShortenPrograms$Walk" 22 "ShortenPrograms$Walk" "piece" "I", .fieldLink "ShortenPrograms$Walk" 25 "ShortenPrograms$Walk" "place" "I", .fieldLink "ShortenPrograms$Walk" 28 "ShortenPrograms$Walk" "someLeftOut" "Z", .fieldLink "ShortenPrograms$Walk" 32 "ShortenPrograms$Walk" "wordPlace" "I", .fieldLink "ShortenPrograms$Walk" 35 "ShortenPrograms$Walk" "bytePlace" "I", .fieldLink "ShortenPrograms$Walk" 38 "ShortenPrograms$Walk" "someLowered" "Z", .fieldLink "ShortenPrograms$Walk" 9 "ShortenPrograms$Walk" "timesLeaving" "I", .lays "ShortenPrograms$Walk" "ShortenPrograms$Walk" "step" "I", .soleField "ShortenPrograms$Walk" "step", .lays "ShortenPrograms$Walk" "ShortenPrograms$Walk" "piece" "I", .soleField "ShortenPrograms$Walk" "piece", .lays "ShortenPrograms$Walk" "ShortenPrograms$Walk" "place" "I", .soleField "ShortenPrograms$Walk" "place", .lays "ShortenPrograms$Walk" "ShortenPrograms$Walk" "someLeftOut" "Z", .soleField "ShortenPrograms$Walk" "someLeftOut", .lays "ShortenPrograms$Walk" "ShortenPrograms$Walk" "wordPlace" "I", .soleField "ShortenPrograms$Walk" "wordPlace", .lays "ShortenPrograms$Walk" "ShortenPrograms$Walk" "bytePlace" "I"]
def wA_2 : List Cond := [.soleField "ShortenPrograms$Walk" "bytePlace", .lays "ShortenPrograms$Walk" "ShortenPrograms$Walk" "someLowered" "Z", .soleField "ShortenPrograms$Walk" "someLowered", .lays "ShortenPrograms$Walk" "ShortenPrograms$Walk" "timesLeaving" "I", .soleField "ShortenPrograms$Walk" "timesLeaving", .superclass "ShortenPrograms$Walk" "java/lang/Object", .fieldLink "ShortenPrograms" 17 "ShortenPrograms" "budget" "I", .fieldLink "ShortenPrograms" 24 "ShortenPrograms" "current" "LShortenPrograms$Program;", .fieldLink "ShortenPrograms" 28 "ShortenPrograms" "candidate" "LShortenPrograms$Program;", .fieldLink "ShortenPrograms" 34 "ShortenPrograms" "memory" "LShortenPrograms$Memory;", .fieldLink "ShortenPrograms" 41 "ShortenPrograms" "walk" "LShortenPrograms$Walk;", .fieldLink "ShortenPrograms" 45 "ShortenPrograms" "state" "I", .fieldLink "ShortenPrograms" 48 "ShortenPrograms" "theDifference" "I", .fieldLink "ShortenPrograms" 156 "ShortenPrograms" "remembered" "I", .fieldLink "ShortenPrograms" 159 "ShortenPrograms" "good" "I", .fieldLink "ShortenPrograms" 162 "ShortenPrograms" "leftOut" "I", .fieldLink "ShortenPrograms" 165 "ShortenPrograms" "lowered" "I", .laysFinal "ShortenPrograms" "ShortenPrograms" "budget" "I", .soleField "ShortenPrograms" "budget", .laysFinal "ShortenPrograms" "ShortenPrograms" "current" "LShortenPrograms$Program;", .soleField "ShortenPrograms" "current", .laysFinal "ShortenPrograms" "ShortenPrograms" "candidate" "LShortenPrograms$Program;", .soleField "ShortenPrograms" "candidate", .laysFinal "ShortenPrograms" "ShortenPrograms" "memory" "LShortenPrograms$Memory;", .soleField "ShortenPrograms" "memory", .laysFinal "ShortenPrograms" "ShortenPrograms" "walk" "LShortenPrograms$Walk;", .soleField "ShortenPrograms" "walk", .lays "ShortenPrograms" "ShortenPrograms" "state" "I", .soleField "ShortenPrograms" "state", .lays "ShortenPrograms" "ShortenPrograms" "theDifference" "I", .soleField "ShortenPrograms" "theDifference", .lays "ShortenPrograms" "ShortenPrograms" "remembered" "I", .soleField "ShortenPrograms" "remembered", .lays "ShortenPrograms" "ShortenPrograms" "good" "I", .soleField "ShortenPrograms" "good", .lays "ShortenPrograms" "ShortenPrograms" "leftOut" "I", .soleField "ShortenPrograms" "leftOut", .lays "ShortenPrograms" "ShortenPrograms" "lowered" "I", .soleField "ShortenPrograms" "lowered", .superclass "ShortenPrograms" "java/lang/Object"]
def wA_3 : List Cond := [.methodLink "ShortenProgramsLaw" 87 yS_count, .instanceMethod yS_count, .selects "ShortenPrograms" yS_count yS_count, .code yS_count prog_1_method_10_code 2 (some .int), .methodLink "ShortenPrograms" 69 yP_length, .instanceMethod yP_length, .selects "ShortenPrograms$Program" yP_length yP_length, .code yP_length prog_4_method_2_code 1 (some .int), .methodLink "ShortenPrograms" 153 yM_filled, .instanceMethod yM_filled, .selects "ShortenPrograms$Memory" yM_filled yM_filled, .code yM_filled prog_3_method_2_code 1 (some .int), .methodLink "ShortenPrograms" 168 yW_timesLeaving, .instanceMethod yW_timesLeaving, .selects "ShortenPrograms$Walk" yW_timesLeaving yW_timesLeaving, .code yW_timesLeaving prog_5_method_2_code 1 (some .int), .methodLink "ShortenProgramsLaw" 44 yL_cell, .static yL_cell, .code yL_cell method_2_code 2 (some .int), .methodLink "ShortenProgramsLaw" 56 yL_feed, .static yL_feed, .codeWith yL_feed method_3_code 4 (some .int) [(0, 9, 12, 13)], .classLink "ShortenProgramsLaw" 13 "java/lang/UnsupportedOperationException", .methodLink "ShortenProgramsLaw" 7 yS_feed, .instanceMethod yS_feed, .selects "ShortenPrograms" yS_feed yS_feed, .code yS_feed prog_1_method_2_code 2 (some .int), .methodLink "ShortenPrograms" 51 yS_startAfresh, .instanceMethod yS_startAfresh, .code yS_startAfresh prog_1_method_11_code 1 none, .methodLink "ShortenPrograms" 171 yP_clear, .instanceMethod yP_clear, .selects "ShortenPrograms$Program" yP_clear yP_clear, .code yP_clear prog_4_method_7_code 1 none, .methodLink "ShortenPrograms" 174 yM_clear, .instanceMethod yM_clear, .selects "ShortenPrograms$Memory" yM_clear yM_clear, .code yM_clear prog_3_method_3_code 1 none, .methodLink "ShortenPrograms" 175 yW_clear, .instanceMethod yW_clear]
def wA_4 : List Cond := [.selects "ShortenPrograms$Walk" yW_clear yW_clear, .code yW_clear prog_5_method_4_code 1 none, .methodLink "ShortenPrograms" 54 yP_isFull, .instanceMethod yP_isFull, .selects "ShortenPrograms$Program" yP_isFull yP_isFull, .code yP_isFull prog_4_method_3_code 1 (some .boolean), .classLink "ShortenPrograms" 58 "java/lang/UnsupportedOperationException", .instantiable "java/lang/UnsupportedOperationException" 6, .selects "java/lang/UnsupportedOperationException" ⟨"java/lang/Throwable", "fillInStackTrace", "(I)Ljava/lang/Throwable;"⟩ ⟨"java/lang/Throwable", "fillInStackTrace", "(I)Ljava/lang/Throwable;"⟩, .selects "java/lang/UnsupportedOperationException" ⟨"java/lang/Throwable", "fillInStackTrace", "()Ljava/lang/Throwable;"⟩ ⟨"java/lang/Throwable", "fillInStackTrace", "()Ljava/lang/Throwable;"⟩, .lays "java/lang/UnsupportedOperationException" "java/lang/Throwable" "cause" "Ljava/lang/Throwable;", .lays "java/lang/Throwable" "java/lang/Throwable" "cause" "Ljava/lang/Throwable;", .lays "java/lang/UnsupportedOperationException" "java/lang/Throwable" "stackTrace" "[Ljava/lang/StackTraceElement;", .lays "java/lang/Throwable" "java/lang/Throwable" "stackTrace" "[Ljava/lang/StackTraceElement;", .lays "java/lang/UnsupportedOperationException" "java/lang/Throwable" "suppressedExceptions" "Ljava/util/List;", .lays "java/lang/Throwable" "java/lang/Throwable" "suppressedExceptions" "Ljava/util/List;", .lays "java/lang/UnsupportedOperationException" "java/lang/Throwable" "detailMessage" "Ljava/lang/String;", .lays "java/lang/Throwable" "java/lang/Throwable" "detailMessage" "Ljava/lang/String;", .lays "java/lang/UnsupportedOperationException" "java/lang/Throwable" "backtrace" "Ljava/lang/Object;", .lays "java/lang/Throwable" "java/lang/Throwable" "backtrace" "Ljava/lang/Object;", .fieldLink "java/lang/Throwable" 198 "java/lang/Throwable" "backtrace" "Ljava/lang/Object;", .superclass "java/lang/Throwable" "java/lang/Object", .instanceMethod ⟨"java/lang/Throwable", "<init>", "()V"⟩, .code ⟨"java/lang/Throwable", "<init>", "()V"⟩ prog_15_method_1_code 1 none, .methodLink "java/lang/Throwable" 1 ⟨"java/lang/Object", "<init>", "()V"⟩, .fieldLink "java/lang/Throwable" 13 "java/lang/Throwable" "UNASSIGNED_STACK" "[Ljava/lang/StackTraceElement;", .fieldLink "java/lang/Throwable" 20 "java/lang/Throwable" "SUPPRESSED_SENTINEL" "Ljava/util/List;", .methodLink "java/lang/Throwable" 27 ⟨"java/lang/Throwable", "fillInStackTrace", "()Ljava/lang/Throwable;"⟩, .instanceMethod ⟨"java/lang/Throwable", "fillInStackTrace", "()Ljava/lang/Throwable;"⟩, .sameMethod "java/lang/Throwable" "java/lang/Throwable" "fillInStackTrace" "()Ljava/lang/Throwable;", .selects "java/lang/IllegalArgumentException" ⟨"java/lang/Throwable", "fillInStackTrace", "()Ljava/lang/Throwable;"⟩ ⟨"java/lang/Throwable", "fillInStackTrace", "()Ljava/lang/Throwable;"⟩, .selects "java/lang/IllegalStateException" ⟨"java/lang/Throwable", "fillInStackTrace", "()Ljava/lang/Throwable;"⟩ ⟨"java/lang/Throwable", "fillInStackTrace", "()Ljava/lang/Throwable;"⟩, .selects "java/lang/IndexOutOfBoundsException" ⟨"java/lang/Throwable", "fillInStackTrace", "()Ljava/lang/Throwable;"⟩ ⟨"java/lang/Throwable", "fillInStackTrace", "()Ljava/lang/Throwable;"⟩, .codeSync ⟨"java/lang/Throwable", "fillInStackTrace", "()Ljava/lang/Throwable;"⟩ prog_15_method_18_code 1 (some (.object "java/lang/Throwable")), .methodLink "java/lang/Throwable" 202 ⟨"java/lang/Throwable", "fillInStackTrace", "(I)Ljava/lang/Throwable;"⟩, .instanceMethod ⟨"java/lang/Throwable", "fillInStackTrace", "(I)Ljava/lang/Throwable;"⟩, .instantiable "java/lang/Throwable" 6, .native ⟨"java/lang/Throwable", "fillInStackTrace", "(I)Ljava/lang/Throwable;"⟩, .methodLink "ShortenPrograms" 62 ⟨"java/lang/UnsupportedOperationException", "<init>", "(Ljava/lang/String;)V"⟩, .instanceMethod ⟨"java/lang/UnsupportedOperationException", "<init>", "(Ljava/lang/String;)V"⟩]
def wA_5 : List Cond := [.code ⟨"java/lang/UnsupportedOperationException", "<init>", "(Ljava/lang/String;)V"⟩ prog_16_method_2_code 2 none, .methodLink "java/lang/UnsupportedOperationException" 7 ⟨"java/lang/RuntimeException", "<init>", "(Ljava/lang/String;)V"⟩, .instanceMethod ⟨"java/lang/RuntimeException", "<init>", "(Ljava/lang/String;)V"⟩, .code ⟨"java/lang/RuntimeException", "<init>", "(Ljava/lang/String;)V"⟩ prog_13_method_2_code 2 none, .methodLink "java/lang/RuntimeException" 7 ⟨"java/lang/Exception", "<init>", "(Ljava/lang/String;)V"⟩, .instanceMethod ⟨"java/lang/Exception", "<init>", "(Ljava/lang/String;)V"⟩, .code ⟨"java/lang/Exception", "<init>", "(Ljava/lang/String;)V"⟩ prog_8_method_2_code 2 none, .methodLink "java/lang/Exception" 7 ⟨"java/lang/Throwable", "<init>", "(Ljava/lang/String;)V"⟩, .instanceMethod ⟨"java/lang/Throwable", "<init>", "(Ljava/lang/String;)V"⟩, .code ⟨"java/lang/Throwable", "<init>", "(Ljava/lang/String;)V"⟩ prog_15_method_2_code 2 none, .fieldLink "java/lang/Throwable" 198 "java/lang/Throwable" "backtrace" "Ljava/lang/Object;", .fieldLink "java/lang/Throwable" 31 "java/lang/Throwable" "detailMessage" "Ljava/lang/String;", .fieldLink "java/lang/Throwable" 7 "java/lang/Throwable" "cause" "Ljava/lang/Throwable;", .fieldLink "java/lang/Throwable" 17 "java/lang/Throwable" "stackTrace" "[Ljava/lang/StackTraceElement;", .fieldLink "java/lang/Throwable" 24 "java/lang/Throwable" "suppressedExceptions" "Ljava/util/List;", .soleField "java/lang/Throwable" "backtrace", .soleField "java/lang/Throwable" "detailMessage", .soleField "java/lang/Throwable" "cause", .soleField "java/lang/Throwable" "stackTrace", .lays "java/lang/UnsupportedOperationException" "java/lang/Throwable" "depth" "I", .soleField "java/lang/Throwable" "depth", .soleField "java/lang/Throwable" "suppressedExceptions", .superclass "java/lang/UnsupportedOperationException" "java/lang/RuntimeException", .arrayClass .byte, .methodLink "ShortenPrograms" 65 yP_append, .instanceMethod yP_append, .selects "ShortenPrograms$Program" yP_append yP_append, .code yP_append prog_4_method_8_code 2 none, .methodLink "ShortenProgramsLaw" 63 yL_begin, .static yL_begin, .codeWith yL_begin method_4_code 2 (some .int) [(0, 4, 7, 18)], .classLink "ShortenProgramsLaw" 18 "java/lang/IllegalStateException", .methodLink "ShortenProgramsLaw" 15 yS_begin, .instanceMethod yS_begin, .selects "ShortenPrograms" yS_begin yS_begin, .code yS_begin prog_1_method_3_code 1 none, .classLink "ShortenPrograms" 73 "java/lang/IllegalStateException", .instantiable "java/lang/IllegalStateException" 6, .selects "java/lang/IllegalStateException" ⟨"java/lang/Throwable", "fillInStackTrace", "(I)Ljava/lang/Throwable;"⟩ ⟨"java/lang/Throwable", "fillInStackTrace", "(I)Ljava/lang/Throwable;"⟩, .lays "java/lang/IllegalStateException" "java/lang/Throwable" "cause" "Ljava/lang/Throwable;"]
def wA_6 : List Cond := [.lays "java/lang/IllegalStateException" "java/lang/Throwable" "stackTrace" "[Ljava/lang/StackTraceElement;", .lays "java/lang/IllegalStateException" "java/lang/Throwable" "suppressedExceptions" "Ljava/util/List;", .lays "java/lang/IllegalStateException" "java/lang/Throwable" "detailMessage" "Ljava/lang/String;", .lays "java/lang/IllegalStateException" "java/lang/Throwable" "backtrace" "Ljava/lang/Object;", .methodLink "ShortenPrograms" 77 ⟨"java/lang/IllegalStateException", "<init>", "(Ljava/lang/String;)V"⟩, .instanceMethod ⟨"java/lang/IllegalStateException", "<init>", "(Ljava/lang/String;)V"⟩, .code ⟨"java/lang/IllegalStateException", "<init>", "(Ljava/lang/String;)V"⟩ prog_10_method_2_code 2 none, .methodLink "java/lang/IllegalStateException" 7 ⟨"java/lang/RuntimeException", "<init>", "(Ljava/lang/String;)V"⟩, .lays "java/lang/IllegalStateException" "java/lang/Throwable" "depth" "I", .superclass "java/lang/IllegalStateException" "java/lang/RuntimeException", .methodLink "ShortenPrograms" 78 yM_keep, .instanceMethod yM_keep, .selects "ShortenPrograms$Memory" yM_keep yM_keep, .code yM_keep prog_3_method_4_code 3 none, .instantiable "ShortenPrograms$Ask" 3, .instanceMethod yA_init, .code yA_init prog_2_method_1_code 1 none, .methodLink "ShortenPrograms$Ask" 3 ⟨"java/lang/Object", "<init>", "()V"⟩, .classLink "ShortenPrograms$Ask" 9 "ShortenPrograms$Program", .fieldLink "ShortenPrograms$Ask" 12 "ShortenPrograms$Ask" "program" "LShortenPrograms$Program;", .fieldLink "ShortenPrograms$Ask" 30 "ShortenPrograms$Ask" "mark" "I", .fieldLink "ShortenPrograms$Ask" 18 "ShortenPrograms$Ask" "answer" "I", .laysFinal "ShortenPrograms$Ask" "ShortenPrograms$Ask" "program" "LShortenPrograms$Program;", .soleField "ShortenPrograms$Ask" "program", .lays "ShortenPrograms$Ask" "ShortenPrograms$Ask" "mark" "I", .soleField "ShortenPrograms$Ask" "mark", .lays "ShortenPrograms$Ask" "ShortenPrograms$Ask" "answer" "I", .soleField "ShortenPrograms$Ask" "answer", .superclass "ShortenPrograms$Ask" "java/lang/Object", .methodLink "ShortenPrograms$Memory" 22 yA_open, .instanceMethod yA_open, .selects "ShortenPrograms$Ask" yA_open yA_open, .code yA_open prog_2_method_5_code 2 none, .methodLink "ShortenPrograms$Ask" 22 yP_copy, .instanceMethod yP_copy, .selects "ShortenPrograms$Program" yP_copy yP_copy, .code yP_copy prog_4_method_9_code 4 none, .methodLink "ShortenPrograms$Program" 26 ⟨"java/lang/Math", "min", "(II)I"⟩, .static ⟨"java/lang/Math", "min", "(II)I"⟩, .code ⟨"java/lang/Math", "min", "(II)I"⟩ prog_12_method_69_code 2 (some .int)]
def wA_7 : List Cond := [.methodLink "ShortenPrograms$Ask" 26 yP_mark, .instanceMethod yP_mark, .selects "ShortenPrograms$Program" yP_mark yP_mark, .code yP_mark prog_4_method_15_code 3 (some .int), .methodLink "ShortenProgramsLaw" 67 yL_asked, .static yL_asked, .codeWith yL_asked method_5_code 4 (some .int) [(0, 9, 12, 18), (0, 9, 15, 23)], .classLink "ShortenProgramsLaw" 23 "java/lang/IndexOutOfBoundsException", .methodLink "ShortenProgramsLaw" 20 yS_asked, .instanceMethod yS_asked, .selects "ShortenPrograms" yS_asked yS_asked, .code yS_asked prog_1_method_4_code 3 (some .int), .methodLink "ShortenPrograms" 82 yS_openAsk, .instanceMethod yS_openAsk, .code yS_openAsk prog_1_method_12_code 1 (some (.object "ShortenPrograms$Ask")), .methodLink "ShortenPrograms" 176 yM_last, .instanceMethod yM_last, .selects "ShortenPrograms$Memory" yM_last yM_last, .code yM_last prog_3_method_5_code 1 (some (.object "ShortenPrograms$Ask")), .methodLink "ShortenPrograms" 88 yA_program, .instanceMethod yA_program, .selects "ShortenPrograms$Ask" yA_program yA_program, .code yA_program prog_2_method_2_code 1 (some (.object "ShortenPrograms$Program")), .methodLink "ShortenPrograms" 94 yP_has, .instanceMethod yP_has, .selects "ShortenPrograms$Program" yP_has yP_has, .code yP_has prog_4_method_4_code 2 (some .boolean), .classLink "ShortenPrograms" 98 "java/lang/IndexOutOfBoundsException", .instantiable "java/lang/IndexOutOfBoundsException" 6, .selects "java/lang/IndexOutOfBoundsException" ⟨"java/lang/Throwable", "fillInStackTrace", "(I)Ljava/lang/Throwable;"⟩ ⟨"java/lang/Throwable", "fillInStackTrace", "(I)Ljava/lang/Throwable;"⟩, .lays "java/lang/IndexOutOfBoundsException" "java/lang/Throwable" "cause" "Ljava/lang/Throwable;", .lays "java/lang/IndexOutOfBoundsException" "java/lang/Throwable" "stackTrace" "[Ljava/lang/StackTraceElement;", .lays "java/lang/IndexOutOfBoundsException" "java/lang/Throwable" "suppressedExceptions" "Ljava/util/List;", .lays "java/lang/IndexOutOfBoundsException" "java/lang/Throwable" "detailMessage" "Ljava/lang/String;", .lays "java/lang/IndexOutOfBoundsException" "java/lang/Throwable" "backtrace" "Ljava/lang/Object;", .methodLink "ShortenPrograms" 102 ⟨"java/lang/IndexOutOfBoundsException", "<init>", "(Ljava/lang/String;)V"⟩, .instanceMethod ⟨"java/lang/IndexOutOfBoundsException", "<init>", "(Ljava/lang/String;)V"⟩, .code ⟨"java/lang/IndexOutOfBoundsException", "<init>", "(Ljava/lang/String;)V"⟩ prog_11_method_2_code 2 none, .methodLink "java/lang/IndexOutOfBoundsException" 7 ⟨"java/lang/RuntimeException", "<init>", "(Ljava/lang/String;)V"⟩, .lays "java/lang/IndexOutOfBoundsException" "java/lang/Throwable" "depth" "I"]
def wA_8 : List Cond := [.superclass "java/lang/IndexOutOfBoundsException" "java/lang/RuntimeException", .methodLink "ShortenPrograms" 103 yP_word, .instanceMethod yP_word, .selects "ShortenPrograms$Program" yP_word yP_word, .code yP_word prog_4_method_5_code 2 (some .int), .methodLink "ShortenPrograms$Program" 22 yP_has, .methodLink "ShortenProgramsLaw" 70 yL_size, .static yL_size, .codeWith yL_size method_6_code 3 (some .int) [(0, 8, 11, 18)], .methodLink "ShortenProgramsLaw" 25 yS_size, .instanceMethod yS_size, .selects "ShortenPrograms" yS_size yS_size, .code yS_size prog_1_method_5_code 2 (some .int), .methodLink "ShortenProgramsLaw" 74 yL_judge, .static yL_judge, .codeWith yL_judge method_7_code 4 (some .int) [(0, 9, 12, 18), (0, 9, 15, 32)], .classLink "ShortenProgramsLaw" 32 "java/lang/IllegalArgumentException", .methodLink "ShortenProgramsLaw" 29 yS_judge, .instanceMethod yS_judge, .selects "ShortenPrograms" yS_judge yS_judge, .code yS_judge prog_1_method_6_code 3 (some .int), .classLink "ShortenPrograms" 107 "java/lang/IllegalArgumentException", .instantiable "java/lang/IllegalArgumentException" 6, .selects "java/lang/IllegalArgumentException" ⟨"java/lang/Throwable", "fillInStackTrace", "(I)Ljava/lang/Throwable;"⟩ ⟨"java/lang/Throwable", "fillInStackTrace", "(I)Ljava/lang/Throwable;"⟩, .lays "java/lang/IllegalArgumentException" "java/lang/Throwable" "cause" "Ljava/lang/Throwable;", .lays "java/lang/IllegalArgumentException" "java/lang/Throwable" "stackTrace" "[Ljava/lang/StackTraceElement;", .lays "java/lang/IllegalArgumentException" "java/lang/Throwable" "suppressedExceptions" "Ljava/util/List;", .lays "java/lang/IllegalArgumentException" "java/lang/Throwable" "detailMessage" "Ljava/lang/String;", .lays "java/lang/IllegalArgumentException" "java/lang/Throwable" "backtrace" "Ljava/lang/Object;", .methodLink "ShortenPrograms" 111 ⟨"java/lang/IllegalArgumentException", "<init>", "(Ljava/lang/String;)V"⟩, .instanceMethod ⟨"java/lang/IllegalArgumentException", "<init>", "(Ljava/lang/String;)V"⟩, .code ⟨"java/lang/IllegalArgumentException", "<init>", "(Ljava/lang/String;)V"⟩ prog_9_method_2_code 2 none, .methodLink "java/lang/IllegalArgumentException" 7 ⟨"java/lang/RuntimeException", "<init>", "(Ljava/lang/String;)V"⟩, .lays "java/lang/IllegalArgumentException" "java/lang/Throwable" "depth" "I", .superclass "java/lang/IllegalArgumentException" "java/lang/RuntimeException", .methodLink "ShortenPrograms" 112 yA_setAnswer, .instanceMethod yA_setAnswer, .selects "ShortenPrograms$Ask" yA_setAnswer yA_setAnswer, .code yA_setAnswer prog_2_method_4_code 2 none, .methodLink "ShortenPrograms" 115 yS_takeFirst]
def wA_9 : List Cond := [.instanceMethod yS_takeFirst, .code yS_takeFirst prog_1_method_13_code 2 none, .methodLink "ShortenPrograms" 179 ⟨"java/lang/Math", "max", "(II)I"⟩, .static ⟨"java/lang/Math", "max", "(II)I"⟩, .code ⟨"java/lang/Math", "max", "(II)I"⟩ prog_12_method_65_code 2 (some .int), .methodLink "ShortenPrograms" 183 yW_startLeaving, .instanceMethod yW_startLeaving, .selects "ShortenPrograms$Walk" yW_startLeaving yW_startLeaving, .code yW_startLeaving prog_5_method_5_code 2 none, .methodLink "ShortenPrograms$Walk" 18 yW_startGoingThrough, .instanceMethod yW_startGoingThrough, .code yW_startGoingThrough prog_5_method_6_code 2 none, .methodLink "ShortenPrograms" 118 yS_take, .instanceMethod yS_take, .code yS_take prog_1_method_14_code 3 none, .methodLink "ShortenPrograms" 186 yW_passOver, .instanceMethod yW_passOver, .selects "ShortenPrograms$Walk" yW_passOver yW_passOver, .code yW_passOver prog_5_method_14_code 1 none, .methodLink "ShortenPrograms$Walk" 79 yW_nextByte, .instanceMethod yW_nextByte, .code yW_nextByte prog_5_method_15_code 1 none, .methodLink "ShortenPrograms" 189 yW_change, .instanceMethod yW_change, .selects "ShortenPrograms$Walk" yW_change yW_change, .code yW_change prog_5_method_12_code 3 none, .methodLink "ShortenPrograms$Walk" 71 yP_leaveOut, .instanceMethod yP_leaveOut, .selects "ShortenPrograms$Program" yP_leaveOut yP_leaveOut, .code yP_leaveOut prog_4_method_10_code 5 none, .methodLink "ShortenPrograms$Walk" 51 yP_byteOf, .instanceMethod yP_byteOf, .selects "ShortenPrograms$Program" yP_byteOf yP_byteOf, .code yP_byteOf prog_4_method_11_code 3 (some .int), .methodLink "ShortenPrograms$Program" 32 yP_word, .methodLink "ShortenPrograms$Program" 36 yP_shift, .static yP_shift, .code yP_shift prog_4_method_13_code 1 (some .int), .methodLink "ShortenPrograms$Walk" 67 yW_lowerValue, .instanceMethod yW_lowerValue]
def wA_10 : List Cond := [.code yW_lowerValue prog_5_method_11_code 2 (some .int), .methodLink "ShortenPrograms$Walk" 75 yP_setByte, .instanceMethod yP_setByte, .selects "ShortenPrograms$Program" yP_setByte yP_setByte, .code yP_setByte prog_4_method_12_code 5 none, .methodLink "ShortenPrograms" 192 yW_isLowering, .instanceMethod yW_isLowering, .selects "ShortenPrograms$Walk" yW_isLowering yW_isLowering, .code yW_isLowering prog_5_method_3_code 1 (some .boolean), .methodLink "ShortenPrograms" 195 yW_goOn, .instanceMethod yW_goOn, .selects "ShortenPrograms$Walk" yW_goOn yW_goOn, .code yW_goOn prog_5_method_13_code 1 none, .methodLink "ShortenPrograms" 121 yS_askNext, .instanceMethod yS_askNext, .code yS_askNext prog_1_method_15_code 3 none, .constant "ShortenPrograms" 198 (1000000), .methodLink "ShortenPrograms" 199 yW_findChange, .instanceMethod yW_findChange, .selects "ShortenPrograms$Walk" yW_findChange yW_findChange, .code yW_findChange prog_5_method_8_code 3 (some .boolean), .constant "ShortenPrograms$Walk" 41 (1000000), .methodLink "ShortenPrograms$Walk" 42 yP_has, .methodLink "ShortenPrograms$Walk" 48 yW_endGoingThrough, .instanceMethod yW_endGoingThrough, .code yW_endGoingThrough prog_5_method_9_code 1 none, .methodLink "ShortenPrograms$Walk" 64 yW_startLowering, .instanceMethod yW_startLowering, .code yW_startLowering prog_5_method_7_code 1 none, .methodLink "ShortenPrograms$Walk" 55 yW_canLower, .instanceMethod yW_canLower, .code yW_canLower prog_5_method_10_code 2 (some .boolean), .methodLink "ShortenPrograms$Walk" 58 yW_passOver, .methodLink "ShortenPrograms$Walk" 61 yW_startLeaving, .methodLink "ShortenPrograms" 135 yP_copy, .methodLink "ShortenPrograms" 146 yM_find, .instanceMethod yM_find, .selects "ShortenPrograms$Memory" yM_find yM_find, .code yM_find prog_3_method_6_code 5 (some (.object "ShortenPrograms$Ask")), .methodLink "ShortenPrograms$Memory" 26 yP_mark]
def wA_11 : List Cond := [.methodLink "ShortenPrograms$Memory" 32 yA_isOf, .instanceMethod yA_isOf, .selects "ShortenPrograms$Ask" yA_isOf yA_isOf, .code yA_isOf prog_2_method_6_code 3 (some .boolean), .methodLink "ShortenPrograms$Ask" 32 yP_hasSameWords, .instanceMethod yP_hasSameWords, .selects "ShortenPrograms$Program" yP_hasSameWords yP_hasSameWords, .code yP_hasSameWords prog_4_method_14_code 3 (some .boolean), .methodLink "ShortenPrograms" 203 yS_ask, .instanceMethod yS_ask, .code yS_ask prog_1_method_16_code 1 none, .methodLink "ShortenPrograms" 150 yA_answer, .instanceMethod yA_answer, .selects "ShortenPrograms$Ask" yA_answer yA_answer, .code yA_answer prog_2_method_3_code 1 (some .int), .methodLink "ShortenProgramsLaw" 77 yL_at, .static yL_at, .codeWith yL_at method_8_code 4 (some .int) [(0, 9, 12, 23)], .methodLink "ShortenProgramsLaw" 34 yS_at, .instanceMethod yS_at, .selects "ShortenPrograms" yS_at yS_at, .code yS_at prog_1_method_7_code 2 (some .int), .methodLink "ShortenProgramsLaw" 80 yL_from, .static yL_from, .codeWith yL_from method_9_code 4 (some .int) [(0, 9, 12, 23)], .methodLink "ShortenProgramsLaw" 37 yS_from, .instanceMethod yS_from, .selects "ShortenPrograms" yS_from yS_from, .code yS_from prog_1_method_8_code 2 (some .int), .methodLink "ShortenPrograms" 126 yP_origin, .instanceMethod yP_origin, .selects "ShortenPrograms$Program" yP_origin yP_origin, .code yP_origin prog_4_method_6_code 2 (some .int), .methodLink "ShortenProgramsLaw" 83 yL_known, .static yL_known, .codeWith yL_known method_10_code 7 (some .int) [(0, 14, 17, 23), (0, 14, 21, 32)], .methodLink "ShortenProgramsLaw" 40 yS_known, .instanceMethod yS_known, .selects "ShortenPrograms" yS_known yS_known, .code yS_known prog_1_method_9_code 6 (some .int)]
def wA_12 : List Cond := [.methodLink "ShortenPrograms" 138 yP_leaveOut, .methodLink "ShortenPrograms" 142 yP_setByte, .classLink "ShortenProgramsLaw" 53 "ShortenProgramsModel", .instantiable "ShortenProgramsModel" 27, .methodLink "ShortenProgramsLaw" 55 yD_init, .instanceMethod yD_init, .code yD_init prog_7_method_1_code 3 none, .methodLink "ShortenProgramsModel" 1 ⟨"java/lang/Object", "<init>", "()V"⟩, .fieldLink "ShortenProgramsModel" 35 "ShortenProgramsModel" "thrown" "I", .fieldLink "ShortenProgramsModel" 32 "ShortenProgramsModel" "budget" "I", .fieldLink "ShortenProgramsModel" 38 "ShortenProgramsModel" "state" "I", .fieldLink "ShortenProgramsModel" 41 "ShortenProgramsModel" "size" "I", .fieldLink "ShortenProgramsModel" 7 "ShortenProgramsModel" "word" "[I", .fieldLink "ShortenProgramsModel" 13 "ShortenProgramsModel" "origin" "[I", .fieldLink "ShortenProgramsModel" 66 "ShortenProgramsModel" "candSize" "I", .fieldLink "ShortenProgramsModel" 16 "ShortenProgramsModel" "cand" "[I", .fieldLink "ShortenProgramsModel" 146 "ShortenProgramsModel" "isFirst" "Z", .fieldLink "ShortenProgramsModel" 86 "ShortenProgramsModel" "isLowering" "Z", .fieldLink "ShortenProgramsModel" 96 "ShortenProgramsModel" "someGood" "Z", .fieldLink "ShortenProgramsModel" 99 "ShortenProgramsModel" "wasLowered" "Z", .fieldLink "ShortenProgramsModel" 90 "ShortenProgramsModel" "piece" "I", .fieldLink "ShortenProgramsModel" 93 "ShortenProgramsModel" "place" "I", .fieldLink "ShortenProgramsModel" 73 "ShortenProgramsModel" "atWord" "I", .fieldLink "ShortenProgramsModel" 76 "ShortenProgramsModel" "atByte" "I", .fieldLink "ShortenProgramsModel" 83 "ShortenProgramsModel" "how" "I", .fieldLink "ShortenProgramsModel" 19 "ShortenProgramsModel" "difference" "I", .fieldLink "ShortenProgramsModel" 48 "ShortenProgramsModel" "asks" "I", .fieldLink "ShortenProgramsModel" 23 "ShortenProgramsModel" "askedSize" "[I", .fieldLink "ShortenProgramsModel" 26 "ShortenProgramsModel" "askedWord" "[I", .fieldLink "ShortenProgramsModel" 29 "ShortenProgramsModel" "answer" "[I", .fieldLink "ShortenProgramsModel" 51 "ShortenProgramsModel" "remembered" "I", .fieldLink "ShortenProgramsModel" 54 "ShortenProgramsModel" "good" "I", .fieldLink "ShortenProgramsModel" 57 "ShortenProgramsModel" "leftOut" "I", .fieldLink "ShortenProgramsModel" 60 "ShortenProgramsModel" "lowered" "I", .fieldLink "ShortenProgramsModel" 63 "ShortenProgramsModel" "begun" "I", .lays "ShortenProgramsModel" "ShortenProgramsModel" "thrown" "I", .soleField "ShortenProgramsModel" "thrown", .laysFinal "ShortenProgramsModel" "ShortenProgramsModel" "budget" "I", .soleField "ShortenProgramsModel" "budget", .lays "ShortenProgramsModel" "ShortenProgramsModel" "state" "I"]
def wA_13 : List Cond := [.soleField "ShortenProgramsModel" "state", .lays "ShortenProgramsModel" "ShortenProgramsModel" "size" "I", .soleField "ShortenProgramsModel" "size", .laysFinal "ShortenProgramsModel" "ShortenProgramsModel" "word" "[I", .soleField "ShortenProgramsModel" "word", .laysFinal "ShortenProgramsModel" "ShortenProgramsModel" "origin" "[I", .soleField "ShortenProgramsModel" "origin", .lays "ShortenProgramsModel" "ShortenProgramsModel" "candSize" "I", .soleField "ShortenProgramsModel" "candSize", .laysFinal "ShortenProgramsModel" "ShortenProgramsModel" "cand" "[I", .soleField "ShortenProgramsModel" "cand", .lays "ShortenProgramsModel" "ShortenProgramsModel" "isFirst" "Z", .soleField "ShortenProgramsModel" "isFirst", .lays "ShortenProgramsModel" "ShortenProgramsModel" "isLowering" "Z", .soleField "ShortenProgramsModel" "isLowering", .lays "ShortenProgramsModel" "ShortenProgramsModel" "someGood" "Z", .soleField "ShortenProgramsModel" "someGood", .lays "ShortenProgramsModel" "ShortenProgramsModel" "wasLowered" "Z", .soleField "ShortenProgramsModel" "wasLowered", .lays "ShortenProgramsModel" "ShortenProgramsModel" "piece" "I", .soleField "ShortenProgramsModel" "piece", .lays "ShortenProgramsModel" "ShortenProgramsModel" "place" "I", .soleField "ShortenProgramsModel" "place", .lays "ShortenProgramsModel" "ShortenProgramsModel" "atWord" "I", .soleField "ShortenProgramsModel" "atWord", .lays "ShortenProgramsModel" "ShortenProgramsModel" "atByte" "I", .soleField "ShortenProgramsModel" "atByte", .lays "ShortenProgramsModel" "ShortenProgramsModel" "how" "I", .soleField "ShortenProgramsModel" "how", .lays "ShortenProgramsModel" "ShortenProgramsModel" "difference" "I", .soleField "ShortenProgramsModel" "difference", .lays "ShortenProgramsModel" "ShortenProgramsModel" "asks" "I", .soleField "ShortenProgramsModel" "asks", .laysFinal "ShortenProgramsModel" "ShortenProgramsModel" "askedSize" "[I", .soleField "ShortenProgramsModel" "askedSize", .laysFinal "ShortenProgramsModel" "ShortenProgramsModel" "askedWord" "[I", .soleField "ShortenProgramsModel" "askedWord", .laysFinal "ShortenProgramsModel" "ShortenProgramsModel" "answer" "[I", .soleField "ShortenProgramsModel" "answer", .lays "ShortenProgramsModel" "ShortenProgramsModel" "remembered" "I"]
def wA_14 : List Cond := [.soleField "ShortenProgramsModel" "remembered", .lays "ShortenProgramsModel" "ShortenProgramsModel" "good" "I", .soleField "ShortenProgramsModel" "good", .lays "ShortenProgramsModel" "ShortenProgramsModel" "leftOut" "I", .soleField "ShortenProgramsModel" "leftOut", .lays "ShortenProgramsModel" "ShortenProgramsModel" "lowered" "I", .soleField "ShortenProgramsModel" "lowered", .lays "ShortenProgramsModel" "ShortenProgramsModel" "begun" "I", .soleField "ShortenProgramsModel" "begun", .superclass "ShortenProgramsModel" "java/lang/Object", .methodLink "ShortenProgramsLaw" 60 yD_thrown, .instanceMethod yD_thrown, .selects "ShortenProgramsModel" yD_thrown yD_thrown, .code yD_thrown prog_7_method_2_code 1 (some .int), .methodLink "ShortenProgramsLaw" 59 yD_feed, .instanceMethod yD_feed, .selects "ShortenProgramsModel" yD_feed yD_feed, .code yD_feed prog_7_method_5_code 2 (some .int), .methodLink "ShortenProgramsModel" 44 yD_fail, .instanceMethod yD_fail, .code yD_fail prog_7_method_3_code 2 (some .int), .methodLink "ShortenProgramsLaw" 66 yD_begin, .instanceMethod yD_begin, .selects "ShortenProgramsModel" yD_begin yD_begin, .code yD_begin prog_7_method_22_code 1 none, .methodLink "ShortenProgramsModel" 105 yD_without, .instanceMethod yD_without, .code yD_without prog_7_method_8_code 4 none, .methodLink "ShortenProgramsModel" 140 yD_put, .instanceMethod yD_put, .code yD_put prog_7_method_21_code 2 none, .methodLink "ShortenProgramsLaw" 76 yD_judge, .instanceMethod yD_judge, .selects "ShortenProgramsModel" yD_judge yD_judge, .code yD_judge prog_7_method_23_code 2 (some .int), .methodLink "ShortenProgramsModel" 112 yD_beginLeaving, .instanceMethod yD_beginLeaving, .code yD_beginLeaving prog_7_method_12_code 2 none, .methodLink "ShortenProgramsModel" 143 yD_answered, .instanceMethod yD_answered]
def wA_15 : List Cond := [.code yD_answered prog_7_method_19_code 3 none, .methodLink "ShortenProgramsModel" 127 yD_takeLeaving, .instanceMethod yD_takeLeaving, .code yD_takeLeaving prog_7_method_17_code 3 none, .methodLink "ShortenProgramsModel" 130 yD_takeLowering, .instanceMethod yD_takeLowering, .code yD_takeLowering prog_7_method_18_code 1 none, .methodLink "ShortenProgramsModel" 124 yD_nextByte, .instanceMethod yD_nextByte, .code yD_nextByte prog_7_method_14_code 1 none, .methodLink "ShortenProgramsModel" 149 yD_goOn, .instanceMethod yD_goOn, .code yD_goOn prog_7_method_20_code 2 none, .methodLink "ShortenProgramsModel" 133 yD_prepare, .instanceMethod yD_prepare, .code yD_prepare prog_7_method_16_code 2 (some .boolean), .methodLink "ShortenProgramsModel" 109 yD_endPass, .instanceMethod yD_endPass, .code yD_endPass prog_7_method_15_code 2 none, .methodLink "ShortenProgramsModel" 102 yD_beginLowering, .instanceMethod yD_beginLowering, .code yD_beginLowering prog_7_method_13_code 1 none, .methodLink "ShortenProgramsModel" 116 yD_lowerTo, .instanceMethod yD_lowerTo, .code yD_lowerTo prog_7_method_11_code 3 (some .int), .methodLink "ShortenProgramsModel" 79 yD_byteOf, .instanceMethod yD_byteOf, .code yD_byteOf prog_7_method_10_code 3 (some .int), .methodLink "ShortenProgramsModel" 120 yD_withByte, .instanceMethod yD_withByte, .code yD_withByte prog_7_method_9_code 5 none, .methodLink "ShortenProgramsModel" 137 yD_find, .instanceMethod yD_find, .code yD_find prog_7_method_7_code 2 (some .int), .methodLink "ShortenProgramsModel" 69 yD_isAsked, .instanceMethod yD_isAsked, .code yD_isAsked prog_7_method_6_code 3 (some .boolean), .methodLink "ShortenProgramsLaw" 69 yD_asked, .instanceMethod yD_asked, .selects "ShortenProgramsModel" yD_asked yD_asked]
def wA_16 : List Cond := [.code yD_asked prog_7_method_24_code 2 (some .int), .methodLink "ShortenProgramsModel" 152 yD_within, .static yD_within, .code yD_within prog_7_method_4_code 3 (some .boolean), .methodLink "ShortenProgramsLaw" 73 yD_size, .instanceMethod yD_size, .selects "ShortenProgramsModel" yD_size yD_size, .code yD_size prog_7_method_25_code 1 (some .int), .methodLink "ShortenProgramsLaw" 79 yD_at, .instanceMethod yD_at, .selects "ShortenProgramsModel" yD_at yD_at, .code yD_at prog_7_method_26_code 2 (some .int), .methodLink "ShortenProgramsLaw" 82 yD_from, .instanceMethod yD_from, .selects "ShortenProgramsModel" yD_from yD_from, .code yD_from prog_7_method_27_code 2 (some .int), .methodLink "ShortenProgramsLaw" 86 yD_known, .instanceMethod yD_known, .selects "ShortenProgramsModel" yD_known yD_known, .code yD_known prog_7_method_28_code 8 (some .int), .methodLink "ShortenProgramsLaw" 90 yD_count, .instanceMethod yD_count, .selects "ShortenProgramsModel" yD_count yD_count, .code yD_count prog_7_method_29_code 2 (some .int), .arrayClass .long, .sameMethod "java/lang/Throwable" "java/lang/Throwable" "fillInStackTrace" "(I)Ljava/lang/Throwable;", .selects rS yS_startAfresh yS_startAfresh, .selects "java/lang/Throwable" ⟨"java/lang/Throwable", "fillInStackTrace", "(I)Ljava/lang/Throwable;"⟩ ⟨"java/lang/Throwable", "fillInStackTrace", "(I)Ljava/lang/Throwable;"⟩, .selects rS yS_openAsk yS_openAsk, .selects rS yS_takeFirst yS_takeFirst, .selects rW yW_startGoingThrough yW_startGoingThrough, .selects rS yS_take yS_take, .selects rW yW_nextByte yW_nextByte, .selects rW yW_lowerValue yW_lowerValue, .selects rS yS_askNext yS_askNext, .selects rW yW_endGoingThrough yW_endGoingThrough, .selects rW yW_startLowering yW_startLowering, .selects rW yW_canLower yW_canLower, .selects rS yS_ask yS_ask, .selects rD yD_fail yD_fail]
def wA_17 : List Cond := [.selects rD yD_without yD_without, .selects rD yD_put yD_put, .selects rD yD_beginLeaving yD_beginLeaving, .selects rD yD_answered yD_answered, .selects rD yD_takeLeaving yD_takeLeaving, .selects rD yD_takeLowering yD_takeLowering, .selects rD yD_nextByte yD_nextByte, .selects rD yD_goOn yD_goOn, .selects rD yD_prepare yD_prepare, .selects rD yD_endPass yD_endPass, .selects rD yD_beginLowering yD_beginLowering, .selects rD yD_lowerTo yD_lowerTo, .selects rD yD_byteOf yD_byteOf, .selects rD yD_withByte yD_withByte, .selects rD yD_find yD_find, .selects rD yD_isAsked yD_isAsked]
def wA : List Cond := wA_0 ++ (wA_1 ++ (wA_2 ++ (wA_3 ++ (wA_4 ++ (wA_5 ++ (wA_6 ++ (wA_7 ++ (wA_8 ++ (wA_9 ++ (wA_10 ++ (wA_11 ++ (wA_12 ++ (wA_13 ++ (wA_14 ++ (wA_15 ++ (wA_16 ++ (wA_17)))))))))))))))))
theorem wA_s0 : ∀ w ∈ wA_0, w ∈ wA := fun w h => (List.mem_append_left _ h)
theorem wA_s1 : ∀ w ∈ wA_1, w ∈ wA := fun w h => (List.mem_append_right _ (List.mem_append_left _ h))
theorem wA_s2 : ∀ w ∈ wA_2, w ∈ wA := fun w h => (List.mem_append_right _ (List.mem_append_right _ (List.mem_append_left _ h)))
theorem wA_s3 : ∀ w ∈ wA_3, w ∈ wA := fun w h => (List.mem_append_right _ (List.mem_append_right _ (List.mem_append_right _ (List.mem_append_left _ h))))
theorem wA_s4 : ∀ w ∈ wA_4, w ∈ wA := fun w h => (List.mem_append_right _ (List.mem_append_right _ (List.mem_append_right _ (List.mem_append_right _ (List.mem_append_left _ h)))))
theorem wA_s5 : ∀ w ∈ wA_5, w ∈ wA := fun w h => (List.mem_append_right _ (List.mem_append_right _ (List.mem_append_right _ (List.mem_append_right _ (List.mem_append_right _ (List.mem_append_left _ h))))))
theorem wA_s6 : ∀ w ∈ wA_6, w ∈ wA := fun w h => (List.mem_append_right _ (List.mem_append_right _ (List.mem_append_right _ (List.mem_append_right _ (List.mem_append_right _ (List.mem_append_right _ (List.mem_append_left _ h)))))))
theorem wA_s7 : ∀ w ∈ wA_7, w ∈ wA := fun w h => (List.mem_append_right _ (List.mem_append_right _ (List.mem_append_right _ (List.mem_append_right _ (List.mem_append_right _ (List.mem_append_right _ (List.mem_append_right _ (List.mem_append_left _ h))))))))
theorem wA_s8 : ∀ w ∈ wA_8, w ∈ wA := fun w h => (List.mem_append_right _ (List.mem_append_right _ (List.mem_append_right _ (List.mem_append_right _ (List.mem_append_right _ (List.mem_append_right _ (List.mem_append_right _ (List.mem_append_right _ (List.mem_append_left _ h)))))))))
theorem wA_s9 : ∀ w ∈ wA_9, w ∈ wA := fun w h => (List.mem_append_right _ (List.mem_append_right _ (List.mem_append_right _ (List.mem_append_right _ (List.mem_append_right _ (List.mem_append_right _ (List.mem_append_right _ (List.mem_append_right _ (List.mem_append_right _ (List.mem_append_left _ h))))))))))
theorem wA_s10 : ∀ w ∈ wA_10, w ∈ wA := fun w h => (List.mem_append_right _ (List.mem_append_right _ (List.mem_append_right _ (List.mem_append_right _ (List.mem_append_right _ (List.mem_append_right _ (List.mem_append_right _ (List.mem_append_right _ (List.mem_append_right _ (List.mem_append_right _ (List.mem_append_left _ h)))))))))))
theorem wA_s11 : ∀ w ∈ wA_11, w ∈ wA := fun w h => (List.mem_append_right _ (List.mem_append_right _ (List.mem_append_right _ (List.mem_append_right _ (List.mem_append_right _ (List.mem_append_right _ (List.mem_append_right _ (List.mem_append_right _ (List.mem_append_right _ (List.mem_append_right _ (List.mem_append_right _ (List.mem_append_left _ h))))))))))))
theorem wA_s12 : ∀ w ∈ wA_12, w ∈ wA := fun w h => (List.mem_append_right _ (List.mem_append_right _ (List.mem_append_right _ (List.mem_append_right _ (List.mem_append_right _ (List.mem_append_right _ (List.mem_append_right _ (List.mem_append_right _ (List.mem_append_right _ (List.mem_append_right _ (List.mem_append_right _ (List.mem_append_right _ (List.mem_append_left _ h)))))))))))))
theorem wA_s13 : ∀ w ∈ wA_13, w ∈ wA := fun w h => (List.mem_append_right _ (List.mem_append_right _ (List.mem_append_right _ (List.mem_append_right _ (List.mem_append_right _ (List.mem_append_right _ (List.mem_append_right _ (List.mem_append_right _ (List.mem_append_right _ (List.mem_append_right _ (List.mem_append_right _ (List.mem_append_right _ (List.mem_append_right _ (List.mem_append_left _ h))))))))))))))
theorem wA_s14 : ∀ w ∈ wA_14, w ∈ wA := fun w h => (List.mem_append_right _ (List.mem_append_right _ (List.mem_append_right _ (List.mem_append_right _ (List.mem_append_right _ (List.mem_append_right _ (List.mem_append_right _ (List.mem_append_right _ (List.mem_append_right _ (List.mem_append_right _ (List.mem_append_right _ (List.mem_append_right _ (List.mem_append_right _ (List.mem_append_right _ (List.mem_append_left _ h)))))))))))))))
theorem wA_s15 : ∀ w ∈ wA_15, w ∈ wA := fun w h => (List.mem_append_right _ (List.mem_append_right _ (List.mem_append_right _ (List.mem_append_right _ (List.mem_append_right _ (List.mem_append_right _ (List.mem_append_right _ (List.mem_append_right _ (List.mem_append_right _ (List.mem_append_right _ (List.mem_append_right _ (List.mem_append_right _ (List.mem_append_right _ (List.mem_append_right _ (List.mem_append_right _ (List.mem_append_left _ h))))))))))))))))
theorem wA_s16 : ∀ w ∈ wA_16, w ∈ wA := fun w h => (List.mem_append_right _ (List.mem_append_right _ (List.mem_append_right _ (List.mem_append_right _ (List.mem_append_right _ (List.mem_append_right _ (List.mem_append_right _ (List.mem_append_right _ (List.mem_append_right _ (List.mem_append_right _ (List.mem_append_right _ (List.mem_append_right _ (List.mem_append_right _ (List.mem_append_right _ (List.mem_append_right _ (List.mem_append_right _ (List.mem_append_left _ h)))))))))))))))))
theorem wA_s17 : ∀ w ∈ wA_17, w ∈ wA := fun w h => (List.mem_append_right _ (List.mem_append_right _ (List.mem_append_right _ (List.mem_append_right _ (List.mem_append_right _ (List.mem_append_right _ (List.mem_append_right _ (List.mem_append_right _ (List.mem_append_right _ (List.mem_append_right _ (List.mem_append_right _ (List.mem_append_right _ (List.mem_append_right _ (List.mem_append_right _ (List.mem_append_right _ (List.mem_append_right _ (List.mem_append_right _ h)))))))))))))))))
theorem wi_0 : (.initialized "ShortenProgramsLaw" : Cond) ∈ wA := wA_s0 _ (List.mem_of_getElem? (i := 0) rfl)
theorem wi_1 : (.initialized "ShortenPrograms" : Cond) ∈ wA := wA_s0 _ (List.mem_of_getElem? (i := 1) rfl)
theorem wi_2 : (.initialized "java/lang/Math" : Cond) ∈ wA := wA_s0 _ (List.mem_of_getElem? (i := 2) rfl)
theorem wi_3 : (.initialized "ShortenPrograms$Program" : Cond) ∈ wA := wA_s0 _ (List.mem_of_getElem? (i := 3) rfl)
theorem wi_4 : (.initialized "ShortenPrograms$Memory" : Cond) ∈ wA := wA_s0 _ (List.mem_of_getElem? (i := 4) rfl)
theorem wi_5 : (.initialized "ShortenPrograms$Walk" : Cond) ∈ wA := wA_s0 _ (List.mem_of_getElem? (i := 5) rfl)
theorem wi_6 : (.initialized "ShortenProgramsModel" : Cond) ∈ wA := wA_s0 _ (List.mem_of_getElem? (i := 6) rfl)
theorem wi_7 : (.initialized "java/lang/Throwable" : Cond) ∈ wA := wA_s0 _ (List.mem_of_getElem? (i := 7) rfl)
theorem wi_8 : (.initialized "java/lang/Exception" : Cond) ∈ wA := wA_s0 _ (List.mem_of_getElem? (i := 8) rfl)
theorem wi_9 : (.initialized "java/lang/RuntimeException" : Cond) ∈ wA := wA_s0 _ (List.mem_of_getElem? (i := 9) rfl)
theorem wi_10 : (.initialized "java/lang/UnsupportedOperationException" : Cond) ∈ wA := wA_s0 _ (List.mem_of_getElem? (i := 10) rfl)
theorem wi_11 : (.initialized "java/lang/IllegalStateException" : Cond) ∈ wA := wA_s0 _ (List.mem_of_getElem? (i := 11) rfl)
theorem wi_12 : (.initialized "ShortenPrograms$Ask" : Cond) ∈ wA := wA_s0 _ (List.mem_of_getElem? (i := 12) rfl)
theorem wi_13 : (.initialized "java/lang/IndexOutOfBoundsException" : Cond) ∈ wA := wA_s0 _ (List.mem_of_getElem? (i := 13) rfl)
theorem wi_14 : (.initialized "java/lang/IllegalArgumentException" : Cond) ∈ wA := wA_s0 _ (List.mem_of_getElem? (i := 14) rfl)
theorem wi_15 : (.classLink "ShortenProgramsLaw" 8 "ShortenPrograms" : Cond) ∈ wA := wA_s0 _ (List.mem_of_getElem? (i := 15) rfl)
theorem wi_16 : (.instantiable "ShortenPrograms" 11 : Cond) ∈ wA := wA_s0 _ (List.mem_of_getElem? (i := 16) rfl)
theorem wi_17 : (.methodLink "ShortenProgramsLaw" 50 yS_init : Cond) ∈ wA := wA_s0 _ (List.mem_of_getElem? (i := 17) rfl)
theorem wi_18 : (.instanceMethod yS_init : Cond) ∈ wA := wA_s0 _ (List.mem_of_getElem? (i := 18) rfl)
theorem wi_19 : (.code yS_init prog_1_method_1_code 2 none : Cond) ∈ wA := wA_s0 _ (List.mem_of_getElem? (i := 19) rfl)
theorem wi_20 : (.methodLink "ShortenPrograms" 1 ⟨"java/lang/Object", "<init>", "()V"⟩ : Cond) ∈ wA := wA_s0 _ (List.mem_of_getElem? (i := 20) rfl)
theorem wi_21 : (.instanceMethod ⟨"java/lang/Object", "<init>", "()V"⟩ : Cond) ∈ wA := wA_s0 _ (List.mem_of_getElem? (i := 21) rfl)
theorem wi_22 : (.code ⟨"java/lang/Object", "<init>", "()V"⟩ object_method_1_code 1 none : Cond) ∈ wA := wA_s0 _ (List.mem_of_getElem? (i := 22) rfl)
theorem wi_23 : (.constantLong "ShortenPrograms" 9 (600) : Cond) ∈ wA := wA_s0 _ (List.mem_of_getElem? (i := 23) rfl)
theorem wi_24 : (.methodLink "ShortenPrograms" 11 ⟨"java/lang/Math", "floorMod", "(JJ)J"⟩ : Cond) ∈ wA := wA_s0 _ (List.mem_of_getElem? (i := 24) rfl)
theorem wi_25 : (.static ⟨"java/lang/Math", "floorMod", "(JJ)J"⟩ : Cond) ∈ wA := wA_s0 _ (List.mem_of_getElem? (i := 25) rfl)
theorem wi_26 : (.code ⟨"java/lang/Math", "floorMod", "(JJ)J"⟩ prog_12_method_52_code 6 (some .long) : Cond) ∈ wA := wA_s0 _ (List.mem_of_getElem? (i := 26) rfl)
theorem wi_27 : (.classLink "ShortenPrograms" 21 "ShortenPrograms$Program" : Cond) ∈ wA := wA_s0 _ (List.mem_of_getElem? (i := 27) rfl)
theorem wi_28 : (.instantiable "ShortenPrograms$Program" 3 : Cond) ∈ wA := wA_s0 _ (List.mem_of_getElem? (i := 28) rfl)
theorem wi_29 : (.instanceMethod yP_init : Cond) ∈ wA := wA_s0 _ (List.mem_of_getElem? (i := 29) rfl)
theorem wi_30 : (.code yP_init prog_4_method_1_code 1 none : Cond) ∈ wA := wA_s0 _ (List.mem_of_getElem? (i := 30) rfl)
theorem wi_31 : (.methodLink "ShortenPrograms$Program" 3 ⟨"java/lang/Object", "<init>", "()V"⟩ : Cond) ∈ wA := wA_s0 _ (List.mem_of_getElem? (i := 31) rfl)
theorem wi_32 : (.fieldLink "ShortenPrograms$Program" 9 "ShortenPrograms$Program" "words" "[I" : Cond) ∈ wA := wA_s0 _ (List.mem_of_getElem? (i := 32) rfl)
theorem wi_33 : (.fieldLink "ShortenPrograms$Program" 15 "ShortenPrograms$Program" "origins" "[I" : Cond) ∈ wA := wA_s0 _ (List.mem_of_getElem? (i := 33) rfl)
theorem wi_34 : (.fieldLink "ShortenPrograms$Program" 18 "ShortenPrograms$Program" "length" "I" : Cond) ∈ wA := wA_s0 _ (List.mem_of_getElem? (i := 34) rfl)
theorem wi_35 : (.laysFinal "ShortenPrograms$Program" "ShortenPrograms$Program" "words" "[I" : Cond) ∈ wA := wA_s0 _ (List.mem_of_getElem? (i := 35) rfl)
theorem wi_36 : (.soleField "ShortenPrograms$Program" "words" : Cond) ∈ wA := wA_s0 _ (List.mem_of_getElem? (i := 36) rfl)
theorem wi_37 : (.laysFinal "ShortenPrograms$Program" "ShortenPrograms$Program" "origins" "[I" : Cond) ∈ wA := wA_s0 _ (List.mem_of_getElem? (i := 37) rfl)
theorem wi_38 : (.soleField "ShortenPrograms$Program" "origins" : Cond) ∈ wA := wA_s0 _ (List.mem_of_getElem? (i := 38) rfl)
theorem wi_39 : (.lays "ShortenPrograms$Program" "ShortenPrograms$Program" "length" "I" : Cond) ∈ wA := wA_s0 _ (List.mem_of_getElem? (i := 39) rfl)
theorem wi_40 : (.soleField "ShortenPrograms$Program" "length" : Cond) ∈ wA := wA_s1 _ (List.mem_of_getElem? (i := 0) rfl)
theorem wi_41 : (.superclass "ShortenPrograms$Program" "java/lang/Object" : Cond) ∈ wA := wA_s1 _ (List.mem_of_getElem? (i := 1) rfl)
theorem wi_42 : (.arrayClass .int : Cond) ∈ wA := wA_s1 _ (List.mem_of_getElem? (i := 2) rfl)
theorem wi_43 : (.classLink "ShortenPrograms" 31 "ShortenPrograms$Memory" : Cond) ∈ wA := wA_s1 _ (List.mem_of_getElem? (i := 3) rfl)
theorem wi_44 : (.instantiable "ShortenPrograms$Memory" 2 : Cond) ∈ wA := wA_s1 _ (List.mem_of_getElem? (i := 4) rfl)
theorem wi_45 : (.instanceMethod yM_init : Cond) ∈ wA := wA_s1 _ (List.mem_of_getElem? (i := 5) rfl)
theorem wi_46 : (.code yM_init prog_3_method_1_code 1 none : Cond) ∈ wA := wA_s1 _ (List.mem_of_getElem? (i := 6) rfl)
theorem wi_47 : (.methodLink "ShortenPrograms$Memory" 3 ⟨"java/lang/Object", "<init>", "()V"⟩ : Cond) ∈ wA := wA_s1 _ (List.mem_of_getElem? (i := 7) rfl)
theorem wi_48 : (.classLink "ShortenPrograms$Memory" 9 "ShortenPrograms$Ask" : Cond) ∈ wA := wA_s1 _ (List.mem_of_getElem? (i := 8) rfl)
theorem wi_49 : (.fieldLink "ShortenPrograms$Memory" 11 "ShortenPrograms$Memory" "asks" "[LShortenPrograms$Ask;" : Cond) ∈ wA := wA_s1 _ (List.mem_of_getElem? (i := 9) rfl)
theorem wi_50 : (.fieldLink "ShortenPrograms$Memory" 17 "ShortenPrograms$Memory" "filled" "I" : Cond) ∈ wA := wA_s1 _ (List.mem_of_getElem? (i := 10) rfl)
theorem wi_51 : (.laysFinal "ShortenPrograms$Memory" "ShortenPrograms$Memory" "asks" "[LShortenPrograms$Ask;" : Cond) ∈ wA := wA_s1 _ (List.mem_of_getElem? (i := 11) rfl)
theorem wi_52 : (.soleField "ShortenPrograms$Memory" "asks" : Cond) ∈ wA := wA_s1 _ (List.mem_of_getElem? (i := 12) rfl)
theorem wi_53 : (.lays "ShortenPrograms$Memory" "ShortenPrograms$Memory" "filled" "I" : Cond) ∈ wA := wA_s1 _ (List.mem_of_getElem? (i := 13) rfl)
theorem wi_54 : (.soleField "ShortenPrograms$Memory" "filled" : Cond) ∈ wA := wA_s1 _ (List.mem_of_getElem? (i := 14) rfl)
theorem wi_55 : (.superclass "ShortenPrograms$Memory" "java/lang/Object" : Cond) ∈ wA := wA_s1 _ (List.mem_of_getElem? (i := 15) rfl)
theorem wi_56 : (.classLink "ShortenPrograms" 38 "ShortenPrograms$Walk" : Cond) ∈ wA := wA_s1 _ (List.mem_of_getElem? (i := 16) rfl)
theorem wi_57 : (.instantiable "ShortenPrograms$Walk" 8 : Cond) ∈ wA := wA_s1 _ (List.mem_of_getElem? (i := 17) rfl)
theorem wi_58 : (.instanceMethod yW_init : Cond) ∈ wA := wA_s1 _ (List.mem_of_getElem? (i := 18) rfl)
theorem wi_59 : (.code yW_init prog_5_method_1_code 1 none : Cond) ∈ wA := wA_s1 _ (List.mem_of_getElem? (i := 19) rfl)
theorem wi_60 : (.methodLink "ShortenPrograms$Walk" 3 ⟨"java/lang/Object", "<init>", "()V"⟩ : Cond) ∈ wA := wA_s1 _ (List.mem_of_getElem? (i := 20) rfl)
theorem wi_61 : (.fieldLink "ShortenPrograms$Walk" 15 "ShortenPrograms$Walk" "step" "I" : Cond) ∈ wA := wA_s1 _ (List.mem_of_getElem? (i := 21) rfl)
theorem wi_62 : (.fieldLink "ShortenPrograms$Walk" 22 "ShortenPrograms$Walk" "piece" "I" : Cond) ∈ wA := wA_s1 _ (List.mem_of_getElem? (i := 22) rfl)
theorem wi_63 : (.fieldLink "ShortenPrograms$Walk" 25 "ShortenPrograms$Walk" "place" "I" : Cond) ∈ wA := wA_s1 _ (List.mem_of_getElem? (i := 23) rfl)
theorem wi_64 : (.fieldLink "ShortenPrograms$Walk" 28 "ShortenPrograms$Walk" "someLeftOut" "Z" : Cond) ∈ wA := wA_s1 _ (List.mem_of_getElem? (i := 24) rfl)
theorem wi_65 : (.fieldLink "ShortenPrograms$Walk" 32 "ShortenPrograms$Walk" "wordPlace" "I" : Cond) ∈ wA := wA_s1 _ (List.mem_of_getElem? (i := 25) rfl)
theorem wi_66 : (.fieldLink "ShortenPrograms$Walk" 35 "ShortenPrograms$Walk" "bytePlace" "I" : Cond) ∈ wA := wA_s1 _ (List.mem_of_getElem? (i := 26) rfl)
theorem wi_67 : (.fieldLink "ShortenPrograms$Walk" 38 "ShortenPrograms$Walk" "someLowered" "Z" : Cond) ∈ wA := wA_s1 _ (List.mem_of_getElem? (i := 27) rfl)
theorem wi_68 : (.fieldLink "ShortenPrograms$Walk" 9 "ShortenPrograms$Walk" "timesLeaving" "I" : Cond) ∈ wA := wA_s1 _ (List.mem_of_getElem? (i := 28) rfl)
theorem wi_69 : (.lays "ShortenPrograms$Walk" "ShortenPrograms$Walk" "step" "I" : Cond) ∈ wA := wA_s1 _ (List.mem_of_getElem? (i := 29) rfl)
theorem wi_70 : (.soleField "ShortenPrograms$Walk" "step" : Cond) ∈ wA := wA_s1 _ (List.mem_of_getElem? (i := 30) rfl)
theorem wi_71 : (.lays "ShortenPrograms$Walk" "ShortenPrograms$Walk" "piece" "I" : Cond) ∈ wA := wA_s1 _ (List.mem_of_getElem? (i := 31) rfl)
theorem wi_72 : (.soleField "ShortenPrograms$Walk" "piece" : Cond) ∈ wA := wA_s1 _ (List.mem_of_getElem? (i := 32) rfl)
theorem wi_73 : (.lays "ShortenPrograms$Walk" "ShortenPrograms$Walk" "place" "I" : Cond) ∈ wA := wA_s1 _ (List.mem_of_getElem? (i := 33) rfl)
theorem wi_74 : (.soleField "ShortenPrograms$Walk" "place" : Cond) ∈ wA := wA_s1 _ (List.mem_of_getElem? (i := 34) rfl)
theorem wi_75 : (.lays "ShortenPrograms$Walk" "ShortenPrograms$Walk" "someLeftOut" "Z" : Cond) ∈ wA := wA_s1 _ (List.mem_of_getElem? (i := 35) rfl)
theorem wi_76 : (.soleField "ShortenPrograms$Walk" "someLeftOut" : Cond) ∈ wA := wA_s1 _ (List.mem_of_getElem? (i := 36) rfl)
theorem wi_77 : (.lays "ShortenPrograms$Walk" "ShortenPrograms$Walk" "wordPlace" "I" : Cond) ∈ wA := wA_s1 _ (List.mem_of_getElem? (i := 37) rfl)
theorem wi_78 : (.soleField "ShortenPrograms$Walk" "wordPlace" : Cond) ∈ wA := wA_s1 _ (List.mem_of_getElem? (i := 38) rfl)
theorem wi_79 : (.lays "ShortenPrograms$Walk" "ShortenPrograms$Walk" "bytePlace" "I" : Cond) ∈ wA := wA_s1 _ (List.mem_of_getElem? (i := 39) rfl)
theorem wi_80 : (.soleField "ShortenPrograms$Walk" "bytePlace" : Cond) ∈ wA := wA_s2 _ (List.mem_of_getElem? (i := 0) rfl)
theorem wi_81 : (.lays "ShortenPrograms$Walk" "ShortenPrograms$Walk" "someLowered" "Z" : Cond) ∈ wA := wA_s2 _ (List.mem_of_getElem? (i := 1) rfl)
theorem wi_82 : (.soleField "ShortenPrograms$Walk" "someLowered" : Cond) ∈ wA := wA_s2 _ (List.mem_of_getElem? (i := 2) rfl)
theorem wi_83 : (.lays "ShortenPrograms$Walk" "ShortenPrograms$Walk" "timesLeaving" "I" : Cond) ∈ wA := wA_s2 _ (List.mem_of_getElem? (i := 3) rfl)
theorem wi_84 : (.soleField "ShortenPrograms$Walk" "timesLeaving" : Cond) ∈ wA := wA_s2 _ (List.mem_of_getElem? (i := 4) rfl)
theorem wi_85 : (.superclass "ShortenPrograms$Walk" "java/lang/Object" : Cond) ∈ wA := wA_s2 _ (List.mem_of_getElem? (i := 5) rfl)
theorem wi_86 : (.fieldLink "ShortenPrograms" 17 "ShortenPrograms" "budget" "I" : Cond) ∈ wA := wA_s2 _ (List.mem_of_getElem? (i := 6) rfl)
theorem wi_87 : (.fieldLink "ShortenPrograms" 24 "ShortenPrograms" "current" "LShortenPrograms$Program;" : Cond) ∈ wA := wA_s2 _ (List.mem_of_getElem? (i := 7) rfl)
theorem wi_88 : (.fieldLink "ShortenPrograms" 28 "ShortenPrograms" "candidate" "LShortenPrograms$Program;" : Cond) ∈ wA := wA_s2 _ (List.mem_of_getElem? (i := 8) rfl)
theorem wi_89 : (.fieldLink "ShortenPrograms" 34 "ShortenPrograms" "memory" "LShortenPrograms$Memory;" : Cond) ∈ wA := wA_s2 _ (List.mem_of_getElem? (i := 9) rfl)
theorem wi_90 : (.fieldLink "ShortenPrograms" 41 "ShortenPrograms" "walk" "LShortenPrograms$Walk;" : Cond) ∈ wA := wA_s2 _ (List.mem_of_getElem? (i := 10) rfl)
theorem wi_91 : (.fieldLink "ShortenPrograms" 45 "ShortenPrograms" "state" "I" : Cond) ∈ wA := wA_s2 _ (List.mem_of_getElem? (i := 11) rfl)
theorem wi_92 : (.fieldLink "ShortenPrograms" 48 "ShortenPrograms" "theDifference" "I" : Cond) ∈ wA := wA_s2 _ (List.mem_of_getElem? (i := 12) rfl)
theorem wi_93 : (.fieldLink "ShortenPrograms" 156 "ShortenPrograms" "remembered" "I" : Cond) ∈ wA := wA_s2 _ (List.mem_of_getElem? (i := 13) rfl)
theorem wi_94 : (.fieldLink "ShortenPrograms" 159 "ShortenPrograms" "good" "I" : Cond) ∈ wA := wA_s2 _ (List.mem_of_getElem? (i := 14) rfl)
theorem wi_95 : (.fieldLink "ShortenPrograms" 162 "ShortenPrograms" "leftOut" "I" : Cond) ∈ wA := wA_s2 _ (List.mem_of_getElem? (i := 15) rfl)
theorem wi_96 : (.fieldLink "ShortenPrograms" 165 "ShortenPrograms" "lowered" "I" : Cond) ∈ wA := wA_s2 _ (List.mem_of_getElem? (i := 16) rfl)
theorem wi_97 : (.laysFinal "ShortenPrograms" "ShortenPrograms" "budget" "I" : Cond) ∈ wA := wA_s2 _ (List.mem_of_getElem? (i := 17) rfl)
theorem wi_98 : (.soleField "ShortenPrograms" "budget" : Cond) ∈ wA := wA_s2 _ (List.mem_of_getElem? (i := 18) rfl)
theorem wi_99 : (.laysFinal "ShortenPrograms" "ShortenPrograms" "current" "LShortenPrograms$Program;" : Cond) ∈ wA := wA_s2 _ (List.mem_of_getElem? (i := 19) rfl)
theorem wi_100 : (.soleField "ShortenPrograms" "current" : Cond) ∈ wA := wA_s2 _ (List.mem_of_getElem? (i := 20) rfl)
theorem wi_101 : (.laysFinal "ShortenPrograms" "ShortenPrograms" "candidate" "LShortenPrograms$Program;" : Cond) ∈ wA := wA_s2 _ (List.mem_of_getElem? (i := 21) rfl)
theorem wi_102 : (.soleField "ShortenPrograms" "candidate" : Cond) ∈ wA := wA_s2 _ (List.mem_of_getElem? (i := 22) rfl)
theorem wi_103 : (.laysFinal "ShortenPrograms" "ShortenPrograms" "memory" "LShortenPrograms$Memory;" : Cond) ∈ wA := wA_s2 _ (List.mem_of_getElem? (i := 23) rfl)
theorem wi_104 : (.soleField "ShortenPrograms" "memory" : Cond) ∈ wA := wA_s2 _ (List.mem_of_getElem? (i := 24) rfl)
theorem wi_105 : (.laysFinal "ShortenPrograms" "ShortenPrograms" "walk" "LShortenPrograms$Walk;" : Cond) ∈ wA := wA_s2 _ (List.mem_of_getElem? (i := 25) rfl)
theorem wi_106 : (.soleField "ShortenPrograms" "walk" : Cond) ∈ wA := wA_s2 _ (List.mem_of_getElem? (i := 26) rfl)
theorem wi_107 : (.lays "ShortenPrograms" "ShortenPrograms" "state" "I" : Cond) ∈ wA := wA_s2 _ (List.mem_of_getElem? (i := 27) rfl)
theorem wi_108 : (.soleField "ShortenPrograms" "state" : Cond) ∈ wA := wA_s2 _ (List.mem_of_getElem? (i := 28) rfl)
theorem wi_109 : (.lays "ShortenPrograms" "ShortenPrograms" "theDifference" "I" : Cond) ∈ wA := wA_s2 _ (List.mem_of_getElem? (i := 29) rfl)
theorem wi_110 : (.soleField "ShortenPrograms" "theDifference" : Cond) ∈ wA := wA_s2 _ (List.mem_of_getElem? (i := 30) rfl)
theorem wi_111 : (.lays "ShortenPrograms" "ShortenPrograms" "remembered" "I" : Cond) ∈ wA := wA_s2 _ (List.mem_of_getElem? (i := 31) rfl)
theorem wi_112 : (.soleField "ShortenPrograms" "remembered" : Cond) ∈ wA := wA_s2 _ (List.mem_of_getElem? (i := 32) rfl)
theorem wi_113 : (.lays "ShortenPrograms" "ShortenPrograms" "good" "I" : Cond) ∈ wA := wA_s2 _ (List.mem_of_getElem? (i := 33) rfl)
theorem wi_114 : (.soleField "ShortenPrograms" "good" : Cond) ∈ wA := wA_s2 _ (List.mem_of_getElem? (i := 34) rfl)
theorem wi_115 : (.lays "ShortenPrograms" "ShortenPrograms" "leftOut" "I" : Cond) ∈ wA := wA_s2 _ (List.mem_of_getElem? (i := 35) rfl)
theorem wi_116 : (.soleField "ShortenPrograms" "leftOut" : Cond) ∈ wA := wA_s2 _ (List.mem_of_getElem? (i := 36) rfl)
theorem wi_117 : (.lays "ShortenPrograms" "ShortenPrograms" "lowered" "I" : Cond) ∈ wA := wA_s2 _ (List.mem_of_getElem? (i := 37) rfl)
theorem wi_118 : (.soleField "ShortenPrograms" "lowered" : Cond) ∈ wA := wA_s2 _ (List.mem_of_getElem? (i := 38) rfl)
theorem wi_119 : (.superclass "ShortenPrograms" "java/lang/Object" : Cond) ∈ wA := wA_s2 _ (List.mem_of_getElem? (i := 39) rfl)
theorem wi_120 : (.methodLink "ShortenProgramsLaw" 87 yS_count : Cond) ∈ wA := wA_s3 _ (List.mem_of_getElem? (i := 0) rfl)
theorem wi_121 : (.instanceMethod yS_count : Cond) ∈ wA := wA_s3 _ (List.mem_of_getElem? (i := 1) rfl)
theorem wi_122 : (.selects "ShortenPrograms" yS_count yS_count : Cond) ∈ wA := wA_s3 _ (List.mem_of_getElem? (i := 2) rfl)
theorem wi_123 : (.code yS_count prog_1_method_10_code 2 (some .int) : Cond) ∈ wA := wA_s3 _ (List.mem_of_getElem? (i := 3) rfl)
theorem wi_124 : (.methodLink "ShortenPrograms" 69 yP_length : Cond) ∈ wA := wA_s3 _ (List.mem_of_getElem? (i := 4) rfl)
theorem wi_125 : (.instanceMethod yP_length : Cond) ∈ wA := wA_s3 _ (List.mem_of_getElem? (i := 5) rfl)
theorem wi_126 : (.selects "ShortenPrograms$Program" yP_length yP_length : Cond) ∈ wA := wA_s3 _ (List.mem_of_getElem? (i := 6) rfl)
theorem wi_127 : (.code yP_length prog_4_method_2_code 1 (some .int) : Cond) ∈ wA := wA_s3 _ (List.mem_of_getElem? (i := 7) rfl)
theorem wi_128 : (.methodLink "ShortenPrograms" 153 yM_filled : Cond) ∈ wA := wA_s3 _ (List.mem_of_getElem? (i := 8) rfl)
theorem wi_129 : (.instanceMethod yM_filled : Cond) ∈ wA := wA_s3 _ (List.mem_of_getElem? (i := 9) rfl)
theorem wi_130 : (.selects "ShortenPrograms$Memory" yM_filled yM_filled : Cond) ∈ wA := wA_s3 _ (List.mem_of_getElem? (i := 10) rfl)
theorem wi_131 : (.code yM_filled prog_3_method_2_code 1 (some .int) : Cond) ∈ wA := wA_s3 _ (List.mem_of_getElem? (i := 11) rfl)
theorem wi_132 : (.methodLink "ShortenPrograms" 168 yW_timesLeaving : Cond) ∈ wA := wA_s3 _ (List.mem_of_getElem? (i := 12) rfl)
theorem wi_133 : (.instanceMethod yW_timesLeaving : Cond) ∈ wA := wA_s3 _ (List.mem_of_getElem? (i := 13) rfl)
theorem wi_134 : (.selects "ShortenPrograms$Walk" yW_timesLeaving yW_timesLeaving : Cond) ∈ wA := wA_s3 _ (List.mem_of_getElem? (i := 14) rfl)
theorem wi_135 : (.code yW_timesLeaving prog_5_method_2_code 1 (some .int) : Cond) ∈ wA := wA_s3 _ (List.mem_of_getElem? (i := 15) rfl)
theorem wi_136 : (.methodLink "ShortenProgramsLaw" 44 yL_cell : Cond) ∈ wA := wA_s3 _ (List.mem_of_getElem? (i := 16) rfl)
theorem wi_137 : (.static yL_cell : Cond) ∈ wA := wA_s3 _ (List.mem_of_getElem? (i := 17) rfl)
theorem wi_138 : (.code yL_cell method_2_code 2 (some .int) : Cond) ∈ wA := wA_s3 _ (List.mem_of_getElem? (i := 18) rfl)
theorem wi_139 : (.methodLink "ShortenProgramsLaw" 56 yL_feed : Cond) ∈ wA := wA_s3 _ (List.mem_of_getElem? (i := 19) rfl)
theorem wi_140 : (.static yL_feed : Cond) ∈ wA := wA_s3 _ (List.mem_of_getElem? (i := 20) rfl)
theorem wi_141 : (.codeWith yL_feed method_3_code 4 (some .int) [(0, 9, 12, 13)] : Cond) ∈ wA := wA_s3 _ (List.mem_of_getElem? (i := 21) rfl)
theorem wi_142 : (.classLink "ShortenProgramsLaw" 13 "java/lang/UnsupportedOperationException" : Cond) ∈ wA := wA_s3 _ (List.mem_of_getElem? (i := 22) rfl)
theorem wi_143 : (.methodLink "ShortenProgramsLaw" 7 yS_feed : Cond) ∈ wA := wA_s3 _ (List.mem_of_getElem? (i := 23) rfl)
theorem wi_144 : (.instanceMethod yS_feed : Cond) ∈ wA := wA_s3 _ (List.mem_of_getElem? (i := 24) rfl)
theorem wi_145 : (.selects "ShortenPrograms" yS_feed yS_feed : Cond) ∈ wA := wA_s3 _ (List.mem_of_getElem? (i := 25) rfl)
theorem wi_146 : (.code yS_feed prog_1_method_2_code 2 (some .int) : Cond) ∈ wA := wA_s3 _ (List.mem_of_getElem? (i := 26) rfl)
theorem wi_147 : (.methodLink "ShortenPrograms" 51 yS_startAfresh : Cond) ∈ wA := wA_s3 _ (List.mem_of_getElem? (i := 27) rfl)
theorem wi_148 : (.instanceMethod yS_startAfresh : Cond) ∈ wA := wA_s3 _ (List.mem_of_getElem? (i := 28) rfl)
theorem wi_149 : (.code yS_startAfresh prog_1_method_11_code 1 none : Cond) ∈ wA := wA_s3 _ (List.mem_of_getElem? (i := 29) rfl)
theorem wi_150 : (.methodLink "ShortenPrograms" 171 yP_clear : Cond) ∈ wA := wA_s3 _ (List.mem_of_getElem? (i := 30) rfl)
theorem wi_151 : (.instanceMethod yP_clear : Cond) ∈ wA := wA_s3 _ (List.mem_of_getElem? (i := 31) rfl)
theorem wi_152 : (.selects "ShortenPrograms$Program" yP_clear yP_clear : Cond) ∈ wA := wA_s3 _ (List.mem_of_getElem? (i := 32) rfl)
theorem wi_153 : (.code yP_clear prog_4_method_7_code 1 none : Cond) ∈ wA := wA_s3 _ (List.mem_of_getElem? (i := 33) rfl)
theorem wi_154 : (.methodLink "ShortenPrograms" 174 yM_clear : Cond) ∈ wA := wA_s3 _ (List.mem_of_getElem? (i := 34) rfl)
theorem wi_155 : (.instanceMethod yM_clear : Cond) ∈ wA := wA_s3 _ (List.mem_of_getElem? (i := 35) rfl)
theorem wi_156 : (.selects "ShortenPrograms$Memory" yM_clear yM_clear : Cond) ∈ wA := wA_s3 _ (List.mem_of_getElem? (i := 36) rfl)
theorem wi_157 : (.code yM_clear prog_3_method_3_code 1 none : Cond) ∈ wA := wA_s3 _ (List.mem_of_getElem? (i := 37) rfl)
theorem wi_158 : (.methodLink "ShortenPrograms" 175 yW_clear : Cond) ∈ wA := wA_s3 _ (List.mem_of_getElem? (i := 38) rfl)
theorem wi_159 : (.instanceMethod yW_clear : Cond) ∈ wA := wA_s3 _ (List.mem_of_getElem? (i := 39) rfl)
theorem wi_160 : (.selects "ShortenPrograms$Walk" yW_clear yW_clear : Cond) ∈ wA := wA_s4 _ (List.mem_of_getElem? (i := 0) rfl)
theorem wi_161 : (.code yW_clear prog_5_method_4_code 1 none : Cond) ∈ wA := wA_s4 _ (List.mem_of_getElem? (i := 1) rfl)
theorem wi_162 : (.methodLink "ShortenPrograms" 54 yP_isFull : Cond) ∈ wA := wA_s4 _ (List.mem_of_getElem? (i := 2) rfl)
theorem wi_163 : (.instanceMethod yP_isFull : Cond) ∈ wA := wA_s4 _ (List.mem_of_getElem? (i := 3) rfl)
theorem wi_164 : (.selects "ShortenPrograms$Program" yP_isFull yP_isFull : Cond) ∈ wA := wA_s4 _ (List.mem_of_getElem? (i := 4) rfl)
theorem wi_165 : (.code yP_isFull prog_4_method_3_code 1 (some .boolean) : Cond) ∈ wA := wA_s4 _ (List.mem_of_getElem? (i := 5) rfl)
theorem wi_166 : (.classLink "ShortenPrograms" 58 "java/lang/UnsupportedOperationException" : Cond) ∈ wA := wA_s4 _ (List.mem_of_getElem? (i := 6) rfl)
theorem wi_167 : (.instantiable "java/lang/UnsupportedOperationException" 6 : Cond) ∈ wA := wA_s4 _ (List.mem_of_getElem? (i := 7) rfl)
theorem wi_168 : (.selects "java/lang/UnsupportedOperationException" ⟨"java/lang/Throwable", "fillInStackTrace", "(I)Ljava/lang/Throwable;"⟩ ⟨"java/lang/Throwable", "fillInStackTrace", "(I)Ljava/lang/Throwable;"⟩ : Cond) ∈ wA := wA_s4 _ (List.mem_of_getElem? (i := 8) rfl)
theorem wi_169 : (.selects "java/lang/UnsupportedOperationException" ⟨"java/lang/Throwable", "fillInStackTrace", "()Ljava/lang/Throwable;"⟩ ⟨"java/lang/Throwable", "fillInStackTrace", "()Ljava/lang/Throwable;"⟩ : Cond) ∈ wA := wA_s4 _ (List.mem_of_getElem? (i := 9) rfl)
theorem wi_170 : (.lays "java/lang/UnsupportedOperationException" "java/lang/Throwable" "cause" "Ljava/lang/Throwable;" : Cond) ∈ wA := wA_s4 _ (List.mem_of_getElem? (i := 10) rfl)
theorem wi_171 : (.lays "java/lang/Throwable" "java/lang/Throwable" "cause" "Ljava/lang/Throwable;" : Cond) ∈ wA := wA_s4 _ (List.mem_of_getElem? (i := 11) rfl)
theorem wi_172 : (.lays "java/lang/UnsupportedOperationException" "java/lang/Throwable" "stackTrace" "[Ljava/lang/StackTraceElement;" : Cond) ∈ wA := wA_s4 _ (List.mem_of_getElem? (i := 12) rfl)
theorem wi_173 : (.lays "java/lang/Throwable" "java/lang/Throwable" "stackTrace" "[Ljava/lang/StackTraceElement;" : Cond) ∈ wA := wA_s4 _ (List.mem_of_getElem? (i := 13) rfl)
theorem wi_174 : (.lays "java/lang/UnsupportedOperationException" "java/lang/Throwable" "suppressedExceptions" "Ljava/util/List;" : Cond) ∈ wA := wA_s4 _ (List.mem_of_getElem? (i := 14) rfl)
theorem wi_175 : (.lays "java/lang/Throwable" "java/lang/Throwable" "suppressedExceptions" "Ljava/util/List;" : Cond) ∈ wA := wA_s4 _ (List.mem_of_getElem? (i := 15) rfl)
theorem wi_176 : (.lays "java/lang/UnsupportedOperationException" "java/lang/Throwable" "detailMessage" "Ljava/lang/String;" : Cond) ∈ wA := wA_s4 _ (List.mem_of_getElem? (i := 16) rfl)
theorem wi_177 : (.lays "java/lang/Throwable" "java/lang/Throwable" "detailMessage" "Ljava/lang/String;" : Cond) ∈ wA := wA_s4 _ (List.mem_of_getElem? (i := 17) rfl)
theorem wi_178 : (.lays "java/lang/UnsupportedOperationException" "java/lang/Throwable" "backtrace" "Ljava/lang/Object;" : Cond) ∈ wA := wA_s4 _ (List.mem_of_getElem? (i := 18) rfl)
theorem wi_179 : (.lays "java/lang/Throwable" "java/lang/Throwable" "backtrace" "Ljava/lang/Object;" : Cond) ∈ wA := wA_s4 _ (List.mem_of_getElem? (i := 19) rfl)
theorem wi_180 : (.fieldLink "java/lang/Throwable" 198 "java/lang/Throwable" "backtrace" "Ljava/lang/Object;" : Cond) ∈ wA := wA_s4 _ (List.mem_of_getElem? (i := 20) rfl)
theorem wi_181 : (.superclass "java/lang/Throwable" "java/lang/Object" : Cond) ∈ wA := wA_s4 _ (List.mem_of_getElem? (i := 21) rfl)
theorem wi_182 : (.instanceMethod ⟨"java/lang/Throwable", "<init>", "()V"⟩ : Cond) ∈ wA := wA_s4 _ (List.mem_of_getElem? (i := 22) rfl)
theorem wi_183 : (.code ⟨"java/lang/Throwable", "<init>", "()V"⟩ prog_15_method_1_code 1 none : Cond) ∈ wA := wA_s4 _ (List.mem_of_getElem? (i := 23) rfl)
theorem wi_184 : (.methodLink "java/lang/Throwable" 1 ⟨"java/lang/Object", "<init>", "()V"⟩ : Cond) ∈ wA := wA_s4 _ (List.mem_of_getElem? (i := 24) rfl)
theorem wi_185 : (.fieldLink "java/lang/Throwable" 13 "java/lang/Throwable" "UNASSIGNED_STACK" "[Ljava/lang/StackTraceElement;" : Cond) ∈ wA := wA_s4 _ (List.mem_of_getElem? (i := 25) rfl)
theorem wi_186 : (.fieldLink "java/lang/Throwable" 20 "java/lang/Throwable" "SUPPRESSED_SENTINEL" "Ljava/util/List;" : Cond) ∈ wA := wA_s4 _ (List.mem_of_getElem? (i := 26) rfl)
theorem wi_187 : (.methodLink "java/lang/Throwable" 27 ⟨"java/lang/Throwable", "fillInStackTrace", "()Ljava/lang/Throwable;"⟩ : Cond) ∈ wA := wA_s4 _ (List.mem_of_getElem? (i := 27) rfl)
theorem wi_188 : (.instanceMethod ⟨"java/lang/Throwable", "fillInStackTrace", "()Ljava/lang/Throwable;"⟩ : Cond) ∈ wA := wA_s4 _ (List.mem_of_getElem? (i := 28) rfl)
theorem wi_189 : (.sameMethod "java/lang/Throwable" "java/lang/Throwable" "fillInStackTrace" "()Ljava/lang/Throwable;" : Cond) ∈ wA := wA_s4 _ (List.mem_of_getElem? (i := 29) rfl)
theorem wi_190 : (.selects "java/lang/IllegalArgumentException" ⟨"java/lang/Throwable", "fillInStackTrace", "()Ljava/lang/Throwable;"⟩ ⟨"java/lang/Throwable", "fillInStackTrace", "()Ljava/lang/Throwable;"⟩ : Cond) ∈ wA := wA_s4 _ (List.mem_of_getElem? (i := 30) rfl)
theorem wi_191 : (.selects "java/lang/IllegalStateException" ⟨"java/lang/Throwable", "fillInStackTrace", "()Ljava/lang/Throwable;"⟩ ⟨"java/lang/Throwable", "fillInStackTrace", "()Ljava/lang/Throwable;"⟩ : Cond) ∈ wA := wA_s4 _ (List.mem_of_getElem? (i := 31) rfl)
theorem wi_192 : (.selects "java/lang/IndexOutOfBoundsException" ⟨"java/lang/Throwable", "fillInStackTrace", "()Ljava/lang/Throwable;"⟩ ⟨"java/lang/Throwable", "fillInStackTrace", "()Ljava/lang/Throwable;"⟩ : Cond) ∈ wA := wA_s4 _ (List.mem_of_getElem? (i := 32) rfl)
theorem wi_193 : (.codeSync ⟨"java/lang/Throwable", "fillInStackTrace", "()Ljava/lang/Throwable;"⟩ prog_15_method_18_code 1 (some (.object "java/lang/Throwable")) : Cond) ∈ wA := wA_s4 _ (List.mem_of_getElem? (i := 33) rfl)
theorem wi_194 : (.methodLink "java/lang/Throwable" 202 ⟨"java/lang/Throwable", "fillInStackTrace", "(I)Ljava/lang/Throwable;"⟩ : Cond) ∈ wA := wA_s4 _ (List.mem_of_getElem? (i := 34) rfl)
theorem wi_195 : (.instanceMethod ⟨"java/lang/Throwable", "fillInStackTrace", "(I)Ljava/lang/Throwable;"⟩ : Cond) ∈ wA := wA_s4 _ (List.mem_of_getElem? (i := 35) rfl)
theorem wi_196 : (.instantiable "java/lang/Throwable" 6 : Cond) ∈ wA := wA_s4 _ (List.mem_of_getElem? (i := 36) rfl)
theorem wi_197 : (.native ⟨"java/lang/Throwable", "fillInStackTrace", "(I)Ljava/lang/Throwable;"⟩ : Cond) ∈ wA := wA_s4 _ (List.mem_of_getElem? (i := 37) rfl)
theorem wi_198 : (.methodLink "ShortenPrograms" 62 ⟨"java/lang/UnsupportedOperationException", "<init>", "(Ljava/lang/String;)V"⟩ : Cond) ∈ wA := wA_s4 _ (List.mem_of_getElem? (i := 38) rfl)
theorem wi_199 : (.instanceMethod ⟨"java/lang/UnsupportedOperationException", "<init>", "(Ljava/lang/String;)V"⟩ : Cond) ∈ wA := wA_s4 _ (List.mem_of_getElem? (i := 39) rfl)
theorem wi_200 : (.code ⟨"java/lang/UnsupportedOperationException", "<init>", "(Ljava/lang/String;)V"⟩ prog_16_method_2_code 2 none : Cond) ∈ wA := wA_s5 _ (List.mem_of_getElem? (i := 0) rfl)
theorem wi_201 : (.methodLink "java/lang/UnsupportedOperationException" 7 ⟨"java/lang/RuntimeException", "<init>", "(Ljava/lang/String;)V"⟩ : Cond) ∈ wA := wA_s5 _ (List.mem_of_getElem? (i := 1) rfl)
theorem wi_202 : (.instanceMethod ⟨"java/lang/RuntimeException", "<init>", "(Ljava/lang/String;)V"⟩ : Cond) ∈ wA := wA_s5 _ (List.mem_of_getElem? (i := 2) rfl)
theorem wi_203 : (.code ⟨"java/lang/RuntimeException", "<init>", "(Ljava/lang/String;)V"⟩ prog_13_method_2_code 2 none : Cond) ∈ wA := wA_s5 _ (List.mem_of_getElem? (i := 3) rfl)
theorem wi_204 : (.methodLink "java/lang/RuntimeException" 7 ⟨"java/lang/Exception", "<init>", "(Ljava/lang/String;)V"⟩ : Cond) ∈ wA := wA_s5 _ (List.mem_of_getElem? (i := 4) rfl)
theorem wi_205 : (.instanceMethod ⟨"java/lang/Exception", "<init>", "(Ljava/lang/String;)V"⟩ : Cond) ∈ wA := wA_s5 _ (List.mem_of_getElem? (i := 5) rfl)
theorem wi_206 : (.code ⟨"java/lang/Exception", "<init>", "(Ljava/lang/String;)V"⟩ prog_8_method_2_code 2 none : Cond) ∈ wA := wA_s5 _ (List.mem_of_getElem? (i := 6) rfl)
theorem wi_207 : (.methodLink "java/lang/Exception" 7 ⟨"java/lang/Throwable", "<init>", "(Ljava/lang/String;)V"⟩ : Cond) ∈ wA := wA_s5 _ (List.mem_of_getElem? (i := 7) rfl)
theorem wi_208 : (.instanceMethod ⟨"java/lang/Throwable", "<init>", "(Ljava/lang/String;)V"⟩ : Cond) ∈ wA := wA_s5 _ (List.mem_of_getElem? (i := 8) rfl)
theorem wi_209 : (.code ⟨"java/lang/Throwable", "<init>", "(Ljava/lang/String;)V"⟩ prog_15_method_2_code 2 none : Cond) ∈ wA := wA_s5 _ (List.mem_of_getElem? (i := 9) rfl)
theorem wi_210 : (.fieldLink "java/lang/Throwable" 198 "java/lang/Throwable" "backtrace" "Ljava/lang/Object;" : Cond) ∈ wA := wA_s5 _ (List.mem_of_getElem? (i := 10) rfl)
theorem wi_211 : (.fieldLink "java/lang/Throwable" 31 "java/lang/Throwable" "detailMessage" "Ljava/lang/String;" : Cond) ∈ wA := wA_s5 _ (List.mem_of_getElem? (i := 11) rfl)
theorem wi_212 : (.fieldLink "java/lang/Throwable" 7 "java/lang/Throwable" "cause" "Ljava/lang/Throwable;" : Cond) ∈ wA := wA_s5 _ (List.mem_of_getElem? (i := 12) rfl)
theorem wi_213 : (.fieldLink "java/lang/Throwable" 17 "java/lang/Throwable" "stackTrace" "[Ljava/lang/StackTraceElement;" : Cond) ∈ wA := wA_s5 _ (List.mem_of_getElem? (i := 13) rfl)
theorem wi_214 : (.fieldLink "java/lang/Throwable" 24 "java/lang/Throwable" "suppressedExceptions" "Ljava/util/List;" : Cond) ∈ wA := wA_s5 _ (List.mem_of_getElem? (i := 14) rfl)
theorem wi_215 : (.soleField "java/lang/Throwable" "backtrace" : Cond) ∈ wA := wA_s5 _ (List.mem_of_getElem? (i := 15) rfl)
theorem wi_216 : (.soleField "java/lang/Throwable" "detailMessage" : Cond) ∈ wA := wA_s5 _ (List.mem_of_getElem? (i := 16) rfl)
theorem wi_217 : (.soleField "java/lang/Throwable" "cause" : Cond) ∈ wA := wA_s5 _ (List.mem_of_getElem? (i := 17) rfl)
theorem wi_218 : (.soleField "java/lang/Throwable" "stackTrace" : Cond) ∈ wA := wA_s5 _ (List.mem_of_getElem? (i := 18) rfl)
theorem wi_219 : (.lays "java/lang/UnsupportedOperationException" "java/lang/Throwable" "depth" "I" : Cond) ∈ wA := wA_s5 _ (List.mem_of_getElem? (i := 19) rfl)
theorem wi_220 : (.soleField "java/lang/Throwable" "depth" : Cond) ∈ wA := wA_s5 _ (List.mem_of_getElem? (i := 20) rfl)
theorem wi_221 : (.soleField "java/lang/Throwable" "suppressedExceptions" : Cond) ∈ wA := wA_s5 _ (List.mem_of_getElem? (i := 21) rfl)
theorem wi_222 : (.superclass "java/lang/UnsupportedOperationException" "java/lang/RuntimeException" : Cond) ∈ wA := wA_s5 _ (List.mem_of_getElem? (i := 22) rfl)
theorem wi_223 : (.arrayClass .byte : Cond) ∈ wA := wA_s5 _ (List.mem_of_getElem? (i := 23) rfl)
theorem wi_224 : (.methodLink "ShortenPrograms" 65 yP_append : Cond) ∈ wA := wA_s5 _ (List.mem_of_getElem? (i := 24) rfl)
theorem wi_225 : (.instanceMethod yP_append : Cond) ∈ wA := wA_s5 _ (List.mem_of_getElem? (i := 25) rfl)
theorem wi_226 : (.selects "ShortenPrograms$Program" yP_append yP_append : Cond) ∈ wA := wA_s5 _ (List.mem_of_getElem? (i := 26) rfl)
theorem wi_227 : (.code yP_append prog_4_method_8_code 2 none : Cond) ∈ wA := wA_s5 _ (List.mem_of_getElem? (i := 27) rfl)
theorem wi_228 : (.methodLink "ShortenProgramsLaw" 63 yL_begin : Cond) ∈ wA := wA_s5 _ (List.mem_of_getElem? (i := 28) rfl)
theorem wi_229 : (.static yL_begin : Cond) ∈ wA := wA_s5 _ (List.mem_of_getElem? (i := 29) rfl)
theorem wi_230 : (.codeWith yL_begin method_4_code 2 (some .int) [(0, 4, 7, 18)] : Cond) ∈ wA := wA_s5 _ (List.mem_of_getElem? (i := 30) rfl)
theorem wi_231 : (.classLink "ShortenProgramsLaw" 18 "java/lang/IllegalStateException" : Cond) ∈ wA := wA_s5 _ (List.mem_of_getElem? (i := 31) rfl)
theorem wi_232 : (.methodLink "ShortenProgramsLaw" 15 yS_begin : Cond) ∈ wA := wA_s5 _ (List.mem_of_getElem? (i := 32) rfl)
theorem wi_233 : (.instanceMethod yS_begin : Cond) ∈ wA := wA_s5 _ (List.mem_of_getElem? (i := 33) rfl)
theorem wi_234 : (.selects "ShortenPrograms" yS_begin yS_begin : Cond) ∈ wA := wA_s5 _ (List.mem_of_getElem? (i := 34) rfl)
theorem wi_235 : (.code yS_begin prog_1_method_3_code 1 none : Cond) ∈ wA := wA_s5 _ (List.mem_of_getElem? (i := 35) rfl)
theorem wi_236 : (.classLink "ShortenPrograms" 73 "java/lang/IllegalStateException" : Cond) ∈ wA := wA_s5 _ (List.mem_of_getElem? (i := 36) rfl)
theorem wi_237 : (.instantiable "java/lang/IllegalStateException" 6 : Cond) ∈ wA := wA_s5 _ (List.mem_of_getElem? (i := 37) rfl)
theorem wi_238 : (.selects "java/lang/IllegalStateException" ⟨"java/lang/Throwable", "fillInStackTrace", "(I)Ljava/lang/Throwable;"⟩ ⟨"java/lang/Throwable", "fillInStackTrace", "(I)Ljava/lang/Throwable;"⟩ : Cond) ∈ wA := wA_s5 _ (List.mem_of_getElem? (i := 38) rfl)
theorem wi_239 : (.lays "java/lang/IllegalStateException" "java/lang/Throwable" "cause" "Ljava/lang/Throwable;" : Cond) ∈ wA := wA_s5 _ (List.mem_of_getElem? (i := 39) rfl)
theorem wi_240 : (.lays "java/lang/IllegalStateException" "java/lang/Throwable" "stackTrace" "[Ljava/lang/StackTraceElement;" : Cond) ∈ wA := wA_s6 _ (List.mem_of_getElem? (i := 0) rfl)
theorem wi_241 : (.lays "java/lang/IllegalStateException" "java/lang/Throwable" "suppressedExceptions" "Ljava/util/List;" : Cond) ∈ wA := wA_s6 _ (List.mem_of_getElem? (i := 1) rfl)
theorem wi_242 : (.lays "java/lang/IllegalStateException" "java/lang/Throwable" "detailMessage" "Ljava/lang/String;" : Cond) ∈ wA := wA_s6 _ (List.mem_of_getElem? (i := 2) rfl)
theorem wi_243 : (.lays "java/lang/IllegalStateException" "java/lang/Throwable" "backtrace" "Ljava/lang/Object;" : Cond) ∈ wA := wA_s6 _ (List.mem_of_getElem? (i := 3) rfl)
theorem wi_244 : (.methodLink "ShortenPrograms" 77 ⟨"java/lang/IllegalStateException", "<init>", "(Ljava/lang/String;)V"⟩ : Cond) ∈ wA := wA_s6 _ (List.mem_of_getElem? (i := 4) rfl)
theorem wi_245 : (.instanceMethod ⟨"java/lang/IllegalStateException", "<init>", "(Ljava/lang/String;)V"⟩ : Cond) ∈ wA := wA_s6 _ (List.mem_of_getElem? (i := 5) rfl)
theorem wi_246 : (.code ⟨"java/lang/IllegalStateException", "<init>", "(Ljava/lang/String;)V"⟩ prog_10_method_2_code 2 none : Cond) ∈ wA := wA_s6 _ (List.mem_of_getElem? (i := 6) rfl)
theorem wi_247 : (.methodLink "java/lang/IllegalStateException" 7 ⟨"java/lang/RuntimeException", "<init>", "(Ljava/lang/String;)V"⟩ : Cond) ∈ wA := wA_s6 _ (List.mem_of_getElem? (i := 7) rfl)
theorem wi_248 : (.lays "java/lang/IllegalStateException" "java/lang/Throwable" "depth" "I" : Cond) ∈ wA := wA_s6 _ (List.mem_of_getElem? (i := 8) rfl)
theorem wi_249 : (.superclass "java/lang/IllegalStateException" "java/lang/RuntimeException" : Cond) ∈ wA := wA_s6 _ (List.mem_of_getElem? (i := 9) rfl)
theorem wi_250 : (.methodLink "ShortenPrograms" 78 yM_keep : Cond) ∈ wA := wA_s6 _ (List.mem_of_getElem? (i := 10) rfl)
theorem wi_251 : (.instanceMethod yM_keep : Cond) ∈ wA := wA_s6 _ (List.mem_of_getElem? (i := 11) rfl)
theorem wi_252 : (.selects "ShortenPrograms$Memory" yM_keep yM_keep : Cond) ∈ wA := wA_s6 _ (List.mem_of_getElem? (i := 12) rfl)
theorem wi_253 : (.code yM_keep prog_3_method_4_code 3 none : Cond) ∈ wA := wA_s6 _ (List.mem_of_getElem? (i := 13) rfl)
theorem wi_254 : (.instantiable "ShortenPrograms$Ask" 3 : Cond) ∈ wA := wA_s6 _ (List.mem_of_getElem? (i := 14) rfl)
theorem wi_255 : (.instanceMethod yA_init : Cond) ∈ wA := wA_s6 _ (List.mem_of_getElem? (i := 15) rfl)
theorem wi_256 : (.code yA_init prog_2_method_1_code 1 none : Cond) ∈ wA := wA_s6 _ (List.mem_of_getElem? (i := 16) rfl)
theorem wi_257 : (.methodLink "ShortenPrograms$Ask" 3 ⟨"java/lang/Object", "<init>", "()V"⟩ : Cond) ∈ wA := wA_s6 _ (List.mem_of_getElem? (i := 17) rfl)
theorem wi_258 : (.classLink "ShortenPrograms$Ask" 9 "ShortenPrograms$Program" : Cond) ∈ wA := wA_s6 _ (List.mem_of_getElem? (i := 18) rfl)
theorem wi_259 : (.fieldLink "ShortenPrograms$Ask" 12 "ShortenPrograms$Ask" "program" "LShortenPrograms$Program;" : Cond) ∈ wA := wA_s6 _ (List.mem_of_getElem? (i := 19) rfl)
theorem wi_260 : (.fieldLink "ShortenPrograms$Ask" 30 "ShortenPrograms$Ask" "mark" "I" : Cond) ∈ wA := wA_s6 _ (List.mem_of_getElem? (i := 20) rfl)
theorem wi_261 : (.fieldLink "ShortenPrograms$Ask" 18 "ShortenPrograms$Ask" "answer" "I" : Cond) ∈ wA := wA_s6 _ (List.mem_of_getElem? (i := 21) rfl)
theorem wi_262 : (.laysFinal "ShortenPrograms$Ask" "ShortenPrograms$Ask" "program" "LShortenPrograms$Program;" : Cond) ∈ wA := wA_s6 _ (List.mem_of_getElem? (i := 22) rfl)
theorem wi_263 : (.soleField "ShortenPrograms$Ask" "program" : Cond) ∈ wA := wA_s6 _ (List.mem_of_getElem? (i := 23) rfl)
theorem wi_264 : (.lays "ShortenPrograms$Ask" "ShortenPrograms$Ask" "mark" "I" : Cond) ∈ wA := wA_s6 _ (List.mem_of_getElem? (i := 24) rfl)
theorem wi_265 : (.soleField "ShortenPrograms$Ask" "mark" : Cond) ∈ wA := wA_s6 _ (List.mem_of_getElem? (i := 25) rfl)
theorem wi_266 : (.lays "ShortenPrograms$Ask" "ShortenPrograms$Ask" "answer" "I" : Cond) ∈ wA := wA_s6 _ (List.mem_of_getElem? (i := 26) rfl)
theorem wi_267 : (.soleField "ShortenPrograms$Ask" "answer" : Cond) ∈ wA := wA_s6 _ (List.mem_of_getElem? (i := 27) rfl)
theorem wi_268 : (.superclass "ShortenPrograms$Ask" "java/lang/Object" : Cond) ∈ wA := wA_s6 _ (List.mem_of_getElem? (i := 28) rfl)
theorem wi_269 : (.methodLink "ShortenPrograms$Memory" 22 yA_open : Cond) ∈ wA := wA_s6 _ (List.mem_of_getElem? (i := 29) rfl)
theorem wi_270 : (.instanceMethod yA_open : Cond) ∈ wA := wA_s6 _ (List.mem_of_getElem? (i := 30) rfl)
theorem wi_271 : (.selects "ShortenPrograms$Ask" yA_open yA_open : Cond) ∈ wA := wA_s6 _ (List.mem_of_getElem? (i := 31) rfl)
theorem wi_272 : (.code yA_open prog_2_method_5_code 2 none : Cond) ∈ wA := wA_s6 _ (List.mem_of_getElem? (i := 32) rfl)
theorem wi_273 : (.methodLink "ShortenPrograms$Ask" 22 yP_copy : Cond) ∈ wA := wA_s6 _ (List.mem_of_getElem? (i := 33) rfl)
theorem wi_274 : (.instanceMethod yP_copy : Cond) ∈ wA := wA_s6 _ (List.mem_of_getElem? (i := 34) rfl)
theorem wi_275 : (.selects "ShortenPrograms$Program" yP_copy yP_copy : Cond) ∈ wA := wA_s6 _ (List.mem_of_getElem? (i := 35) rfl)
theorem wi_276 : (.code yP_copy prog_4_method_9_code 4 none : Cond) ∈ wA := wA_s6 _ (List.mem_of_getElem? (i := 36) rfl)
theorem wi_277 : (.methodLink "ShortenPrograms$Program" 26 ⟨"java/lang/Math", "min", "(II)I"⟩ : Cond) ∈ wA := wA_s6 _ (List.mem_of_getElem? (i := 37) rfl)
theorem wi_278 : (.static ⟨"java/lang/Math", "min", "(II)I"⟩ : Cond) ∈ wA := wA_s6 _ (List.mem_of_getElem? (i := 38) rfl)
theorem wi_279 : (.code ⟨"java/lang/Math", "min", "(II)I"⟩ prog_12_method_69_code 2 (some .int) : Cond) ∈ wA := wA_s6 _ (List.mem_of_getElem? (i := 39) rfl)
theorem wi_280 : (.methodLink "ShortenPrograms$Ask" 26 yP_mark : Cond) ∈ wA := wA_s7 _ (List.mem_of_getElem? (i := 0) rfl)
theorem wi_281 : (.instanceMethod yP_mark : Cond) ∈ wA := wA_s7 _ (List.mem_of_getElem? (i := 1) rfl)
theorem wi_282 : (.selects "ShortenPrograms$Program" yP_mark yP_mark : Cond) ∈ wA := wA_s7 _ (List.mem_of_getElem? (i := 2) rfl)
theorem wi_283 : (.code yP_mark prog_4_method_15_code 3 (some .int) : Cond) ∈ wA := wA_s7 _ (List.mem_of_getElem? (i := 3) rfl)
theorem wi_284 : (.methodLink "ShortenProgramsLaw" 67 yL_asked : Cond) ∈ wA := wA_s7 _ (List.mem_of_getElem? (i := 4) rfl)
theorem wi_285 : (.static yL_asked : Cond) ∈ wA := wA_s7 _ (List.mem_of_getElem? (i := 5) rfl)
theorem wi_286 : (.codeWith yL_asked method_5_code 4 (some .int) [(0, 9, 12, 18), (0, 9, 15, 23)] : Cond) ∈ wA := wA_s7 _ (List.mem_of_getElem? (i := 6) rfl)
theorem wi_287 : (.classLink "ShortenProgramsLaw" 23 "java/lang/IndexOutOfBoundsException" : Cond) ∈ wA := wA_s7 _ (List.mem_of_getElem? (i := 7) rfl)
theorem wi_288 : (.methodLink "ShortenProgramsLaw" 20 yS_asked : Cond) ∈ wA := wA_s7 _ (List.mem_of_getElem? (i := 8) rfl)
theorem wi_289 : (.instanceMethod yS_asked : Cond) ∈ wA := wA_s7 _ (List.mem_of_getElem? (i := 9) rfl)
theorem wi_290 : (.selects "ShortenPrograms" yS_asked yS_asked : Cond) ∈ wA := wA_s7 _ (List.mem_of_getElem? (i := 10) rfl)
theorem wi_291 : (.code yS_asked prog_1_method_4_code 3 (some .int) : Cond) ∈ wA := wA_s7 _ (List.mem_of_getElem? (i := 11) rfl)
theorem wi_292 : (.methodLink "ShortenPrograms" 82 yS_openAsk : Cond) ∈ wA := wA_s7 _ (List.mem_of_getElem? (i := 12) rfl)
theorem wi_293 : (.instanceMethod yS_openAsk : Cond) ∈ wA := wA_s7 _ (List.mem_of_getElem? (i := 13) rfl)
theorem wi_294 : (.code yS_openAsk prog_1_method_12_code 1 (some (.object "ShortenPrograms$Ask")) : Cond) ∈ wA := wA_s7 _ (List.mem_of_getElem? (i := 14) rfl)
theorem wi_295 : (.methodLink "ShortenPrograms" 176 yM_last : Cond) ∈ wA := wA_s7 _ (List.mem_of_getElem? (i := 15) rfl)
theorem wi_296 : (.instanceMethod yM_last : Cond) ∈ wA := wA_s7 _ (List.mem_of_getElem? (i := 16) rfl)
theorem wi_297 : (.selects "ShortenPrograms$Memory" yM_last yM_last : Cond) ∈ wA := wA_s7 _ (List.mem_of_getElem? (i := 17) rfl)
theorem wi_298 : (.code yM_last prog_3_method_5_code 1 (some (.object "ShortenPrograms$Ask")) : Cond) ∈ wA := wA_s7 _ (List.mem_of_getElem? (i := 18) rfl)
theorem wi_299 : (.methodLink "ShortenPrograms" 88 yA_program : Cond) ∈ wA := wA_s7 _ (List.mem_of_getElem? (i := 19) rfl)
theorem wi_300 : (.instanceMethod yA_program : Cond) ∈ wA := wA_s7 _ (List.mem_of_getElem? (i := 20) rfl)
theorem wi_301 : (.selects "ShortenPrograms$Ask" yA_program yA_program : Cond) ∈ wA := wA_s7 _ (List.mem_of_getElem? (i := 21) rfl)
theorem wi_302 : (.code yA_program prog_2_method_2_code 1 (some (.object "ShortenPrograms$Program")) : Cond) ∈ wA := wA_s7 _ (List.mem_of_getElem? (i := 22) rfl)
theorem wi_303 : (.methodLink "ShortenPrograms" 94 yP_has : Cond) ∈ wA := wA_s7 _ (List.mem_of_getElem? (i := 23) rfl)
theorem wi_304 : (.instanceMethod yP_has : Cond) ∈ wA := wA_s7 _ (List.mem_of_getElem? (i := 24) rfl)
theorem wi_305 : (.selects "ShortenPrograms$Program" yP_has yP_has : Cond) ∈ wA := wA_s7 _ (List.mem_of_getElem? (i := 25) rfl)
theorem wi_306 : (.code yP_has prog_4_method_4_code 2 (some .boolean) : Cond) ∈ wA := wA_s7 _ (List.mem_of_getElem? (i := 26) rfl)
theorem wi_307 : (.classLink "ShortenPrograms" 98 "java/lang/IndexOutOfBoundsException" : Cond) ∈ wA := wA_s7 _ (List.mem_of_getElem? (i := 27) rfl)
theorem wi_308 : (.instantiable "java/lang/IndexOutOfBoundsException" 6 : Cond) ∈ wA := wA_s7 _ (List.mem_of_getElem? (i := 28) rfl)
theorem wi_309 : (.selects "java/lang/IndexOutOfBoundsException" ⟨"java/lang/Throwable", "fillInStackTrace", "(I)Ljava/lang/Throwable;"⟩ ⟨"java/lang/Throwable", "fillInStackTrace", "(I)Ljava/lang/Throwable;"⟩ : Cond) ∈ wA := wA_s7 _ (List.mem_of_getElem? (i := 29) rfl)
theorem wi_310 : (.lays "java/lang/IndexOutOfBoundsException" "java/lang/Throwable" "cause" "Ljava/lang/Throwable;" : Cond) ∈ wA := wA_s7 _ (List.mem_of_getElem? (i := 30) rfl)
theorem wi_311 : (.lays "java/lang/IndexOutOfBoundsException" "java/lang/Throwable" "stackTrace" "[Ljava/lang/StackTraceElement;" : Cond) ∈ wA := wA_s7 _ (List.mem_of_getElem? (i := 31) rfl)
theorem wi_312 : (.lays "java/lang/IndexOutOfBoundsException" "java/lang/Throwable" "suppressedExceptions" "Ljava/util/List;" : Cond) ∈ wA := wA_s7 _ (List.mem_of_getElem? (i := 32) rfl)
theorem wi_313 : (.lays "java/lang/IndexOutOfBoundsException" "java/lang/Throwable" "detailMessage" "Ljava/lang/String;" : Cond) ∈ wA := wA_s7 _ (List.mem_of_getElem? (i := 33) rfl)
theorem wi_314 : (.lays "java/lang/IndexOutOfBoundsException" "java/lang/Throwable" "backtrace" "Ljava/lang/Object;" : Cond) ∈ wA := wA_s7 _ (List.mem_of_getElem? (i := 34) rfl)
theorem wi_315 : (.methodLink "ShortenPrograms" 102 ⟨"java/lang/IndexOutOfBoundsException", "<init>", "(Ljava/lang/String;)V"⟩ : Cond) ∈ wA := wA_s7 _ (List.mem_of_getElem? (i := 35) rfl)
theorem wi_316 : (.instanceMethod ⟨"java/lang/IndexOutOfBoundsException", "<init>", "(Ljava/lang/String;)V"⟩ : Cond) ∈ wA := wA_s7 _ (List.mem_of_getElem? (i := 36) rfl)
theorem wi_317 : (.code ⟨"java/lang/IndexOutOfBoundsException", "<init>", "(Ljava/lang/String;)V"⟩ prog_11_method_2_code 2 none : Cond) ∈ wA := wA_s7 _ (List.mem_of_getElem? (i := 37) rfl)
theorem wi_318 : (.methodLink "java/lang/IndexOutOfBoundsException" 7 ⟨"java/lang/RuntimeException", "<init>", "(Ljava/lang/String;)V"⟩ : Cond) ∈ wA := wA_s7 _ (List.mem_of_getElem? (i := 38) rfl)
theorem wi_319 : (.lays "java/lang/IndexOutOfBoundsException" "java/lang/Throwable" "depth" "I" : Cond) ∈ wA := wA_s7 _ (List.mem_of_getElem? (i := 39) rfl)
theorem wi_320 : (.superclass "java/lang/IndexOutOfBoundsException" "java/lang/RuntimeException" : Cond) ∈ wA := wA_s8 _ (List.mem_of_getElem? (i := 0) rfl)
theorem wi_321 : (.methodLink "ShortenPrograms" 103 yP_word : Cond) ∈ wA := wA_s8 _ (List.mem_of_getElem? (i := 1) rfl)
theorem wi_322 : (.instanceMethod yP_word : Cond) ∈ wA := wA_s8 _ (List.mem_of_getElem? (i := 2) rfl)
theorem wi_323 : (.selects "ShortenPrograms$Program" yP_word yP_word : Cond) ∈ wA := wA_s8 _ (List.mem_of_getElem? (i := 3) rfl)
theorem wi_324 : (.code yP_word prog_4_method_5_code 2 (some .int) : Cond) ∈ wA := wA_s8 _ (List.mem_of_getElem? (i := 4) rfl)
theorem wi_325 : (.methodLink "ShortenPrograms$Program" 22 yP_has : Cond) ∈ wA := wA_s8 _ (List.mem_of_getElem? (i := 5) rfl)
theorem wi_326 : (.methodLink "ShortenProgramsLaw" 70 yL_size : Cond) ∈ wA := wA_s8 _ (List.mem_of_getElem? (i := 6) rfl)
theorem wi_327 : (.static yL_size : Cond) ∈ wA := wA_s8 _ (List.mem_of_getElem? (i := 7) rfl)
theorem wi_328 : (.codeWith yL_size method_6_code 3 (some .int) [(0, 8, 11, 18)] : Cond) ∈ wA := wA_s8 _ (List.mem_of_getElem? (i := 8) rfl)
theorem wi_329 : (.methodLink "ShortenProgramsLaw" 25 yS_size : Cond) ∈ wA := wA_s8 _ (List.mem_of_getElem? (i := 9) rfl)
theorem wi_330 : (.instanceMethod yS_size : Cond) ∈ wA := wA_s8 _ (List.mem_of_getElem? (i := 10) rfl)
theorem wi_331 : (.selects "ShortenPrograms" yS_size yS_size : Cond) ∈ wA := wA_s8 _ (List.mem_of_getElem? (i := 11) rfl)
theorem wi_332 : (.code yS_size prog_1_method_5_code 2 (some .int) : Cond) ∈ wA := wA_s8 _ (List.mem_of_getElem? (i := 12) rfl)
theorem wi_333 : (.methodLink "ShortenProgramsLaw" 74 yL_judge : Cond) ∈ wA := wA_s8 _ (List.mem_of_getElem? (i := 13) rfl)
theorem wi_334 : (.static yL_judge : Cond) ∈ wA := wA_s8 _ (List.mem_of_getElem? (i := 14) rfl)
theorem wi_335 : (.codeWith yL_judge method_7_code 4 (some .int) [(0, 9, 12, 18), (0, 9, 15, 32)] : Cond) ∈ wA := wA_s8 _ (List.mem_of_getElem? (i := 15) rfl)
theorem wi_336 : (.classLink "ShortenProgramsLaw" 32 "java/lang/IllegalArgumentException" : Cond) ∈ wA := wA_s8 _ (List.mem_of_getElem? (i := 16) rfl)
theorem wi_337 : (.methodLink "ShortenProgramsLaw" 29 yS_judge : Cond) ∈ wA := wA_s8 _ (List.mem_of_getElem? (i := 17) rfl)
theorem wi_338 : (.instanceMethod yS_judge : Cond) ∈ wA := wA_s8 _ (List.mem_of_getElem? (i := 18) rfl)
theorem wi_339 : (.selects "ShortenPrograms" yS_judge yS_judge : Cond) ∈ wA := wA_s8 _ (List.mem_of_getElem? (i := 19) rfl)
theorem wi_340 : (.code yS_judge prog_1_method_6_code 3 (some .int) : Cond) ∈ wA := wA_s8 _ (List.mem_of_getElem? (i := 20) rfl)
theorem wi_341 : (.classLink "ShortenPrograms" 107 "java/lang/IllegalArgumentException" : Cond) ∈ wA := wA_s8 _ (List.mem_of_getElem? (i := 21) rfl)
theorem wi_342 : (.instantiable "java/lang/IllegalArgumentException" 6 : Cond) ∈ wA := wA_s8 _ (List.mem_of_getElem? (i := 22) rfl)
theorem wi_343 : (.selects "java/lang/IllegalArgumentException" ⟨"java/lang/Throwable", "fillInStackTrace", "(I)Ljava/lang/Throwable;"⟩ ⟨"java/lang/Throwable", "fillInStackTrace", "(I)Ljava/lang/Throwable;"⟩ : Cond) ∈ wA := wA_s8 _ (List.mem_of_getElem? (i := 23) rfl)
theorem wi_344 : (.lays "java/lang/IllegalArgumentException" "java/lang/Throwable" "cause" "Ljava/lang/Throwable;" : Cond) ∈ wA := wA_s8 _ (List.mem_of_getElem? (i := 24) rfl)
theorem wi_345 : (.lays "java/lang/IllegalArgumentException" "java/lang/Throwable" "stackTrace" "[Ljava/lang/StackTraceElement;" : Cond) ∈ wA := wA_s8 _ (List.mem_of_getElem? (i := 25) rfl)
theorem wi_346 : (.lays "java/lang/IllegalArgumentException" "java/lang/Throwable" "suppressedExceptions" "Ljava/util/List;" : Cond) ∈ wA := wA_s8 _ (List.mem_of_getElem? (i := 26) rfl)
theorem wi_347 : (.lays "java/lang/IllegalArgumentException" "java/lang/Throwable" "detailMessage" "Ljava/lang/String;" : Cond) ∈ wA := wA_s8 _ (List.mem_of_getElem? (i := 27) rfl)
theorem wi_348 : (.lays "java/lang/IllegalArgumentException" "java/lang/Throwable" "backtrace" "Ljava/lang/Object;" : Cond) ∈ wA := wA_s8 _ (List.mem_of_getElem? (i := 28) rfl)
theorem wi_349 : (.methodLink "ShortenPrograms" 111 ⟨"java/lang/IllegalArgumentException", "<init>", "(Ljava/lang/String;)V"⟩ : Cond) ∈ wA := wA_s8 _ (List.mem_of_getElem? (i := 29) rfl)
theorem wi_350 : (.instanceMethod ⟨"java/lang/IllegalArgumentException", "<init>", "(Ljava/lang/String;)V"⟩ : Cond) ∈ wA := wA_s8 _ (List.mem_of_getElem? (i := 30) rfl)
theorem wi_351 : (.code ⟨"java/lang/IllegalArgumentException", "<init>", "(Ljava/lang/String;)V"⟩ prog_9_method_2_code 2 none : Cond) ∈ wA := wA_s8 _ (List.mem_of_getElem? (i := 31) rfl)
theorem wi_352 : (.methodLink "java/lang/IllegalArgumentException" 7 ⟨"java/lang/RuntimeException", "<init>", "(Ljava/lang/String;)V"⟩ : Cond) ∈ wA := wA_s8 _ (List.mem_of_getElem? (i := 32) rfl)
theorem wi_353 : (.lays "java/lang/IllegalArgumentException" "java/lang/Throwable" "depth" "I" : Cond) ∈ wA := wA_s8 _ (List.mem_of_getElem? (i := 33) rfl)
theorem wi_354 : (.superclass "java/lang/IllegalArgumentException" "java/lang/RuntimeException" : Cond) ∈ wA := wA_s8 _ (List.mem_of_getElem? (i := 34) rfl)
theorem wi_355 : (.methodLink "ShortenPrograms" 112 yA_setAnswer : Cond) ∈ wA := wA_s8 _ (List.mem_of_getElem? (i := 35) rfl)
theorem wi_356 : (.instanceMethod yA_setAnswer : Cond) ∈ wA := wA_s8 _ (List.mem_of_getElem? (i := 36) rfl)
theorem wi_357 : (.selects "ShortenPrograms$Ask" yA_setAnswer yA_setAnswer : Cond) ∈ wA := wA_s8 _ (List.mem_of_getElem? (i := 37) rfl)
theorem wi_358 : (.code yA_setAnswer prog_2_method_4_code 2 none : Cond) ∈ wA := wA_s8 _ (List.mem_of_getElem? (i := 38) rfl)
theorem wi_359 : (.methodLink "ShortenPrograms" 115 yS_takeFirst : Cond) ∈ wA := wA_s8 _ (List.mem_of_getElem? (i := 39) rfl)
theorem wi_360 : (.instanceMethod yS_takeFirst : Cond) ∈ wA := wA_s9 _ (List.mem_of_getElem? (i := 0) rfl)
theorem wi_361 : (.code yS_takeFirst prog_1_method_13_code 2 none : Cond) ∈ wA := wA_s9 _ (List.mem_of_getElem? (i := 1) rfl)
theorem wi_362 : (.methodLink "ShortenPrograms" 179 ⟨"java/lang/Math", "max", "(II)I"⟩ : Cond) ∈ wA := wA_s9 _ (List.mem_of_getElem? (i := 2) rfl)
theorem wi_363 : (.static ⟨"java/lang/Math", "max", "(II)I"⟩ : Cond) ∈ wA := wA_s9 _ (List.mem_of_getElem? (i := 3) rfl)
theorem wi_364 : (.code ⟨"java/lang/Math", "max", "(II)I"⟩ prog_12_method_65_code 2 (some .int) : Cond) ∈ wA := wA_s9 _ (List.mem_of_getElem? (i := 4) rfl)
theorem wi_365 : (.methodLink "ShortenPrograms" 183 yW_startLeaving : Cond) ∈ wA := wA_s9 _ (List.mem_of_getElem? (i := 5) rfl)
theorem wi_366 : (.instanceMethod yW_startLeaving : Cond) ∈ wA := wA_s9 _ (List.mem_of_getElem? (i := 6) rfl)
theorem wi_367 : (.selects "ShortenPrograms$Walk" yW_startLeaving yW_startLeaving : Cond) ∈ wA := wA_s9 _ (List.mem_of_getElem? (i := 7) rfl)
theorem wi_368 : (.code yW_startLeaving prog_5_method_5_code 2 none : Cond) ∈ wA := wA_s9 _ (List.mem_of_getElem? (i := 8) rfl)
theorem wi_369 : (.methodLink "ShortenPrograms$Walk" 18 yW_startGoingThrough : Cond) ∈ wA := wA_s9 _ (List.mem_of_getElem? (i := 9) rfl)
theorem wi_370 : (.instanceMethod yW_startGoingThrough : Cond) ∈ wA := wA_s9 _ (List.mem_of_getElem? (i := 10) rfl)
theorem wi_371 : (.code yW_startGoingThrough prog_5_method_6_code 2 none : Cond) ∈ wA := wA_s9 _ (List.mem_of_getElem? (i := 11) rfl)
theorem wi_372 : (.methodLink "ShortenPrograms" 118 yS_take : Cond) ∈ wA := wA_s9 _ (List.mem_of_getElem? (i := 12) rfl)
theorem wi_373 : (.instanceMethod yS_take : Cond) ∈ wA := wA_s9 _ (List.mem_of_getElem? (i := 13) rfl)
theorem wi_374 : (.code yS_take prog_1_method_14_code 3 none : Cond) ∈ wA := wA_s9 _ (List.mem_of_getElem? (i := 14) rfl)
theorem wi_375 : (.methodLink "ShortenPrograms" 186 yW_passOver : Cond) ∈ wA := wA_s9 _ (List.mem_of_getElem? (i := 15) rfl)
theorem wi_376 : (.instanceMethod yW_passOver : Cond) ∈ wA := wA_s9 _ (List.mem_of_getElem? (i := 16) rfl)
theorem wi_377 : (.selects "ShortenPrograms$Walk" yW_passOver yW_passOver : Cond) ∈ wA := wA_s9 _ (List.mem_of_getElem? (i := 17) rfl)
theorem wi_378 : (.code yW_passOver prog_5_method_14_code 1 none : Cond) ∈ wA := wA_s9 _ (List.mem_of_getElem? (i := 18) rfl)
theorem wi_379 : (.methodLink "ShortenPrograms$Walk" 79 yW_nextByte : Cond) ∈ wA := wA_s9 _ (List.mem_of_getElem? (i := 19) rfl)
theorem wi_380 : (.instanceMethod yW_nextByte : Cond) ∈ wA := wA_s9 _ (List.mem_of_getElem? (i := 20) rfl)
theorem wi_381 : (.code yW_nextByte prog_5_method_15_code 1 none : Cond) ∈ wA := wA_s9 _ (List.mem_of_getElem? (i := 21) rfl)
theorem wi_382 : (.methodLink "ShortenPrograms" 189 yW_change : Cond) ∈ wA := wA_s9 _ (List.mem_of_getElem? (i := 22) rfl)
theorem wi_383 : (.instanceMethod yW_change : Cond) ∈ wA := wA_s9 _ (List.mem_of_getElem? (i := 23) rfl)
theorem wi_384 : (.selects "ShortenPrograms$Walk" yW_change yW_change : Cond) ∈ wA := wA_s9 _ (List.mem_of_getElem? (i := 24) rfl)
theorem wi_385 : (.code yW_change prog_5_method_12_code 3 none : Cond) ∈ wA := wA_s9 _ (List.mem_of_getElem? (i := 25) rfl)
theorem wi_386 : (.methodLink "ShortenPrograms$Walk" 71 yP_leaveOut : Cond) ∈ wA := wA_s9 _ (List.mem_of_getElem? (i := 26) rfl)
theorem wi_387 : (.instanceMethod yP_leaveOut : Cond) ∈ wA := wA_s9 _ (List.mem_of_getElem? (i := 27) rfl)
theorem wi_388 : (.selects "ShortenPrograms$Program" yP_leaveOut yP_leaveOut : Cond) ∈ wA := wA_s9 _ (List.mem_of_getElem? (i := 28) rfl)
theorem wi_389 : (.code yP_leaveOut prog_4_method_10_code 5 none : Cond) ∈ wA := wA_s9 _ (List.mem_of_getElem? (i := 29) rfl)
theorem wi_390 : (.methodLink "ShortenPrograms$Walk" 51 yP_byteOf : Cond) ∈ wA := wA_s9 _ (List.mem_of_getElem? (i := 30) rfl)
theorem wi_391 : (.instanceMethod yP_byteOf : Cond) ∈ wA := wA_s9 _ (List.mem_of_getElem? (i := 31) rfl)
theorem wi_392 : (.selects "ShortenPrograms$Program" yP_byteOf yP_byteOf : Cond) ∈ wA := wA_s9 _ (List.mem_of_getElem? (i := 32) rfl)
theorem wi_393 : (.code yP_byteOf prog_4_method_11_code 3 (some .int) : Cond) ∈ wA := wA_s9 _ (List.mem_of_getElem? (i := 33) rfl)
theorem wi_394 : (.methodLink "ShortenPrograms$Program" 32 yP_word : Cond) ∈ wA := wA_s9 _ (List.mem_of_getElem? (i := 34) rfl)
theorem wi_395 : (.methodLink "ShortenPrograms$Program" 36 yP_shift : Cond) ∈ wA := wA_s9 _ (List.mem_of_getElem? (i := 35) rfl)
theorem wi_396 : (.static yP_shift : Cond) ∈ wA := wA_s9 _ (List.mem_of_getElem? (i := 36) rfl)
theorem wi_397 : (.code yP_shift prog_4_method_13_code 1 (some .int) : Cond) ∈ wA := wA_s9 _ (List.mem_of_getElem? (i := 37) rfl)
theorem wi_398 : (.methodLink "ShortenPrograms$Walk" 67 yW_lowerValue : Cond) ∈ wA := wA_s9 _ (List.mem_of_getElem? (i := 38) rfl)
theorem wi_399 : (.instanceMethod yW_lowerValue : Cond) ∈ wA := wA_s9 _ (List.mem_of_getElem? (i := 39) rfl)
theorem wi_400 : (.code yW_lowerValue prog_5_method_11_code 2 (some .int) : Cond) ∈ wA := wA_s10 _ (List.mem_of_getElem? (i := 0) rfl)
theorem wi_401 : (.methodLink "ShortenPrograms$Walk" 75 yP_setByte : Cond) ∈ wA := wA_s10 _ (List.mem_of_getElem? (i := 1) rfl)
theorem wi_402 : (.instanceMethod yP_setByte : Cond) ∈ wA := wA_s10 _ (List.mem_of_getElem? (i := 2) rfl)
theorem wi_403 : (.selects "ShortenPrograms$Program" yP_setByte yP_setByte : Cond) ∈ wA := wA_s10 _ (List.mem_of_getElem? (i := 3) rfl)
theorem wi_404 : (.code yP_setByte prog_4_method_12_code 5 none : Cond) ∈ wA := wA_s10 _ (List.mem_of_getElem? (i := 4) rfl)
theorem wi_405 : (.methodLink "ShortenPrograms" 192 yW_isLowering : Cond) ∈ wA := wA_s10 _ (List.mem_of_getElem? (i := 5) rfl)
theorem wi_406 : (.instanceMethod yW_isLowering : Cond) ∈ wA := wA_s10 _ (List.mem_of_getElem? (i := 6) rfl)
theorem wi_407 : (.selects "ShortenPrograms$Walk" yW_isLowering yW_isLowering : Cond) ∈ wA := wA_s10 _ (List.mem_of_getElem? (i := 7) rfl)
theorem wi_408 : (.code yW_isLowering prog_5_method_3_code 1 (some .boolean) : Cond) ∈ wA := wA_s10 _ (List.mem_of_getElem? (i := 8) rfl)
theorem wi_409 : (.methodLink "ShortenPrograms" 195 yW_goOn : Cond) ∈ wA := wA_s10 _ (List.mem_of_getElem? (i := 9) rfl)
theorem wi_410 : (.instanceMethod yW_goOn : Cond) ∈ wA := wA_s10 _ (List.mem_of_getElem? (i := 10) rfl)
theorem wi_411 : (.selects "ShortenPrograms$Walk" yW_goOn yW_goOn : Cond) ∈ wA := wA_s10 _ (List.mem_of_getElem? (i := 11) rfl)
theorem wi_412 : (.code yW_goOn prog_5_method_13_code 1 none : Cond) ∈ wA := wA_s10 _ (List.mem_of_getElem? (i := 12) rfl)
theorem wi_413 : (.methodLink "ShortenPrograms" 121 yS_askNext : Cond) ∈ wA := wA_s10 _ (List.mem_of_getElem? (i := 13) rfl)
theorem wi_414 : (.instanceMethod yS_askNext : Cond) ∈ wA := wA_s10 _ (List.mem_of_getElem? (i := 14) rfl)
theorem wi_415 : (.code yS_askNext prog_1_method_15_code 3 none : Cond) ∈ wA := wA_s10 _ (List.mem_of_getElem? (i := 15) rfl)
theorem wi_416 : (.constant "ShortenPrograms" 198 (1000000) : Cond) ∈ wA := wA_s10 _ (List.mem_of_getElem? (i := 16) rfl)
theorem wi_417 : (.methodLink "ShortenPrograms" 199 yW_findChange : Cond) ∈ wA := wA_s10 _ (List.mem_of_getElem? (i := 17) rfl)
theorem wi_418 : (.instanceMethod yW_findChange : Cond) ∈ wA := wA_s10 _ (List.mem_of_getElem? (i := 18) rfl)
theorem wi_419 : (.selects "ShortenPrograms$Walk" yW_findChange yW_findChange : Cond) ∈ wA := wA_s10 _ (List.mem_of_getElem? (i := 19) rfl)
theorem wi_420 : (.code yW_findChange prog_5_method_8_code 3 (some .boolean) : Cond) ∈ wA := wA_s10 _ (List.mem_of_getElem? (i := 20) rfl)
theorem wi_421 : (.constant "ShortenPrograms$Walk" 41 (1000000) : Cond) ∈ wA := wA_s10 _ (List.mem_of_getElem? (i := 21) rfl)
theorem wi_422 : (.methodLink "ShortenPrograms$Walk" 42 yP_has : Cond) ∈ wA := wA_s10 _ (List.mem_of_getElem? (i := 22) rfl)
theorem wi_423 : (.methodLink "ShortenPrograms$Walk" 48 yW_endGoingThrough : Cond) ∈ wA := wA_s10 _ (List.mem_of_getElem? (i := 23) rfl)
theorem wi_424 : (.instanceMethod yW_endGoingThrough : Cond) ∈ wA := wA_s10 _ (List.mem_of_getElem? (i := 24) rfl)
theorem wi_425 : (.code yW_endGoingThrough prog_5_method_9_code 1 none : Cond) ∈ wA := wA_s10 _ (List.mem_of_getElem? (i := 25) rfl)
theorem wi_426 : (.methodLink "ShortenPrograms$Walk" 64 yW_startLowering : Cond) ∈ wA := wA_s10 _ (List.mem_of_getElem? (i := 26) rfl)
theorem wi_427 : (.instanceMethod yW_startLowering : Cond) ∈ wA := wA_s10 _ (List.mem_of_getElem? (i := 27) rfl)
theorem wi_428 : (.code yW_startLowering prog_5_method_7_code 1 none : Cond) ∈ wA := wA_s10 _ (List.mem_of_getElem? (i := 28) rfl)
theorem wi_429 : (.methodLink "ShortenPrograms$Walk" 55 yW_canLower : Cond) ∈ wA := wA_s10 _ (List.mem_of_getElem? (i := 29) rfl)
theorem wi_430 : (.instanceMethod yW_canLower : Cond) ∈ wA := wA_s10 _ (List.mem_of_getElem? (i := 30) rfl)
theorem wi_431 : (.code yW_canLower prog_5_method_10_code 2 (some .boolean) : Cond) ∈ wA := wA_s10 _ (List.mem_of_getElem? (i := 31) rfl)
theorem wi_432 : (.methodLink "ShortenPrograms$Walk" 58 yW_passOver : Cond) ∈ wA := wA_s10 _ (List.mem_of_getElem? (i := 32) rfl)
theorem wi_433 : (.methodLink "ShortenPrograms$Walk" 61 yW_startLeaving : Cond) ∈ wA := wA_s10 _ (List.mem_of_getElem? (i := 33) rfl)
theorem wi_434 : (.methodLink "ShortenPrograms" 135 yP_copy : Cond) ∈ wA := wA_s10 _ (List.mem_of_getElem? (i := 34) rfl)
theorem wi_435 : (.methodLink "ShortenPrograms" 146 yM_find : Cond) ∈ wA := wA_s10 _ (List.mem_of_getElem? (i := 35) rfl)
theorem wi_436 : (.instanceMethod yM_find : Cond) ∈ wA := wA_s10 _ (List.mem_of_getElem? (i := 36) rfl)
theorem wi_437 : (.selects "ShortenPrograms$Memory" yM_find yM_find : Cond) ∈ wA := wA_s10 _ (List.mem_of_getElem? (i := 37) rfl)
theorem wi_438 : (.code yM_find prog_3_method_6_code 5 (some (.object "ShortenPrograms$Ask")) : Cond) ∈ wA := wA_s10 _ (List.mem_of_getElem? (i := 38) rfl)
theorem wi_439 : (.methodLink "ShortenPrograms$Memory" 26 yP_mark : Cond) ∈ wA := wA_s10 _ (List.mem_of_getElem? (i := 39) rfl)
theorem wi_440 : (.methodLink "ShortenPrograms$Memory" 32 yA_isOf : Cond) ∈ wA := wA_s11 _ (List.mem_of_getElem? (i := 0) rfl)
theorem wi_441 : (.instanceMethod yA_isOf : Cond) ∈ wA := wA_s11 _ (List.mem_of_getElem? (i := 1) rfl)
theorem wi_442 : (.selects "ShortenPrograms$Ask" yA_isOf yA_isOf : Cond) ∈ wA := wA_s11 _ (List.mem_of_getElem? (i := 2) rfl)
theorem wi_443 : (.code yA_isOf prog_2_method_6_code 3 (some .boolean) : Cond) ∈ wA := wA_s11 _ (List.mem_of_getElem? (i := 3) rfl)
theorem wi_444 : (.methodLink "ShortenPrograms$Ask" 32 yP_hasSameWords : Cond) ∈ wA := wA_s11 _ (List.mem_of_getElem? (i := 4) rfl)
theorem wi_445 : (.instanceMethod yP_hasSameWords : Cond) ∈ wA := wA_s11 _ (List.mem_of_getElem? (i := 5) rfl)
theorem wi_446 : (.selects "ShortenPrograms$Program" yP_hasSameWords yP_hasSameWords : Cond) ∈ wA := wA_s11 _ (List.mem_of_getElem? (i := 6) rfl)
theorem wi_447 : (.code yP_hasSameWords prog_4_method_14_code 3 (some .boolean) : Cond) ∈ wA := wA_s11 _ (List.mem_of_getElem? (i := 7) rfl)
theorem wi_448 : (.methodLink "ShortenPrograms" 203 yS_ask : Cond) ∈ wA := wA_s11 _ (List.mem_of_getElem? (i := 8) rfl)
theorem wi_449 : (.instanceMethod yS_ask : Cond) ∈ wA := wA_s11 _ (List.mem_of_getElem? (i := 9) rfl)
theorem wi_450 : (.code yS_ask prog_1_method_16_code 1 none : Cond) ∈ wA := wA_s11 _ (List.mem_of_getElem? (i := 10) rfl)
theorem wi_451 : (.methodLink "ShortenPrograms" 150 yA_answer : Cond) ∈ wA := wA_s11 _ (List.mem_of_getElem? (i := 11) rfl)
theorem wi_452 : (.instanceMethod yA_answer : Cond) ∈ wA := wA_s11 _ (List.mem_of_getElem? (i := 12) rfl)
theorem wi_453 : (.selects "ShortenPrograms$Ask" yA_answer yA_answer : Cond) ∈ wA := wA_s11 _ (List.mem_of_getElem? (i := 13) rfl)
theorem wi_454 : (.code yA_answer prog_2_method_3_code 1 (some .int) : Cond) ∈ wA := wA_s11 _ (List.mem_of_getElem? (i := 14) rfl)
theorem wi_455 : (.methodLink "ShortenProgramsLaw" 77 yL_at : Cond) ∈ wA := wA_s11 _ (List.mem_of_getElem? (i := 15) rfl)
theorem wi_456 : (.static yL_at : Cond) ∈ wA := wA_s11 _ (List.mem_of_getElem? (i := 16) rfl)
theorem wi_457 : (.codeWith yL_at method_8_code 4 (some .int) [(0, 9, 12, 23)] : Cond) ∈ wA := wA_s11 _ (List.mem_of_getElem? (i := 17) rfl)
theorem wi_458 : (.methodLink "ShortenProgramsLaw" 34 yS_at : Cond) ∈ wA := wA_s11 _ (List.mem_of_getElem? (i := 18) rfl)
theorem wi_459 : (.instanceMethod yS_at : Cond) ∈ wA := wA_s11 _ (List.mem_of_getElem? (i := 19) rfl)
theorem wi_460 : (.selects "ShortenPrograms" yS_at yS_at : Cond) ∈ wA := wA_s11 _ (List.mem_of_getElem? (i := 20) rfl)
theorem wi_461 : (.code yS_at prog_1_method_7_code 2 (some .int) : Cond) ∈ wA := wA_s11 _ (List.mem_of_getElem? (i := 21) rfl)
theorem wi_462 : (.methodLink "ShortenProgramsLaw" 80 yL_from : Cond) ∈ wA := wA_s11 _ (List.mem_of_getElem? (i := 22) rfl)
theorem wi_463 : (.static yL_from : Cond) ∈ wA := wA_s11 _ (List.mem_of_getElem? (i := 23) rfl)
theorem wi_464 : (.codeWith yL_from method_9_code 4 (some .int) [(0, 9, 12, 23)] : Cond) ∈ wA := wA_s11 _ (List.mem_of_getElem? (i := 24) rfl)
theorem wi_465 : (.methodLink "ShortenProgramsLaw" 37 yS_from : Cond) ∈ wA := wA_s11 _ (List.mem_of_getElem? (i := 25) rfl)
theorem wi_466 : (.instanceMethod yS_from : Cond) ∈ wA := wA_s11 _ (List.mem_of_getElem? (i := 26) rfl)
theorem wi_467 : (.selects "ShortenPrograms" yS_from yS_from : Cond) ∈ wA := wA_s11 _ (List.mem_of_getElem? (i := 27) rfl)
theorem wi_468 : (.code yS_from prog_1_method_8_code 2 (some .int) : Cond) ∈ wA := wA_s11 _ (List.mem_of_getElem? (i := 28) rfl)
theorem wi_469 : (.methodLink "ShortenPrograms" 126 yP_origin : Cond) ∈ wA := wA_s11 _ (List.mem_of_getElem? (i := 29) rfl)
theorem wi_470 : (.instanceMethod yP_origin : Cond) ∈ wA := wA_s11 _ (List.mem_of_getElem? (i := 30) rfl)
theorem wi_471 : (.selects "ShortenPrograms$Program" yP_origin yP_origin : Cond) ∈ wA := wA_s11 _ (List.mem_of_getElem? (i := 31) rfl)
theorem wi_472 : (.code yP_origin prog_4_method_6_code 2 (some .int) : Cond) ∈ wA := wA_s11 _ (List.mem_of_getElem? (i := 32) rfl)
theorem wi_473 : (.methodLink "ShortenProgramsLaw" 83 yL_known : Cond) ∈ wA := wA_s11 _ (List.mem_of_getElem? (i := 33) rfl)
theorem wi_474 : (.static yL_known : Cond) ∈ wA := wA_s11 _ (List.mem_of_getElem? (i := 34) rfl)
theorem wi_475 : (.codeWith yL_known method_10_code 7 (some .int) [(0, 14, 17, 23), (0, 14, 21, 32)] : Cond) ∈ wA := wA_s11 _ (List.mem_of_getElem? (i := 35) rfl)
theorem wi_476 : (.methodLink "ShortenProgramsLaw" 40 yS_known : Cond) ∈ wA := wA_s11 _ (List.mem_of_getElem? (i := 36) rfl)
theorem wi_477 : (.instanceMethod yS_known : Cond) ∈ wA := wA_s11 _ (List.mem_of_getElem? (i := 37) rfl)
theorem wi_478 : (.selects "ShortenPrograms" yS_known yS_known : Cond) ∈ wA := wA_s11 _ (List.mem_of_getElem? (i := 38) rfl)
theorem wi_479 : (.code yS_known prog_1_method_9_code 6 (some .int) : Cond) ∈ wA := wA_s11 _ (List.mem_of_getElem? (i := 39) rfl)
theorem wi_480 : (.methodLink "ShortenPrograms" 138 yP_leaveOut : Cond) ∈ wA := wA_s12 _ (List.mem_of_getElem? (i := 0) rfl)
theorem wi_481 : (.methodLink "ShortenPrograms" 142 yP_setByte : Cond) ∈ wA := wA_s12 _ (List.mem_of_getElem? (i := 1) rfl)
theorem wi_482 : (.classLink "ShortenProgramsLaw" 53 "ShortenProgramsModel" : Cond) ∈ wA := wA_s12 _ (List.mem_of_getElem? (i := 2) rfl)
theorem wi_483 : (.instantiable "ShortenProgramsModel" 27 : Cond) ∈ wA := wA_s12 _ (List.mem_of_getElem? (i := 3) rfl)
theorem wi_484 : (.methodLink "ShortenProgramsLaw" 55 yD_init : Cond) ∈ wA := wA_s12 _ (List.mem_of_getElem? (i := 4) rfl)
theorem wi_485 : (.instanceMethod yD_init : Cond) ∈ wA := wA_s12 _ (List.mem_of_getElem? (i := 5) rfl)
theorem wi_486 : (.code yD_init prog_7_method_1_code 3 none : Cond) ∈ wA := wA_s12 _ (List.mem_of_getElem? (i := 6) rfl)
theorem wi_487 : (.methodLink "ShortenProgramsModel" 1 ⟨"java/lang/Object", "<init>", "()V"⟩ : Cond) ∈ wA := wA_s12 _ (List.mem_of_getElem? (i := 7) rfl)
theorem wi_488 : (.fieldLink "ShortenProgramsModel" 35 "ShortenProgramsModel" "thrown" "I" : Cond) ∈ wA := wA_s12 _ (List.mem_of_getElem? (i := 8) rfl)
theorem wi_489 : (.fieldLink "ShortenProgramsModel" 32 "ShortenProgramsModel" "budget" "I" : Cond) ∈ wA := wA_s12 _ (List.mem_of_getElem? (i := 9) rfl)
theorem wi_490 : (.fieldLink "ShortenProgramsModel" 38 "ShortenProgramsModel" "state" "I" : Cond) ∈ wA := wA_s12 _ (List.mem_of_getElem? (i := 10) rfl)
theorem wi_491 : (.fieldLink "ShortenProgramsModel" 41 "ShortenProgramsModel" "size" "I" : Cond) ∈ wA := wA_s12 _ (List.mem_of_getElem? (i := 11) rfl)
theorem wi_492 : (.fieldLink "ShortenProgramsModel" 7 "ShortenProgramsModel" "word" "[I" : Cond) ∈ wA := wA_s12 _ (List.mem_of_getElem? (i := 12) rfl)
theorem wi_493 : (.fieldLink "ShortenProgramsModel" 13 "ShortenProgramsModel" "origin" "[I" : Cond) ∈ wA := wA_s12 _ (List.mem_of_getElem? (i := 13) rfl)
theorem wi_494 : (.fieldLink "ShortenProgramsModel" 66 "ShortenProgramsModel" "candSize" "I" : Cond) ∈ wA := wA_s12 _ (List.mem_of_getElem? (i := 14) rfl)
theorem wi_495 : (.fieldLink "ShortenProgramsModel" 16 "ShortenProgramsModel" "cand" "[I" : Cond) ∈ wA := wA_s12 _ (List.mem_of_getElem? (i := 15) rfl)
theorem wi_496 : (.fieldLink "ShortenProgramsModel" 146 "ShortenProgramsModel" "isFirst" "Z" : Cond) ∈ wA := wA_s12 _ (List.mem_of_getElem? (i := 16) rfl)
theorem wi_497 : (.fieldLink "ShortenProgramsModel" 86 "ShortenProgramsModel" "isLowering" "Z" : Cond) ∈ wA := wA_s12 _ (List.mem_of_getElem? (i := 17) rfl)
theorem wi_498 : (.fieldLink "ShortenProgramsModel" 96 "ShortenProgramsModel" "someGood" "Z" : Cond) ∈ wA := wA_s12 _ (List.mem_of_getElem? (i := 18) rfl)
theorem wi_499 : (.fieldLink "ShortenProgramsModel" 99 "ShortenProgramsModel" "wasLowered" "Z" : Cond) ∈ wA := wA_s12 _ (List.mem_of_getElem? (i := 19) rfl)
theorem wi_500 : (.fieldLink "ShortenProgramsModel" 90 "ShortenProgramsModel" "piece" "I" : Cond) ∈ wA := wA_s12 _ (List.mem_of_getElem? (i := 20) rfl)
theorem wi_501 : (.fieldLink "ShortenProgramsModel" 93 "ShortenProgramsModel" "place" "I" : Cond) ∈ wA := wA_s12 _ (List.mem_of_getElem? (i := 21) rfl)
theorem wi_502 : (.fieldLink "ShortenProgramsModel" 73 "ShortenProgramsModel" "atWord" "I" : Cond) ∈ wA := wA_s12 _ (List.mem_of_getElem? (i := 22) rfl)
theorem wi_503 : (.fieldLink "ShortenProgramsModel" 76 "ShortenProgramsModel" "atByte" "I" : Cond) ∈ wA := wA_s12 _ (List.mem_of_getElem? (i := 23) rfl)
theorem wi_504 : (.fieldLink "ShortenProgramsModel" 83 "ShortenProgramsModel" "how" "I" : Cond) ∈ wA := wA_s12 _ (List.mem_of_getElem? (i := 24) rfl)
theorem wi_505 : (.fieldLink "ShortenProgramsModel" 19 "ShortenProgramsModel" "difference" "I" : Cond) ∈ wA := wA_s12 _ (List.mem_of_getElem? (i := 25) rfl)
theorem wi_506 : (.fieldLink "ShortenProgramsModel" 48 "ShortenProgramsModel" "asks" "I" : Cond) ∈ wA := wA_s12 _ (List.mem_of_getElem? (i := 26) rfl)
theorem wi_507 : (.fieldLink "ShortenProgramsModel" 23 "ShortenProgramsModel" "askedSize" "[I" : Cond) ∈ wA := wA_s12 _ (List.mem_of_getElem? (i := 27) rfl)
theorem wi_508 : (.fieldLink "ShortenProgramsModel" 26 "ShortenProgramsModel" "askedWord" "[I" : Cond) ∈ wA := wA_s12 _ (List.mem_of_getElem? (i := 28) rfl)
theorem wi_509 : (.fieldLink "ShortenProgramsModel" 29 "ShortenProgramsModel" "answer" "[I" : Cond) ∈ wA := wA_s12 _ (List.mem_of_getElem? (i := 29) rfl)
theorem wi_510 : (.fieldLink "ShortenProgramsModel" 51 "ShortenProgramsModel" "remembered" "I" : Cond) ∈ wA := wA_s12 _ (List.mem_of_getElem? (i := 30) rfl)
theorem wi_511 : (.fieldLink "ShortenProgramsModel" 54 "ShortenProgramsModel" "good" "I" : Cond) ∈ wA := wA_s12 _ (List.mem_of_getElem? (i := 31) rfl)
theorem wi_512 : (.fieldLink "ShortenProgramsModel" 57 "ShortenProgramsModel" "leftOut" "I" : Cond) ∈ wA := wA_s12 _ (List.mem_of_getElem? (i := 32) rfl)
theorem wi_513 : (.fieldLink "ShortenProgramsModel" 60 "ShortenProgramsModel" "lowered" "I" : Cond) ∈ wA := wA_s12 _ (List.mem_of_getElem? (i := 33) rfl)
theorem wi_514 : (.fieldLink "ShortenProgramsModel" 63 "ShortenProgramsModel" "begun" "I" : Cond) ∈ wA := wA_s12 _ (List.mem_of_getElem? (i := 34) rfl)
theorem wi_515 : (.lays "ShortenProgramsModel" "ShortenProgramsModel" "thrown" "I" : Cond) ∈ wA := wA_s12 _ (List.mem_of_getElem? (i := 35) rfl)
theorem wi_516 : (.soleField "ShortenProgramsModel" "thrown" : Cond) ∈ wA := wA_s12 _ (List.mem_of_getElem? (i := 36) rfl)
theorem wi_517 : (.laysFinal "ShortenProgramsModel" "ShortenProgramsModel" "budget" "I" : Cond) ∈ wA := wA_s12 _ (List.mem_of_getElem? (i := 37) rfl)
theorem wi_518 : (.soleField "ShortenProgramsModel" "budget" : Cond) ∈ wA := wA_s12 _ (List.mem_of_getElem? (i := 38) rfl)
theorem wi_519 : (.lays "ShortenProgramsModel" "ShortenProgramsModel" "state" "I" : Cond) ∈ wA := wA_s12 _ (List.mem_of_getElem? (i := 39) rfl)
theorem wi_520 : (.soleField "ShortenProgramsModel" "state" : Cond) ∈ wA := wA_s13 _ (List.mem_of_getElem? (i := 0) rfl)
theorem wi_521 : (.lays "ShortenProgramsModel" "ShortenProgramsModel" "size" "I" : Cond) ∈ wA := wA_s13 _ (List.mem_of_getElem? (i := 1) rfl)
theorem wi_522 : (.soleField "ShortenProgramsModel" "size" : Cond) ∈ wA := wA_s13 _ (List.mem_of_getElem? (i := 2) rfl)
theorem wi_523 : (.laysFinal "ShortenProgramsModel" "ShortenProgramsModel" "word" "[I" : Cond) ∈ wA := wA_s13 _ (List.mem_of_getElem? (i := 3) rfl)
theorem wi_524 : (.soleField "ShortenProgramsModel" "word" : Cond) ∈ wA := wA_s13 _ (List.mem_of_getElem? (i := 4) rfl)
theorem wi_525 : (.laysFinal "ShortenProgramsModel" "ShortenProgramsModel" "origin" "[I" : Cond) ∈ wA := wA_s13 _ (List.mem_of_getElem? (i := 5) rfl)
theorem wi_526 : (.soleField "ShortenProgramsModel" "origin" : Cond) ∈ wA := wA_s13 _ (List.mem_of_getElem? (i := 6) rfl)
theorem wi_527 : (.lays "ShortenProgramsModel" "ShortenProgramsModel" "candSize" "I" : Cond) ∈ wA := wA_s13 _ (List.mem_of_getElem? (i := 7) rfl)
theorem wi_528 : (.soleField "ShortenProgramsModel" "candSize" : Cond) ∈ wA := wA_s13 _ (List.mem_of_getElem? (i := 8) rfl)
theorem wi_529 : (.laysFinal "ShortenProgramsModel" "ShortenProgramsModel" "cand" "[I" : Cond) ∈ wA := wA_s13 _ (List.mem_of_getElem? (i := 9) rfl)
theorem wi_530 : (.soleField "ShortenProgramsModel" "cand" : Cond) ∈ wA := wA_s13 _ (List.mem_of_getElem? (i := 10) rfl)
theorem wi_531 : (.lays "ShortenProgramsModel" "ShortenProgramsModel" "isFirst" "Z" : Cond) ∈ wA := wA_s13 _ (List.mem_of_getElem? (i := 11) rfl)
theorem wi_532 : (.soleField "ShortenProgramsModel" "isFirst" : Cond) ∈ wA := wA_s13 _ (List.mem_of_getElem? (i := 12) rfl)
theorem wi_533 : (.lays "ShortenProgramsModel" "ShortenProgramsModel" "isLowering" "Z" : Cond) ∈ wA := wA_s13 _ (List.mem_of_getElem? (i := 13) rfl)
theorem wi_534 : (.soleField "ShortenProgramsModel" "isLowering" : Cond) ∈ wA := wA_s13 _ (List.mem_of_getElem? (i := 14) rfl)
theorem wi_535 : (.lays "ShortenProgramsModel" "ShortenProgramsModel" "someGood" "Z" : Cond) ∈ wA := wA_s13 _ (List.mem_of_getElem? (i := 15) rfl)
theorem wi_536 : (.soleField "ShortenProgramsModel" "someGood" : Cond) ∈ wA := wA_s13 _ (List.mem_of_getElem? (i := 16) rfl)
theorem wi_537 : (.lays "ShortenProgramsModel" "ShortenProgramsModel" "wasLowered" "Z" : Cond) ∈ wA := wA_s13 _ (List.mem_of_getElem? (i := 17) rfl)
theorem wi_538 : (.soleField "ShortenProgramsModel" "wasLowered" : Cond) ∈ wA := wA_s13 _ (List.mem_of_getElem? (i := 18) rfl)
theorem wi_539 : (.lays "ShortenProgramsModel" "ShortenProgramsModel" "piece" "I" : Cond) ∈ wA := wA_s13 _ (List.mem_of_getElem? (i := 19) rfl)
theorem wi_540 : (.soleField "ShortenProgramsModel" "piece" : Cond) ∈ wA := wA_s13 _ (List.mem_of_getElem? (i := 20) rfl)
theorem wi_541 : (.lays "ShortenProgramsModel" "ShortenProgramsModel" "place" "I" : Cond) ∈ wA := wA_s13 _ (List.mem_of_getElem? (i := 21) rfl)
theorem wi_542 : (.soleField "ShortenProgramsModel" "place" : Cond) ∈ wA := wA_s13 _ (List.mem_of_getElem? (i := 22) rfl)
theorem wi_543 : (.lays "ShortenProgramsModel" "ShortenProgramsModel" "atWord" "I" : Cond) ∈ wA := wA_s13 _ (List.mem_of_getElem? (i := 23) rfl)
theorem wi_544 : (.soleField "ShortenProgramsModel" "atWord" : Cond) ∈ wA := wA_s13 _ (List.mem_of_getElem? (i := 24) rfl)
theorem wi_545 : (.lays "ShortenProgramsModel" "ShortenProgramsModel" "atByte" "I" : Cond) ∈ wA := wA_s13 _ (List.mem_of_getElem? (i := 25) rfl)
theorem wi_546 : (.soleField "ShortenProgramsModel" "atByte" : Cond) ∈ wA := wA_s13 _ (List.mem_of_getElem? (i := 26) rfl)
theorem wi_547 : (.lays "ShortenProgramsModel" "ShortenProgramsModel" "how" "I" : Cond) ∈ wA := wA_s13 _ (List.mem_of_getElem? (i := 27) rfl)
theorem wi_548 : (.soleField "ShortenProgramsModel" "how" : Cond) ∈ wA := wA_s13 _ (List.mem_of_getElem? (i := 28) rfl)
theorem wi_549 : (.lays "ShortenProgramsModel" "ShortenProgramsModel" "difference" "I" : Cond) ∈ wA := wA_s13 _ (List.mem_of_getElem? (i := 29) rfl)
theorem wi_550 : (.soleField "ShortenProgramsModel" "difference" : Cond) ∈ wA := wA_s13 _ (List.mem_of_getElem? (i := 30) rfl)
theorem wi_551 : (.lays "ShortenProgramsModel" "ShortenProgramsModel" "asks" "I" : Cond) ∈ wA := wA_s13 _ (List.mem_of_getElem? (i := 31) rfl)
theorem wi_552 : (.soleField "ShortenProgramsModel" "asks" : Cond) ∈ wA := wA_s13 _ (List.mem_of_getElem? (i := 32) rfl)
theorem wi_553 : (.laysFinal "ShortenProgramsModel" "ShortenProgramsModel" "askedSize" "[I" : Cond) ∈ wA := wA_s13 _ (List.mem_of_getElem? (i := 33) rfl)
theorem wi_554 : (.soleField "ShortenProgramsModel" "askedSize" : Cond) ∈ wA := wA_s13 _ (List.mem_of_getElem? (i := 34) rfl)
theorem wi_555 : (.laysFinal "ShortenProgramsModel" "ShortenProgramsModel" "askedWord" "[I" : Cond) ∈ wA := wA_s13 _ (List.mem_of_getElem? (i := 35) rfl)
theorem wi_556 : (.soleField "ShortenProgramsModel" "askedWord" : Cond) ∈ wA := wA_s13 _ (List.mem_of_getElem? (i := 36) rfl)
theorem wi_557 : (.laysFinal "ShortenProgramsModel" "ShortenProgramsModel" "answer" "[I" : Cond) ∈ wA := wA_s13 _ (List.mem_of_getElem? (i := 37) rfl)
theorem wi_558 : (.soleField "ShortenProgramsModel" "answer" : Cond) ∈ wA := wA_s13 _ (List.mem_of_getElem? (i := 38) rfl)
theorem wi_559 : (.lays "ShortenProgramsModel" "ShortenProgramsModel" "remembered" "I" : Cond) ∈ wA := wA_s13 _ (List.mem_of_getElem? (i := 39) rfl)
theorem wi_560 : (.soleField "ShortenProgramsModel" "remembered" : Cond) ∈ wA := wA_s14 _ (List.mem_of_getElem? (i := 0) rfl)
theorem wi_561 : (.lays "ShortenProgramsModel" "ShortenProgramsModel" "good" "I" : Cond) ∈ wA := wA_s14 _ (List.mem_of_getElem? (i := 1) rfl)
theorem wi_562 : (.soleField "ShortenProgramsModel" "good" : Cond) ∈ wA := wA_s14 _ (List.mem_of_getElem? (i := 2) rfl)
theorem wi_563 : (.lays "ShortenProgramsModel" "ShortenProgramsModel" "leftOut" "I" : Cond) ∈ wA := wA_s14 _ (List.mem_of_getElem? (i := 3) rfl)
theorem wi_564 : (.soleField "ShortenProgramsModel" "leftOut" : Cond) ∈ wA := wA_s14 _ (List.mem_of_getElem? (i := 4) rfl)
theorem wi_565 : (.lays "ShortenProgramsModel" "ShortenProgramsModel" "lowered" "I" : Cond) ∈ wA := wA_s14 _ (List.mem_of_getElem? (i := 5) rfl)
theorem wi_566 : (.soleField "ShortenProgramsModel" "lowered" : Cond) ∈ wA := wA_s14 _ (List.mem_of_getElem? (i := 6) rfl)
theorem wi_567 : (.lays "ShortenProgramsModel" "ShortenProgramsModel" "begun" "I" : Cond) ∈ wA := wA_s14 _ (List.mem_of_getElem? (i := 7) rfl)
theorem wi_568 : (.soleField "ShortenProgramsModel" "begun" : Cond) ∈ wA := wA_s14 _ (List.mem_of_getElem? (i := 8) rfl)
theorem wi_569 : (.superclass "ShortenProgramsModel" "java/lang/Object" : Cond) ∈ wA := wA_s14 _ (List.mem_of_getElem? (i := 9) rfl)
theorem wi_570 : (.methodLink "ShortenProgramsLaw" 60 yD_thrown : Cond) ∈ wA := wA_s14 _ (List.mem_of_getElem? (i := 10) rfl)
theorem wi_571 : (.instanceMethod yD_thrown : Cond) ∈ wA := wA_s14 _ (List.mem_of_getElem? (i := 11) rfl)
theorem wi_572 : (.selects "ShortenProgramsModel" yD_thrown yD_thrown : Cond) ∈ wA := wA_s14 _ (List.mem_of_getElem? (i := 12) rfl)
theorem wi_573 : (.code yD_thrown prog_7_method_2_code 1 (some .int) : Cond) ∈ wA := wA_s14 _ (List.mem_of_getElem? (i := 13) rfl)
theorem wi_574 : (.methodLink "ShortenProgramsLaw" 59 yD_feed : Cond) ∈ wA := wA_s14 _ (List.mem_of_getElem? (i := 14) rfl)
theorem wi_575 : (.instanceMethod yD_feed : Cond) ∈ wA := wA_s14 _ (List.mem_of_getElem? (i := 15) rfl)
theorem wi_576 : (.selects "ShortenProgramsModel" yD_feed yD_feed : Cond) ∈ wA := wA_s14 _ (List.mem_of_getElem? (i := 16) rfl)
theorem wi_577 : (.code yD_feed prog_7_method_5_code 2 (some .int) : Cond) ∈ wA := wA_s14 _ (List.mem_of_getElem? (i := 17) rfl)
theorem wi_578 : (.methodLink "ShortenProgramsModel" 44 yD_fail : Cond) ∈ wA := wA_s14 _ (List.mem_of_getElem? (i := 18) rfl)
theorem wi_579 : (.instanceMethod yD_fail : Cond) ∈ wA := wA_s14 _ (List.mem_of_getElem? (i := 19) rfl)
theorem wi_580 : (.code yD_fail prog_7_method_3_code 2 (some .int) : Cond) ∈ wA := wA_s14 _ (List.mem_of_getElem? (i := 20) rfl)
theorem wi_581 : (.methodLink "ShortenProgramsLaw" 66 yD_begin : Cond) ∈ wA := wA_s14 _ (List.mem_of_getElem? (i := 21) rfl)
theorem wi_582 : (.instanceMethod yD_begin : Cond) ∈ wA := wA_s14 _ (List.mem_of_getElem? (i := 22) rfl)
theorem wi_583 : (.selects "ShortenProgramsModel" yD_begin yD_begin : Cond) ∈ wA := wA_s14 _ (List.mem_of_getElem? (i := 23) rfl)
theorem wi_584 : (.code yD_begin prog_7_method_22_code 1 none : Cond) ∈ wA := wA_s14 _ (List.mem_of_getElem? (i := 24) rfl)
theorem wi_585 : (.methodLink "ShortenProgramsModel" 105 yD_without : Cond) ∈ wA := wA_s14 _ (List.mem_of_getElem? (i := 25) rfl)
theorem wi_586 : (.instanceMethod yD_without : Cond) ∈ wA := wA_s14 _ (List.mem_of_getElem? (i := 26) rfl)
theorem wi_587 : (.code yD_without prog_7_method_8_code 4 none : Cond) ∈ wA := wA_s14 _ (List.mem_of_getElem? (i := 27) rfl)
theorem wi_588 : (.methodLink "ShortenProgramsModel" 140 yD_put : Cond) ∈ wA := wA_s14 _ (List.mem_of_getElem? (i := 28) rfl)
theorem wi_589 : (.instanceMethod yD_put : Cond) ∈ wA := wA_s14 _ (List.mem_of_getElem? (i := 29) rfl)
theorem wi_590 : (.code yD_put prog_7_method_21_code 2 none : Cond) ∈ wA := wA_s14 _ (List.mem_of_getElem? (i := 30) rfl)
theorem wi_591 : (.methodLink "ShortenProgramsLaw" 76 yD_judge : Cond) ∈ wA := wA_s14 _ (List.mem_of_getElem? (i := 31) rfl)
theorem wi_592 : (.instanceMethod yD_judge : Cond) ∈ wA := wA_s14 _ (List.mem_of_getElem? (i := 32) rfl)
theorem wi_593 : (.selects "ShortenProgramsModel" yD_judge yD_judge : Cond) ∈ wA := wA_s14 _ (List.mem_of_getElem? (i := 33) rfl)
theorem wi_594 : (.code yD_judge prog_7_method_23_code 2 (some .int) : Cond) ∈ wA := wA_s14 _ (List.mem_of_getElem? (i := 34) rfl)
theorem wi_595 : (.methodLink "ShortenProgramsModel" 112 yD_beginLeaving : Cond) ∈ wA := wA_s14 _ (List.mem_of_getElem? (i := 35) rfl)
theorem wi_596 : (.instanceMethod yD_beginLeaving : Cond) ∈ wA := wA_s14 _ (List.mem_of_getElem? (i := 36) rfl)
theorem wi_597 : (.code yD_beginLeaving prog_7_method_12_code 2 none : Cond) ∈ wA := wA_s14 _ (List.mem_of_getElem? (i := 37) rfl)
theorem wi_598 : (.methodLink "ShortenProgramsModel" 143 yD_answered : Cond) ∈ wA := wA_s14 _ (List.mem_of_getElem? (i := 38) rfl)
theorem wi_599 : (.instanceMethod yD_answered : Cond) ∈ wA := wA_s14 _ (List.mem_of_getElem? (i := 39) rfl)
theorem wi_600 : (.code yD_answered prog_7_method_19_code 3 none : Cond) ∈ wA := wA_s15 _ (List.mem_of_getElem? (i := 0) rfl)
theorem wi_601 : (.methodLink "ShortenProgramsModel" 127 yD_takeLeaving : Cond) ∈ wA := wA_s15 _ (List.mem_of_getElem? (i := 1) rfl)
theorem wi_602 : (.instanceMethod yD_takeLeaving : Cond) ∈ wA := wA_s15 _ (List.mem_of_getElem? (i := 2) rfl)
theorem wi_603 : (.code yD_takeLeaving prog_7_method_17_code 3 none : Cond) ∈ wA := wA_s15 _ (List.mem_of_getElem? (i := 3) rfl)
theorem wi_604 : (.methodLink "ShortenProgramsModel" 130 yD_takeLowering : Cond) ∈ wA := wA_s15 _ (List.mem_of_getElem? (i := 4) rfl)
theorem wi_605 : (.instanceMethod yD_takeLowering : Cond) ∈ wA := wA_s15 _ (List.mem_of_getElem? (i := 5) rfl)
theorem wi_606 : (.code yD_takeLowering prog_7_method_18_code 1 none : Cond) ∈ wA := wA_s15 _ (List.mem_of_getElem? (i := 6) rfl)
theorem wi_607 : (.methodLink "ShortenProgramsModel" 124 yD_nextByte : Cond) ∈ wA := wA_s15 _ (List.mem_of_getElem? (i := 7) rfl)
theorem wi_608 : (.instanceMethod yD_nextByte : Cond) ∈ wA := wA_s15 _ (List.mem_of_getElem? (i := 8) rfl)
theorem wi_609 : (.code yD_nextByte prog_7_method_14_code 1 none : Cond) ∈ wA := wA_s15 _ (List.mem_of_getElem? (i := 9) rfl)
theorem wi_610 : (.methodLink "ShortenProgramsModel" 149 yD_goOn : Cond) ∈ wA := wA_s15 _ (List.mem_of_getElem? (i := 10) rfl)
theorem wi_611 : (.instanceMethod yD_goOn : Cond) ∈ wA := wA_s15 _ (List.mem_of_getElem? (i := 11) rfl)
theorem wi_612 : (.code yD_goOn prog_7_method_20_code 2 none : Cond) ∈ wA := wA_s15 _ (List.mem_of_getElem? (i := 12) rfl)
theorem wi_613 : (.methodLink "ShortenProgramsModel" 133 yD_prepare : Cond) ∈ wA := wA_s15 _ (List.mem_of_getElem? (i := 13) rfl)
theorem wi_614 : (.instanceMethod yD_prepare : Cond) ∈ wA := wA_s15 _ (List.mem_of_getElem? (i := 14) rfl)
theorem wi_615 : (.code yD_prepare prog_7_method_16_code 2 (some .boolean) : Cond) ∈ wA := wA_s15 _ (List.mem_of_getElem? (i := 15) rfl)
theorem wi_616 : (.methodLink "ShortenProgramsModel" 109 yD_endPass : Cond) ∈ wA := wA_s15 _ (List.mem_of_getElem? (i := 16) rfl)
theorem wi_617 : (.instanceMethod yD_endPass : Cond) ∈ wA := wA_s15 _ (List.mem_of_getElem? (i := 17) rfl)
theorem wi_618 : (.code yD_endPass prog_7_method_15_code 2 none : Cond) ∈ wA := wA_s15 _ (List.mem_of_getElem? (i := 18) rfl)
theorem wi_619 : (.methodLink "ShortenProgramsModel" 102 yD_beginLowering : Cond) ∈ wA := wA_s15 _ (List.mem_of_getElem? (i := 19) rfl)
theorem wi_620 : (.instanceMethod yD_beginLowering : Cond) ∈ wA := wA_s15 _ (List.mem_of_getElem? (i := 20) rfl)
theorem wi_621 : (.code yD_beginLowering prog_7_method_13_code 1 none : Cond) ∈ wA := wA_s15 _ (List.mem_of_getElem? (i := 21) rfl)
theorem wi_622 : (.methodLink "ShortenProgramsModel" 116 yD_lowerTo : Cond) ∈ wA := wA_s15 _ (List.mem_of_getElem? (i := 22) rfl)
theorem wi_623 : (.instanceMethod yD_lowerTo : Cond) ∈ wA := wA_s15 _ (List.mem_of_getElem? (i := 23) rfl)
theorem wi_624 : (.code yD_lowerTo prog_7_method_11_code 3 (some .int) : Cond) ∈ wA := wA_s15 _ (List.mem_of_getElem? (i := 24) rfl)
theorem wi_625 : (.methodLink "ShortenProgramsModel" 79 yD_byteOf : Cond) ∈ wA := wA_s15 _ (List.mem_of_getElem? (i := 25) rfl)
theorem wi_626 : (.instanceMethod yD_byteOf : Cond) ∈ wA := wA_s15 _ (List.mem_of_getElem? (i := 26) rfl)
theorem wi_627 : (.code yD_byteOf prog_7_method_10_code 3 (some .int) : Cond) ∈ wA := wA_s15 _ (List.mem_of_getElem? (i := 27) rfl)
theorem wi_628 : (.methodLink "ShortenProgramsModel" 120 yD_withByte : Cond) ∈ wA := wA_s15 _ (List.mem_of_getElem? (i := 28) rfl)
theorem wi_629 : (.instanceMethod yD_withByte : Cond) ∈ wA := wA_s15 _ (List.mem_of_getElem? (i := 29) rfl)
theorem wi_630 : (.code yD_withByte prog_7_method_9_code 5 none : Cond) ∈ wA := wA_s15 _ (List.mem_of_getElem? (i := 30) rfl)
theorem wi_631 : (.methodLink "ShortenProgramsModel" 137 yD_find : Cond) ∈ wA := wA_s15 _ (List.mem_of_getElem? (i := 31) rfl)
theorem wi_632 : (.instanceMethod yD_find : Cond) ∈ wA := wA_s15 _ (List.mem_of_getElem? (i := 32) rfl)
theorem wi_633 : (.code yD_find prog_7_method_7_code 2 (some .int) : Cond) ∈ wA := wA_s15 _ (List.mem_of_getElem? (i := 33) rfl)
theorem wi_634 : (.methodLink "ShortenProgramsModel" 69 yD_isAsked : Cond) ∈ wA := wA_s15 _ (List.mem_of_getElem? (i := 34) rfl)
theorem wi_635 : (.instanceMethod yD_isAsked : Cond) ∈ wA := wA_s15 _ (List.mem_of_getElem? (i := 35) rfl)
theorem wi_636 : (.code yD_isAsked prog_7_method_6_code 3 (some .boolean) : Cond) ∈ wA := wA_s15 _ (List.mem_of_getElem? (i := 36) rfl)
theorem wi_637 : (.methodLink "ShortenProgramsLaw" 69 yD_asked : Cond) ∈ wA := wA_s15 _ (List.mem_of_getElem? (i := 37) rfl)
theorem wi_638 : (.instanceMethod yD_asked : Cond) ∈ wA := wA_s15 _ (List.mem_of_getElem? (i := 38) rfl)
theorem wi_639 : (.selects "ShortenProgramsModel" yD_asked yD_asked : Cond) ∈ wA := wA_s15 _ (List.mem_of_getElem? (i := 39) rfl)
theorem wi_640 : (.code yD_asked prog_7_method_24_code 2 (some .int) : Cond) ∈ wA := wA_s16 _ (List.mem_of_getElem? (i := 0) rfl)
theorem wi_641 : (.methodLink "ShortenProgramsModel" 152 yD_within : Cond) ∈ wA := wA_s16 _ (List.mem_of_getElem? (i := 1) rfl)
theorem wi_642 : (.static yD_within : Cond) ∈ wA := wA_s16 _ (List.mem_of_getElem? (i := 2) rfl)
theorem wi_643 : (.code yD_within prog_7_method_4_code 3 (some .boolean) : Cond) ∈ wA := wA_s16 _ (List.mem_of_getElem? (i := 3) rfl)
theorem wi_644 : (.methodLink "ShortenProgramsLaw" 73 yD_size : Cond) ∈ wA := wA_s16 _ (List.mem_of_getElem? (i := 4) rfl)
theorem wi_645 : (.instanceMethod yD_size : Cond) ∈ wA := wA_s16 _ (List.mem_of_getElem? (i := 5) rfl)
theorem wi_646 : (.selects "ShortenProgramsModel" yD_size yD_size : Cond) ∈ wA := wA_s16 _ (List.mem_of_getElem? (i := 6) rfl)
theorem wi_647 : (.code yD_size prog_7_method_25_code 1 (some .int) : Cond) ∈ wA := wA_s16 _ (List.mem_of_getElem? (i := 7) rfl)
theorem wi_648 : (.methodLink "ShortenProgramsLaw" 79 yD_at : Cond) ∈ wA := wA_s16 _ (List.mem_of_getElem? (i := 8) rfl)
theorem wi_649 : (.instanceMethod yD_at : Cond) ∈ wA := wA_s16 _ (List.mem_of_getElem? (i := 9) rfl)
theorem wi_650 : (.selects "ShortenProgramsModel" yD_at yD_at : Cond) ∈ wA := wA_s16 _ (List.mem_of_getElem? (i := 10) rfl)
theorem wi_651 : (.code yD_at prog_7_method_26_code 2 (some .int) : Cond) ∈ wA := wA_s16 _ (List.mem_of_getElem? (i := 11) rfl)
theorem wi_652 : (.methodLink "ShortenProgramsLaw" 82 yD_from : Cond) ∈ wA := wA_s16 _ (List.mem_of_getElem? (i := 12) rfl)
theorem wi_653 : (.instanceMethod yD_from : Cond) ∈ wA := wA_s16 _ (List.mem_of_getElem? (i := 13) rfl)
theorem wi_654 : (.selects "ShortenProgramsModel" yD_from yD_from : Cond) ∈ wA := wA_s16 _ (List.mem_of_getElem? (i := 14) rfl)
theorem wi_655 : (.code yD_from prog_7_method_27_code 2 (some .int) : Cond) ∈ wA := wA_s16 _ (List.mem_of_getElem? (i := 15) rfl)
theorem wi_656 : (.methodLink "ShortenProgramsLaw" 86 yD_known : Cond) ∈ wA := wA_s16 _ (List.mem_of_getElem? (i := 16) rfl)
theorem wi_657 : (.instanceMethod yD_known : Cond) ∈ wA := wA_s16 _ (List.mem_of_getElem? (i := 17) rfl)
theorem wi_658 : (.selects "ShortenProgramsModel" yD_known yD_known : Cond) ∈ wA := wA_s16 _ (List.mem_of_getElem? (i := 18) rfl)
theorem wi_659 : (.code yD_known prog_7_method_28_code 8 (some .int) : Cond) ∈ wA := wA_s16 _ (List.mem_of_getElem? (i := 19) rfl)
theorem wi_660 : (.methodLink "ShortenProgramsLaw" 90 yD_count : Cond) ∈ wA := wA_s16 _ (List.mem_of_getElem? (i := 20) rfl)
theorem wi_661 : (.instanceMethod yD_count : Cond) ∈ wA := wA_s16 _ (List.mem_of_getElem? (i := 21) rfl)
theorem wi_662 : (.selects "ShortenProgramsModel" yD_count yD_count : Cond) ∈ wA := wA_s16 _ (List.mem_of_getElem? (i := 22) rfl)
theorem wi_663 : (.code yD_count prog_7_method_29_code 2 (some .int) : Cond) ∈ wA := wA_s16 _ (List.mem_of_getElem? (i := 23) rfl)
theorem wi_664 : (.arrayClass .long : Cond) ∈ wA := wA_s16 _ (List.mem_of_getElem? (i := 24) rfl)
theorem wi_665 : (.sameMethod "java/lang/Throwable" "java/lang/Throwable" "fillInStackTrace" "(I)Ljava/lang/Throwable;" : Cond) ∈ wA := wA_s16 _ (List.mem_of_getElem? (i := 25) rfl)
theorem wi_666 : (.selects rS yS_startAfresh yS_startAfresh : Cond) ∈ wA := wA_s16 _ (List.mem_of_getElem? (i := 26) rfl)
theorem wi_667 : (.selects "java/lang/Throwable" ⟨"java/lang/Throwable", "fillInStackTrace", "(I)Ljava/lang/Throwable;"⟩ ⟨"java/lang/Throwable", "fillInStackTrace", "(I)Ljava/lang/Throwable;"⟩ : Cond) ∈ wA := wA_s16 _ (List.mem_of_getElem? (i := 27) rfl)
theorem wi_668 : (.selects rS yS_openAsk yS_openAsk : Cond) ∈ wA := wA_s16 _ (List.mem_of_getElem? (i := 28) rfl)
theorem wi_669 : (.selects rS yS_takeFirst yS_takeFirst : Cond) ∈ wA := wA_s16 _ (List.mem_of_getElem? (i := 29) rfl)
theorem wi_670 : (.selects rW yW_startGoingThrough yW_startGoingThrough : Cond) ∈ wA := wA_s16 _ (List.mem_of_getElem? (i := 30) rfl)
theorem wi_671 : (.selects rS yS_take yS_take : Cond) ∈ wA := wA_s16 _ (List.mem_of_getElem? (i := 31) rfl)
theorem wi_672 : (.selects rW yW_nextByte yW_nextByte : Cond) ∈ wA := wA_s16 _ (List.mem_of_getElem? (i := 32) rfl)
theorem wi_673 : (.selects rW yW_lowerValue yW_lowerValue : Cond) ∈ wA := wA_s16 _ (List.mem_of_getElem? (i := 33) rfl)
theorem wi_674 : (.selects rS yS_askNext yS_askNext : Cond) ∈ wA := wA_s16 _ (List.mem_of_getElem? (i := 34) rfl)
theorem wi_675 : (.selects rW yW_endGoingThrough yW_endGoingThrough : Cond) ∈ wA := wA_s16 _ (List.mem_of_getElem? (i := 35) rfl)
theorem wi_676 : (.selects rW yW_startLowering yW_startLowering : Cond) ∈ wA := wA_s16 _ (List.mem_of_getElem? (i := 36) rfl)
theorem wi_677 : (.selects rW yW_canLower yW_canLower : Cond) ∈ wA := wA_s16 _ (List.mem_of_getElem? (i := 37) rfl)
theorem wi_678 : (.selects rS yS_ask yS_ask : Cond) ∈ wA := wA_s16 _ (List.mem_of_getElem? (i := 38) rfl)
theorem wi_679 : (.selects rD yD_fail yD_fail : Cond) ∈ wA := wA_s16 _ (List.mem_of_getElem? (i := 39) rfl)
theorem wi_680 : (.selects rD yD_without yD_without : Cond) ∈ wA := wA_s17 _ (List.mem_of_getElem? (i := 0) rfl)
theorem wi_681 : (.selects rD yD_put yD_put : Cond) ∈ wA := wA_s17 _ (List.mem_of_getElem? (i := 1) rfl)
theorem wi_682 : (.selects rD yD_beginLeaving yD_beginLeaving : Cond) ∈ wA := wA_s17 _ (List.mem_of_getElem? (i := 2) rfl)
theorem wi_683 : (.selects rD yD_answered yD_answered : Cond) ∈ wA := wA_s17 _ (List.mem_of_getElem? (i := 3) rfl)
theorem wi_684 : (.selects rD yD_takeLeaving yD_takeLeaving : Cond) ∈ wA := wA_s17 _ (List.mem_of_getElem? (i := 4) rfl)
theorem wi_685 : (.selects rD yD_takeLowering yD_takeLowering : Cond) ∈ wA := wA_s17 _ (List.mem_of_getElem? (i := 5) rfl)
theorem wi_686 : (.selects rD yD_nextByte yD_nextByte : Cond) ∈ wA := wA_s17 _ (List.mem_of_getElem? (i := 6) rfl)
theorem wi_687 : (.selects rD yD_goOn yD_goOn : Cond) ∈ wA := wA_s17 _ (List.mem_of_getElem? (i := 7) rfl)
theorem wi_688 : (.selects rD yD_prepare yD_prepare : Cond) ∈ wA := wA_s17 _ (List.mem_of_getElem? (i := 8) rfl)
theorem wi_689 : (.selects rD yD_endPass yD_endPass : Cond) ∈ wA := wA_s17 _ (List.mem_of_getElem? (i := 9) rfl)
theorem wi_690 : (.selects rD yD_beginLowering yD_beginLowering : Cond) ∈ wA := wA_s17 _ (List.mem_of_getElem? (i := 10) rfl)
theorem wi_691 : (.selects rD yD_lowerTo yD_lowerTo : Cond) ∈ wA := wA_s17 _ (List.mem_of_getElem? (i := 11) rfl)
theorem wi_692 : (.selects rD yD_byteOf yD_byteOf : Cond) ∈ wA := wA_s17 _ (List.mem_of_getElem? (i := 12) rfl)
theorem wi_693 : (.selects rD yD_withByte yD_withByte : Cond) ∈ wA := wA_s17 _ (List.mem_of_getElem? (i := 13) rfl)
theorem wi_694 : (.selects rD yD_find yD_find : Cond) ∈ wA := wA_s17 _ (List.mem_of_getElem? (i := 14) rfl)
theorem wi_695 : (.selects rD yD_isAsked yD_isAsked : Cond) ∈ wA := wA_s17 _ (List.mem_of_getElem? (i := 15) rfl)
theorem wt_0 : (.initialized "ShortenProgramsLaw" : Cond) ∈ lw_tbl := (List.mem_append_right _ (List.mem_append_left _ (List.mem_of_getElem? (i := 0) rfl)))
theorem wt_1 : (.initialized "ShortenPrograms" : Cond) ∈ lw_tbl := (List.mem_append_right _ (List.mem_append_left _ (List.mem_of_getElem? (i := 1) rfl)))
theorem wt_2 : (.initialized "java/lang/Math" : Cond) ∈ lw_tbl := (List.mem_append_right _ (List.mem_append_left _ (List.mem_of_getElem? (i := 2) rfl)))
theorem wt_3 : (.initialized "ShortenPrograms$Program" : Cond) ∈ lw_tbl := (List.mem_append_right _ (List.mem_append_left _ (List.mem_of_getElem? (i := 3) rfl)))
theorem wt_4 : (.initialized "ShortenPrograms$Memory" : Cond) ∈ lw_tbl := (List.mem_append_right _ (List.mem_append_left _ (List.mem_of_getElem? (i := 4) rfl)))
theorem wt_5 : (.initialized "ShortenPrograms$Walk" : Cond) ∈ lw_tbl := (List.mem_append_right _ (List.mem_append_left _ (List.mem_of_getElem? (i := 5) rfl)))
theorem wt_6 : (.initialized "ShortenProgramsModel" : Cond) ∈ lw_tbl := (List.mem_append_right _ (List.mem_append_left _ (List.mem_of_getElem? (i := 6) rfl)))
theorem wt_7 : (.initialized "java/lang/Throwable" : Cond) ∈ lw_tbl := (List.mem_append_right _ (List.mem_append_left _ (List.mem_of_getElem? (i := 7) rfl)))
theorem wt_8 : (.initialized "java/lang/Exception" : Cond) ∈ lw_tbl := (List.mem_append_right _ (List.mem_append_left _ (List.mem_of_getElem? (i := 8) rfl)))
theorem wt_9 : (.initialized "java/lang/RuntimeException" : Cond) ∈ lw_tbl := (List.mem_append_right _ (List.mem_append_left _ (List.mem_of_getElem? (i := 9) rfl)))
theorem wt_10 : (.initialized "java/lang/UnsupportedOperationException" : Cond) ∈ lw_tbl := (List.mem_append_right _ (List.mem_append_left _ (List.mem_of_getElem? (i := 10) rfl)))
theorem wt_11 : (.initialized "java/lang/IllegalStateException" : Cond) ∈ lw_tbl := (List.mem_append_right _ (List.mem_append_left _ (List.mem_of_getElem? (i := 11) rfl)))
theorem wt_12 : (.initialized "ShortenPrograms$Ask" : Cond) ∈ lw_tbl := (List.mem_append_right _ (List.mem_append_left _ (List.mem_of_getElem? (i := 12) rfl)))
theorem wt_13 : (.initialized "java/lang/IndexOutOfBoundsException" : Cond) ∈ lw_tbl := (List.mem_append_right _ (List.mem_append_left _ (List.mem_of_getElem? (i := 13) rfl)))
theorem wt_14 : (.initialized "java/lang/IllegalArgumentException" : Cond) ∈ lw_tbl := (List.mem_append_right _ (List.mem_append_left _ (List.mem_of_getElem? (i := 14) rfl)))
theorem wt_15 : (.classLink "ShortenProgramsLaw" 8 "ShortenPrograms" : Cond) ∈ lw_tbl := (List.mem_append_right _ (List.mem_append_left _ (List.mem_of_getElem? (i := 15) rfl)))
theorem wt_16 : (.instantiable "ShortenPrograms" 11 : Cond) ∈ lw_tbl := (List.mem_append_right _ (List.mem_append_left _ (List.mem_of_getElem? (i := 16) rfl)))
theorem wt_17 : (.methodLink "ShortenProgramsLaw" 50 yS_init : Cond) ∈ lw_tbl := (List.mem_append_right _ (List.mem_append_left _ (List.mem_of_getElem? (i := 17) rfl)))
theorem wt_18 : (.instanceMethod yS_init : Cond) ∈ lw_tbl := (List.mem_append_right _ (List.mem_append_left _ (List.mem_of_getElem? (i := 18) rfl)))
theorem wt_19 : (.code yS_init prog_1_method_1_code 2 none : Cond) ∈ lw_tbl := (List.mem_append_right _ (List.mem_append_left _ (List.mem_of_getElem? (i := 19) rfl)))
theorem wt_20 : (.methodLink "ShortenPrograms" 1 ⟨"java/lang/Object", "<init>", "()V"⟩ : Cond) ∈ lw_tbl := (List.mem_append_right _ (List.mem_append_left _ (List.mem_of_getElem? (i := 20) rfl)))
theorem wt_21 : (.instanceMethod ⟨"java/lang/Object", "<init>", "()V"⟩ : Cond) ∈ lw_tbl := (List.mem_append_right _ (List.mem_append_left _ (List.mem_of_getElem? (i := 21) rfl)))
theorem wt_22 : (.code ⟨"java/lang/Object", "<init>", "()V"⟩ object_method_1_code 1 none : Cond) ∈ lw_tbl := (List.mem_append_right _ (List.mem_append_left _ (List.mem_of_getElem? (i := 22) rfl)))
theorem wt_23 : (.constantLong "ShortenPrograms" 9 (600) : Cond) ∈ lw_tbl := (List.mem_append_right _ (List.mem_append_left _ (List.mem_of_getElem? (i := 23) rfl)))
theorem wt_24 : (.methodLink "ShortenPrograms" 11 ⟨"java/lang/Math", "floorMod", "(JJ)J"⟩ : Cond) ∈ lw_tbl := (List.mem_append_right _ (List.mem_append_left _ (List.mem_of_getElem? (i := 24) rfl)))
theorem wt_25 : (.static ⟨"java/lang/Math", "floorMod", "(JJ)J"⟩ : Cond) ∈ lw_tbl := (List.mem_append_right _ (List.mem_append_left _ (List.mem_of_getElem? (i := 25) rfl)))
theorem wt_26 : (.code ⟨"java/lang/Math", "floorMod", "(JJ)J"⟩ prog_12_method_52_code 6 (some .long) : Cond) ∈ lw_tbl := (List.mem_append_right _ (List.mem_append_left _ (List.mem_of_getElem? (i := 26) rfl)))
theorem wt_27 : (.classLink "ShortenPrograms" 21 "ShortenPrograms$Program" : Cond) ∈ lw_tbl := (List.mem_append_right _ (List.mem_append_left _ (List.mem_of_getElem? (i := 27) rfl)))
theorem wt_28 : (.instantiable "ShortenPrograms$Program" 3 : Cond) ∈ lw_tbl := (List.mem_append_right _ (List.mem_append_left _ (List.mem_of_getElem? (i := 28) rfl)))
theorem wt_29 : (.instanceMethod yP_init : Cond) ∈ lw_tbl := (List.mem_append_right _ (List.mem_append_left _ (List.mem_of_getElem? (i := 30) rfl)))
theorem wt_30 : (.code yP_init prog_4_method_1_code 1 none : Cond) ∈ lw_tbl := (List.mem_append_right _ (List.mem_append_left _ (List.mem_of_getElem? (i := 31) rfl)))
theorem wt_31 : (.methodLink "ShortenPrograms$Program" 3 ⟨"java/lang/Object", "<init>", "()V"⟩ : Cond) ∈ lw_tbl := (List.mem_append_right _ (List.mem_append_left _ (List.mem_of_getElem? (i := 32) rfl)))
theorem wt_32 : (.fieldLink "ShortenPrograms$Program" 9 "ShortenPrograms$Program" "words" "[I" : Cond) ∈ lw_tbl := (List.mem_append_right _ (List.mem_append_left _ (List.mem_of_getElem? (i := 33) rfl)))
theorem wt_33 : (.fieldLink "ShortenPrograms$Program" 15 "ShortenPrograms$Program" "origins" "[I" : Cond) ∈ lw_tbl := (List.mem_append_right _ (List.mem_append_left _ (List.mem_of_getElem? (i := 34) rfl)))
theorem wt_34 : (.fieldLink "ShortenPrograms$Program" 18 "ShortenPrograms$Program" "length" "I" : Cond) ∈ lw_tbl := (List.mem_append_right _ (List.mem_append_left _ (List.mem_of_getElem? (i := 35) rfl)))
theorem wt_35 : (.laysFinal "ShortenPrograms$Program" "ShortenPrograms$Program" "words" "[I" : Cond) ∈ lw_tbl := (List.mem_append_right _ (List.mem_append_left _ (List.mem_of_getElem? (i := 36) rfl)))
theorem wt_36 : (.soleField "ShortenPrograms$Program" "words" : Cond) ∈ lw_tbl := (List.mem_append_right _ (List.mem_append_left _ (List.mem_of_getElem? (i := 37) rfl)))
theorem wt_37 : (.laysFinal "ShortenPrograms$Program" "ShortenPrograms$Program" "origins" "[I" : Cond) ∈ lw_tbl := (List.mem_append_right _ (List.mem_append_left _ (List.mem_of_getElem? (i := 38) rfl)))
theorem wt_38 : (.soleField "ShortenPrograms$Program" "origins" : Cond) ∈ lw_tbl := (List.mem_append_right _ (List.mem_append_left _ (List.mem_of_getElem? (i := 39) rfl)))
theorem wt_39 : (.lays "ShortenPrograms$Program" "ShortenPrograms$Program" "length" "I" : Cond) ∈ lw_tbl := (List.mem_append_right _ (List.mem_append_left _ (List.mem_of_getElem? (i := 40) rfl)))
theorem wt_40 : (.soleField "ShortenPrograms$Program" "length" : Cond) ∈ lw_tbl := (List.mem_append_right _ (List.mem_append_left _ (List.mem_of_getElem? (i := 41) rfl)))
theorem wt_41 : (.superclass "ShortenPrograms$Program" "java/lang/Object" : Cond) ∈ lw_tbl := (List.mem_append_right _ (List.mem_append_left _ (List.mem_of_getElem? (i := 42) rfl)))
theorem wt_42 : (.arrayClass .int : Cond) ∈ lw_tbl := (List.mem_append_right _ (List.mem_append_left _ (List.mem_of_getElem? (i := 43) rfl)))
theorem wt_43 : (.classLink "ShortenPrograms" 31 "ShortenPrograms$Memory" : Cond) ∈ lw_tbl := (List.mem_append_right _ (List.mem_append_left _ (List.mem_of_getElem? (i := 44) rfl)))
theorem wt_44 : (.instantiable "ShortenPrograms$Memory" 2 : Cond) ∈ lw_tbl := (List.mem_append_right _ (List.mem_append_left _ (List.mem_of_getElem? (i := 45) rfl)))
theorem wt_45 : (.instanceMethod yM_init : Cond) ∈ lw_tbl := (List.mem_append_right _ (List.mem_append_left _ (List.mem_of_getElem? (i := 47) rfl)))
theorem wt_46 : (.code yM_init prog_3_method_1_code 1 none : Cond) ∈ lw_tbl := (List.mem_append_right _ (List.mem_append_left _ (List.mem_of_getElem? (i := 48) rfl)))
theorem wt_47 : (.methodLink "ShortenPrograms$Memory" 3 ⟨"java/lang/Object", "<init>", "()V"⟩ : Cond) ∈ lw_tbl := (List.mem_append_right _ (List.mem_append_left _ (List.mem_of_getElem? (i := 49) rfl)))
theorem wt_48 : (.classLink "ShortenPrograms$Memory" 9 "ShortenPrograms$Ask" : Cond) ∈ lw_tbl := (List.mem_append_right _ (List.mem_append_left _ (List.mem_of_getElem? (i := 50) rfl)))
theorem wt_49 : (.fieldLink "ShortenPrograms$Memory" 11 "ShortenPrograms$Memory" "asks" "[LShortenPrograms$Ask;" : Cond) ∈ lw_tbl := (List.mem_append_right _ (List.mem_append_left _ (List.mem_of_getElem? (i := 52) rfl)))
theorem wt_50 : (.fieldLink "ShortenPrograms$Memory" 17 "ShortenPrograms$Memory" "filled" "I" : Cond) ∈ lw_tbl := (List.mem_append_right _ (List.mem_append_left _ (List.mem_of_getElem? (i := 53) rfl)))
theorem wt_51 : (.laysFinal "ShortenPrograms$Memory" "ShortenPrograms$Memory" "asks" "[LShortenPrograms$Ask;" : Cond) ∈ lw_tbl := (List.mem_append_right _ (List.mem_append_left _ (List.mem_of_getElem? (i := 54) rfl)))
theorem wt_52 : (.soleField "ShortenPrograms$Memory" "asks" : Cond) ∈ lw_tbl := (List.mem_append_right _ (List.mem_append_left _ (List.mem_of_getElem? (i := 55) rfl)))
theorem wt_53 : (.lays "ShortenPrograms$Memory" "ShortenPrograms$Memory" "filled" "I" : Cond) ∈ lw_tbl := (List.mem_append_right _ (List.mem_append_left _ (List.mem_of_getElem? (i := 56) rfl)))
theorem wt_54 : (.soleField "ShortenPrograms$Memory" "filled" : Cond) ∈ lw_tbl := (List.mem_append_right _ (List.mem_append_left _ (List.mem_of_getElem? (i := 57) rfl)))
theorem wt_55 : (.superclass "ShortenPrograms$Memory" "java/lang/Object" : Cond) ∈ lw_tbl := (List.mem_append_right _ (List.mem_append_left _ (List.mem_of_getElem? (i := 58) rfl)))
theorem wt_56 : (.classLink "ShortenPrograms" 38 "ShortenPrograms$Walk" : Cond) ∈ lw_tbl := (List.mem_append_right _ (List.mem_append_left _ (List.mem_of_getElem? (i := 59) rfl)))
theorem wt_57 : (.instantiable "ShortenPrograms$Walk" 8 : Cond) ∈ lw_tbl := (List.mem_append_right _ (List.mem_append_left _ (List.mem_of_getElem? (i := 60) rfl)))
theorem wt_58 : (.instanceMethod yW_init : Cond) ∈ lw_tbl := (List.mem_append_right _ (List.mem_append_left _ (List.mem_of_getElem? (i := 62) rfl)))
theorem wt_59 : (.code yW_init prog_5_method_1_code 1 none : Cond) ∈ lw_tbl := (List.mem_append_right _ (List.mem_append_left _ (List.mem_of_getElem? (i := 63) rfl)))
theorem wt_60 : (.methodLink "ShortenPrograms$Walk" 3 ⟨"java/lang/Object", "<init>", "()V"⟩ : Cond) ∈ lw_tbl := (List.mem_append_right _ (List.mem_append_left _ (List.mem_of_getElem? (i := 64) rfl)))
theorem wt_61 : (.fieldLink "ShortenPrograms$Walk" 15 "ShortenPrograms$Walk" "step" "I" : Cond) ∈ lw_tbl := (List.mem_append_right _ (List.mem_append_left _ (List.mem_of_getElem? (i := 65) rfl)))
theorem wt_62 : (.fieldLink "ShortenPrograms$Walk" 22 "ShortenPrograms$Walk" "piece" "I" : Cond) ∈ lw_tbl := (List.mem_append_right _ (List.mem_append_left _ (List.mem_of_getElem? (i := 66) rfl)))
theorem wt_63 : (.fieldLink "ShortenPrograms$Walk" 25 "ShortenPrograms$Walk" "place" "I" : Cond) ∈ lw_tbl := (List.mem_append_right _ (List.mem_append_left _ (List.mem_of_getElem? (i := 67) rfl)))
theorem wt_64 : (.fieldLink "ShortenPrograms$Walk" 28 "ShortenPrograms$Walk" "someLeftOut" "Z" : Cond) ∈ lw_tbl := (List.mem_append_right _ (List.mem_append_left _ (List.mem_of_getElem? (i := 68) rfl)))
theorem wt_65 : (.fieldLink "ShortenPrograms$Walk" 32 "ShortenPrograms$Walk" "wordPlace" "I" : Cond) ∈ lw_tbl := (List.mem_append_right _ (List.mem_append_left _ (List.mem_of_getElem? (i := 69) rfl)))
theorem wt_66 : (.fieldLink "ShortenPrograms$Walk" 35 "ShortenPrograms$Walk" "bytePlace" "I" : Cond) ∈ lw_tbl := (List.mem_append_right _ (List.mem_append_left _ (List.mem_of_getElem? (i := 70) rfl)))
theorem wt_67 : (.fieldLink "ShortenPrograms$Walk" 38 "ShortenPrograms$Walk" "someLowered" "Z" : Cond) ∈ lw_tbl := (List.mem_append_right _ (List.mem_append_left _ (List.mem_of_getElem? (i := 71) rfl)))
theorem wt_68 : (.fieldLink "ShortenPrograms$Walk" 9 "ShortenPrograms$Walk" "timesLeaving" "I" : Cond) ∈ lw_tbl := (List.mem_append_right _ (List.mem_append_left _ (List.mem_of_getElem? (i := 72) rfl)))
theorem wt_69 : (.lays "ShortenPrograms$Walk" "ShortenPrograms$Walk" "step" "I" : Cond) ∈ lw_tbl := (List.mem_append_right _ (List.mem_append_left _ (List.mem_of_getElem? (i := 73) rfl)))
theorem wt_70 : (.soleField "ShortenPrograms$Walk" "step" : Cond) ∈ lw_tbl := (List.mem_append_right _ (List.mem_append_left _ (List.mem_of_getElem? (i := 74) rfl)))
theorem wt_71 : (.lays "ShortenPrograms$Walk" "ShortenPrograms$Walk" "piece" "I" : Cond) ∈ lw_tbl := (List.mem_append_right _ (List.mem_append_left _ (List.mem_of_getElem? (i := 75) rfl)))
theorem wt_72 : (.soleField "ShortenPrograms$Walk" "piece" : Cond) ∈ lw_tbl := (List.mem_append_right _ (List.mem_append_left _ (List.mem_of_getElem? (i := 76) rfl)))
theorem wt_73 : (.lays "ShortenPrograms$Walk" "ShortenPrograms$Walk" "place" "I" : Cond) ∈ lw_tbl := (List.mem_append_right _ (List.mem_append_left _ (List.mem_of_getElem? (i := 77) rfl)))
theorem wt_74 : (.soleField "ShortenPrograms$Walk" "place" : Cond) ∈ lw_tbl := (List.mem_append_right _ (List.mem_append_left _ (List.mem_of_getElem? (i := 78) rfl)))
theorem wt_75 : (.lays "ShortenPrograms$Walk" "ShortenPrograms$Walk" "someLeftOut" "Z" : Cond) ∈ lw_tbl := (List.mem_append_right _ (List.mem_append_left _ (List.mem_of_getElem? (i := 79) rfl)))
theorem wt_76 : (.soleField "ShortenPrograms$Walk" "someLeftOut" : Cond) ∈ lw_tbl := (List.mem_append_right _ (List.mem_append_left _ (List.mem_of_getElem? (i := 80) rfl)))
theorem wt_77 : (.lays "ShortenPrograms$Walk" "ShortenPrograms$Walk" "wordPlace" "I" : Cond) ∈ lw_tbl := (List.mem_append_right _ (List.mem_append_left _ (List.mem_of_getElem? (i := 81) rfl)))
theorem wt_78 : (.soleField "ShortenPrograms$Walk" "wordPlace" : Cond) ∈ lw_tbl := (List.mem_append_right _ (List.mem_append_left _ (List.mem_of_getElem? (i := 82) rfl)))
theorem wt_79 : (.lays "ShortenPrograms$Walk" "ShortenPrograms$Walk" "bytePlace" "I" : Cond) ∈ lw_tbl := (List.mem_append_right _ (List.mem_append_left _ (List.mem_of_getElem? (i := 83) rfl)))
theorem wt_80 : (.soleField "ShortenPrograms$Walk" "bytePlace" : Cond) ∈ lw_tbl := (List.mem_append_right _ (List.mem_append_left _ (List.mem_of_getElem? (i := 84) rfl)))
theorem wt_81 : (.lays "ShortenPrograms$Walk" "ShortenPrograms$Walk" "someLowered" "Z" : Cond) ∈ lw_tbl := (List.mem_append_right _ (List.mem_append_left _ (List.mem_of_getElem? (i := 85) rfl)))
theorem wt_82 : (.soleField "ShortenPrograms$Walk" "someLowered" : Cond) ∈ lw_tbl := (List.mem_append_right _ (List.mem_append_left _ (List.mem_of_getElem? (i := 86) rfl)))
theorem wt_83 : (.lays "ShortenPrograms$Walk" "ShortenPrograms$Walk" "timesLeaving" "I" : Cond) ∈ lw_tbl := (List.mem_append_right _ (List.mem_append_left _ (List.mem_of_getElem? (i := 87) rfl)))
theorem wt_84 : (.soleField "ShortenPrograms$Walk" "timesLeaving" : Cond) ∈ lw_tbl := (List.mem_append_right _ (List.mem_append_left _ (List.mem_of_getElem? (i := 88) rfl)))
theorem wt_85 : (.superclass "ShortenPrograms$Walk" "java/lang/Object" : Cond) ∈ lw_tbl := (List.mem_append_right _ (List.mem_append_left _ (List.mem_of_getElem? (i := 89) rfl)))
theorem wt_86 : (.fieldLink "ShortenPrograms" 17 "ShortenPrograms" "budget" "I" : Cond) ∈ lw_tbl := (List.mem_append_right _ (List.mem_append_left _ (List.mem_of_getElem? (i := 90) rfl)))
theorem wt_87 : (.fieldLink "ShortenPrograms" 24 "ShortenPrograms" "current" "LShortenPrograms$Program;" : Cond) ∈ lw_tbl := (List.mem_append_right _ (List.mem_append_left _ (List.mem_of_getElem? (i := 91) rfl)))
theorem wt_88 : (.fieldLink "ShortenPrograms" 28 "ShortenPrograms" "candidate" "LShortenPrograms$Program;" : Cond) ∈ lw_tbl := (List.mem_append_right _ (List.mem_append_left _ (List.mem_of_getElem? (i := 92) rfl)))
theorem wt_89 : (.fieldLink "ShortenPrograms" 34 "ShortenPrograms" "memory" "LShortenPrograms$Memory;" : Cond) ∈ lw_tbl := (List.mem_append_right _ (List.mem_append_left _ (List.mem_of_getElem? (i := 93) rfl)))
theorem wt_90 : (.fieldLink "ShortenPrograms" 41 "ShortenPrograms" "walk" "LShortenPrograms$Walk;" : Cond) ∈ lw_tbl := (List.mem_append_right _ (List.mem_append_left _ (List.mem_of_getElem? (i := 94) rfl)))
theorem wt_91 : (.fieldLink "ShortenPrograms" 45 "ShortenPrograms" "state" "I" : Cond) ∈ lw_tbl := (List.mem_append_right _ (List.mem_append_left _ (List.mem_of_getElem? (i := 95) rfl)))
theorem wt_92 : (.fieldLink "ShortenPrograms" 48 "ShortenPrograms" "theDifference" "I" : Cond) ∈ lw_tbl := (List.mem_append_right _ (List.mem_append_left _ (List.mem_of_getElem? (i := 96) rfl)))
theorem wt_93 : (.fieldLink "ShortenPrograms" 156 "ShortenPrograms" "remembered" "I" : Cond) ∈ lw_tbl := (List.mem_append_right _ (List.mem_append_left _ (List.mem_of_getElem? (i := 97) rfl)))
theorem wt_94 : (.fieldLink "ShortenPrograms" 159 "ShortenPrograms" "good" "I" : Cond) ∈ lw_tbl := (List.mem_append_right _ (List.mem_append_left _ (List.mem_of_getElem? (i := 98) rfl)))
theorem wt_95 : (.fieldLink "ShortenPrograms" 162 "ShortenPrograms" "leftOut" "I" : Cond) ∈ lw_tbl := (List.mem_append_right _ (List.mem_append_left _ (List.mem_of_getElem? (i := 99) rfl)))
theorem wt_96 : (.fieldLink "ShortenPrograms" 165 "ShortenPrograms" "lowered" "I" : Cond) ∈ lw_tbl := (List.mem_append_right _ (List.mem_append_left _ (List.mem_of_getElem? (i := 100) rfl)))
theorem wt_97 : (.laysFinal "ShortenPrograms" "ShortenPrograms" "budget" "I" : Cond) ∈ lw_tbl := (List.mem_append_right _ (List.mem_append_left _ (List.mem_of_getElem? (i := 101) rfl)))
theorem wt_98 : (.soleField "ShortenPrograms" "budget" : Cond) ∈ lw_tbl := (List.mem_append_right _ (List.mem_append_left _ (List.mem_of_getElem? (i := 102) rfl)))
theorem wt_99 : (.laysFinal "ShortenPrograms" "ShortenPrograms" "current" "LShortenPrograms$Program;" : Cond) ∈ lw_tbl := (List.mem_append_right _ (List.mem_append_left _ (List.mem_of_getElem? (i := 103) rfl)))
theorem wt_100 : (.soleField "ShortenPrograms" "current" : Cond) ∈ lw_tbl := (List.mem_append_right _ (List.mem_append_left _ (List.mem_of_getElem? (i := 104) rfl)))
theorem wt_101 : (.laysFinal "ShortenPrograms" "ShortenPrograms" "candidate" "LShortenPrograms$Program;" : Cond) ∈ lw_tbl := (List.mem_append_right _ (List.mem_append_left _ (List.mem_of_getElem? (i := 105) rfl)))
theorem wt_102 : (.soleField "ShortenPrograms" "candidate" : Cond) ∈ lw_tbl := (List.mem_append_right _ (List.mem_append_left _ (List.mem_of_getElem? (i := 106) rfl)))
theorem wt_103 : (.laysFinal "ShortenPrograms" "ShortenPrograms" "memory" "LShortenPrograms$Memory;" : Cond) ∈ lw_tbl := (List.mem_append_right _ (List.mem_append_left _ (List.mem_of_getElem? (i := 107) rfl)))
theorem wt_104 : (.soleField "ShortenPrograms" "memory" : Cond) ∈ lw_tbl := (List.mem_append_right _ (List.mem_append_left _ (List.mem_of_getElem? (i := 108) rfl)))
theorem wt_105 : (.laysFinal "ShortenPrograms" "ShortenPrograms" "walk" "LShortenPrograms$Walk;" : Cond) ∈ lw_tbl := (List.mem_append_right _ (List.mem_append_left _ (List.mem_of_getElem? (i := 109) rfl)))
theorem wt_106 : (.soleField "ShortenPrograms" "walk" : Cond) ∈ lw_tbl := (List.mem_append_right _ (List.mem_append_left _ (List.mem_of_getElem? (i := 110) rfl)))
theorem wt_107 : (.lays "ShortenPrograms" "ShortenPrograms" "state" "I" : Cond) ∈ lw_tbl := (List.mem_append_right _ (List.mem_append_left _ (List.mem_of_getElem? (i := 111) rfl)))
theorem wt_108 : (.soleField "ShortenPrograms" "state" : Cond) ∈ lw_tbl := (List.mem_append_right _ (List.mem_append_left _ (List.mem_of_getElem? (i := 112) rfl)))
theorem wt_109 : (.lays "ShortenPrograms" "ShortenPrograms" "theDifference" "I" : Cond) ∈ lw_tbl := (List.mem_append_right _ (List.mem_append_left _ (List.mem_of_getElem? (i := 113) rfl)))
theorem wt_110 : (.soleField "ShortenPrograms" "theDifference" : Cond) ∈ lw_tbl := (List.mem_append_right _ (List.mem_append_left _ (List.mem_of_getElem? (i := 114) rfl)))
theorem wt_111 : (.lays "ShortenPrograms" "ShortenPrograms" "remembered" "I" : Cond) ∈ lw_tbl := (List.mem_append_right _ (List.mem_append_left _ (List.mem_of_getElem? (i := 115) rfl)))
theorem wt_112 : (.soleField "ShortenPrograms" "remembered" : Cond) ∈ lw_tbl := (List.mem_append_right _ (List.mem_append_left _ (List.mem_of_getElem? (i := 116) rfl)))
theorem wt_113 : (.lays "ShortenPrograms" "ShortenPrograms" "good" "I" : Cond) ∈ lw_tbl := (List.mem_append_right _ (List.mem_append_left _ (List.mem_of_getElem? (i := 117) rfl)))
theorem wt_114 : (.soleField "ShortenPrograms" "good" : Cond) ∈ lw_tbl := (List.mem_append_right _ (List.mem_append_left _ (List.mem_of_getElem? (i := 118) rfl)))
theorem wt_115 : (.lays "ShortenPrograms" "ShortenPrograms" "leftOut" "I" : Cond) ∈ lw_tbl := (List.mem_append_right _ (List.mem_append_left _ (List.mem_of_getElem? (i := 119) rfl)))
theorem wt_116 : (.soleField "ShortenPrograms" "leftOut" : Cond) ∈ lw_tbl := (List.mem_append_right _ (List.mem_append_left _ (List.mem_of_getElem? (i := 120) rfl)))
theorem wt_117 : (.lays "ShortenPrograms" "ShortenPrograms" "lowered" "I" : Cond) ∈ lw_tbl := (List.mem_append_right _ (List.mem_append_left _ (List.mem_of_getElem? (i := 121) rfl)))
theorem wt_118 : (.soleField "ShortenPrograms" "lowered" : Cond) ∈ lw_tbl := (List.mem_append_right _ (List.mem_append_left _ (List.mem_of_getElem? (i := 122) rfl)))
theorem wt_119 : (.superclass "ShortenPrograms" "java/lang/Object" : Cond) ∈ lw_tbl := (List.mem_append_right _ (List.mem_append_left _ (List.mem_of_getElem? (i := 123) rfl)))
theorem wt_120 : (.methodLink "ShortenProgramsLaw" 87 yS_count : Cond) ∈ lw_tbl := (List.mem_append_right _ (List.mem_append_left _ (List.mem_of_getElem? (i := 124) rfl)))
theorem wt_121 : (.instanceMethod yS_count : Cond) ∈ lw_tbl := (List.mem_append_right _ (List.mem_append_left _ (List.mem_of_getElem? (i := 125) rfl)))
theorem wt_122 : (.selects "ShortenPrograms" yS_count yS_count : Cond) ∈ lw_tbl := (List.mem_append_right _ (List.mem_append_left _ (List.mem_of_getElem? (i := 126) rfl)))
theorem wt_123 : (.code yS_count prog_1_method_10_code 2 (some .int) : Cond) ∈ lw_tbl := (List.mem_append_right _ (List.mem_append_left _ (List.mem_of_getElem? (i := 127) rfl)))
theorem wt_124 : (.methodLink "ShortenPrograms" 69 yP_length : Cond) ∈ lw_tbl := (List.mem_append_right _ (List.mem_append_left _ (List.mem_of_getElem? (i := 128) rfl)))
theorem wt_125 : (.instanceMethod yP_length : Cond) ∈ lw_tbl := (List.mem_append_right _ (List.mem_append_left _ (List.mem_of_getElem? (i := 129) rfl)))
theorem wt_126 : (.selects "ShortenPrograms$Program" yP_length yP_length : Cond) ∈ lw_tbl := (List.mem_append_right _ (List.mem_append_left _ (List.mem_of_getElem? (i := 130) rfl)))
theorem wt_127 : (.code yP_length prog_4_method_2_code 1 (some .int) : Cond) ∈ lw_tbl := (List.mem_append_right _ (List.mem_append_left _ (List.mem_of_getElem? (i := 131) rfl)))
theorem wt_128 : (.methodLink "ShortenPrograms" 153 yM_filled : Cond) ∈ lw_tbl := (List.mem_append_right _ (List.mem_append_left _ (List.mem_of_getElem? (i := 132) rfl)))
theorem wt_129 : (.instanceMethod yM_filled : Cond) ∈ lw_tbl := (List.mem_append_right _ (List.mem_append_left _ (List.mem_of_getElem? (i := 133) rfl)))
theorem wt_130 : (.selects "ShortenPrograms$Memory" yM_filled yM_filled : Cond) ∈ lw_tbl := (List.mem_append_right _ (List.mem_append_left _ (List.mem_of_getElem? (i := 134) rfl)))
theorem wt_131 : (.code yM_filled prog_3_method_2_code 1 (some .int) : Cond) ∈ lw_tbl := (List.mem_append_right _ (List.mem_append_left _ (List.mem_of_getElem? (i := 135) rfl)))
theorem wt_132 : (.methodLink "ShortenPrograms" 168 yW_timesLeaving : Cond) ∈ lw_tbl := (List.mem_append_right _ (List.mem_append_left _ (List.mem_of_getElem? (i := 136) rfl)))
theorem wt_133 : (.instanceMethod yW_timesLeaving : Cond) ∈ lw_tbl := (List.mem_append_right _ (List.mem_append_left _ (List.mem_of_getElem? (i := 137) rfl)))
theorem wt_134 : (.selects "ShortenPrograms$Walk" yW_timesLeaving yW_timesLeaving : Cond) ∈ lw_tbl := (List.mem_append_right _ (List.mem_append_left _ (List.mem_of_getElem? (i := 138) rfl)))
theorem wt_135 : (.code yW_timesLeaving prog_5_method_2_code 1 (some .int) : Cond) ∈ lw_tbl := (List.mem_append_right _ (List.mem_append_left _ (List.mem_of_getElem? (i := 139) rfl)))
theorem wt_136 : (.methodLink "ShortenProgramsLaw" 44 yL_cell : Cond) ∈ lw_tbl := (List.mem_append_right _ (List.mem_append_left _ (List.mem_of_getElem? (i := 140) rfl)))
theorem wt_137 : (.static yL_cell : Cond) ∈ lw_tbl := (List.mem_append_right _ (List.mem_append_left _ (List.mem_of_getElem? (i := 141) rfl)))
theorem wt_138 : (.code yL_cell method_2_code 2 (some .int) : Cond) ∈ lw_tbl := (List.mem_append_right _ (List.mem_append_left _ (List.mem_of_getElem? (i := 142) rfl)))
theorem wt_139 : (.methodLink "ShortenProgramsLaw" 56 yL_feed : Cond) ∈ lw_tbl := (List.mem_append_right _ (List.mem_append_left _ (List.mem_of_getElem? (i := 143) rfl)))
theorem wt_140 : (.static yL_feed : Cond) ∈ lw_tbl := (List.mem_append_right _ (List.mem_append_left _ (List.mem_of_getElem? (i := 144) rfl)))
theorem wt_141 : (.codeWith yL_feed method_3_code 4 (some .int) [(0, 9, 12, 13)] : Cond) ∈ lw_tbl := (List.mem_append_right _ (List.mem_append_left _ (List.mem_of_getElem? (i := 145) rfl)))
theorem wt_142 : (.classLink "ShortenProgramsLaw" 13 "java/lang/UnsupportedOperationException" : Cond) ∈ lw_tbl := (List.mem_append_right _ (List.mem_append_left _ (List.mem_of_getElem? (i := 146) rfl)))
theorem wt_143 : (.methodLink "ShortenProgramsLaw" 7 yS_feed : Cond) ∈ lw_tbl := (List.mem_append_right _ (List.mem_append_left _ (List.mem_of_getElem? (i := 147) rfl)))
theorem wt_144 : (.instanceMethod yS_feed : Cond) ∈ lw_tbl := (List.mem_append_right _ (List.mem_append_left _ (List.mem_of_getElem? (i := 148) rfl)))
theorem wt_145 : (.selects "ShortenPrograms" yS_feed yS_feed : Cond) ∈ lw_tbl := (List.mem_append_right _ (List.mem_append_left _ (List.mem_of_getElem? (i := 149) rfl)))
theorem wt_146 : (.code yS_feed prog_1_method_2_code 2 (some .int) : Cond) ∈ lw_tbl := (List.mem_append_right _ (List.mem_append_left _ (List.mem_of_getElem? (i := 150) rfl)))
theorem wt_147 : (.methodLink "ShortenPrograms" 51 yS_startAfresh : Cond) ∈ lw_tbl := (List.mem_append_right _ (List.mem_append_left _ (List.mem_of_getElem? (i := 151) rfl)))
theorem wt_148 : (.instanceMethod yS_startAfresh : Cond) ∈ lw_tbl := (List.mem_append_right _ (List.mem_append_left _ (List.mem_of_getElem? (i := 153) rfl)))
theorem wt_149 : (.code yS_startAfresh prog_1_method_11_code 1 none : Cond) ∈ lw_tbl := (List.mem_append_right _ (List.mem_append_left _ (List.mem_of_getElem? (i := 154) rfl)))
theorem wt_150 : (.methodLink "ShortenPrograms" 171 yP_clear : Cond) ∈ lw_tbl := (List.mem_append_right _ (List.mem_append_left _ (List.mem_of_getElem? (i := 155) rfl)))
theorem wt_151 : (.instanceMethod yP_clear : Cond) ∈ lw_tbl := (List.mem_append_right _ (List.mem_append_left _ (List.mem_of_getElem? (i := 156) rfl)))
theorem wt_152 : (.selects "ShortenPrograms$Program" yP_clear yP_clear : Cond) ∈ lw_tbl := (List.mem_append_right _ (List.mem_append_left _ (List.mem_of_getElem? (i := 157) rfl)))
theorem wt_153 : (.code yP_clear prog_4_method_7_code 1 none : Cond) ∈ lw_tbl := (List.mem_append_right _ (List.mem_append_left _ (List.mem_of_getElem? (i := 158) rfl)))
theorem wt_154 : (.methodLink "ShortenPrograms" 174 yM_clear : Cond) ∈ lw_tbl := (List.mem_append_right _ (List.mem_append_left _ (List.mem_of_getElem? (i := 159) rfl)))
theorem wt_155 : (.instanceMethod yM_clear : Cond) ∈ lw_tbl := (List.mem_append_right _ (List.mem_append_left _ (List.mem_of_getElem? (i := 160) rfl)))
theorem wt_156 : (.selects "ShortenPrograms$Memory" yM_clear yM_clear : Cond) ∈ lw_tbl := (List.mem_append_right _ (List.mem_append_left _ (List.mem_of_getElem? (i := 161) rfl)))
theorem wt_157 : (.code yM_clear prog_3_method_3_code 1 none : Cond) ∈ lw_tbl := (List.mem_append_right _ (List.mem_append_left _ (List.mem_of_getElem? (i := 162) rfl)))
theorem wt_158 : (.methodLink "ShortenPrograms" 175 yW_clear : Cond) ∈ lw_tbl := (List.mem_append_right _ (List.mem_append_left _ (List.mem_of_getElem? (i := 163) rfl)))
theorem wt_159 : (.instanceMethod yW_clear : Cond) ∈ lw_tbl := (List.mem_append_right _ (List.mem_append_left _ (List.mem_of_getElem? (i := 164) rfl)))
theorem wt_160 : (.selects "ShortenPrograms$Walk" yW_clear yW_clear : Cond) ∈ lw_tbl := (List.mem_append_right _ (List.mem_append_left _ (List.mem_of_getElem? (i := 165) rfl)))
theorem wt_161 : (.code yW_clear prog_5_method_4_code 1 none : Cond) ∈ lw_tbl := (List.mem_append_right _ (List.mem_append_left _ (List.mem_of_getElem? (i := 166) rfl)))
theorem wt_162 : (.methodLink "ShortenPrograms" 54 yP_isFull : Cond) ∈ lw_tbl := (List.mem_append_right _ (List.mem_append_left _ (List.mem_of_getElem? (i := 167) rfl)))
theorem wt_163 : (.instanceMethod yP_isFull : Cond) ∈ lw_tbl := (List.mem_append_right _ (List.mem_append_left _ (List.mem_of_getElem? (i := 168) rfl)))
theorem wt_164 : (.selects "ShortenPrograms$Program" yP_isFull yP_isFull : Cond) ∈ lw_tbl := (List.mem_append_right _ (List.mem_append_left _ (List.mem_of_getElem? (i := 169) rfl)))
theorem wt_165 : (.code yP_isFull prog_4_method_3_code 1 (some .boolean) : Cond) ∈ lw_tbl := (List.mem_append_right _ (List.mem_append_left _ (List.mem_of_getElem? (i := 170) rfl)))
theorem wt_166 : (.classLink "ShortenPrograms" 58 "java/lang/UnsupportedOperationException" : Cond) ∈ lw_tbl := (List.mem_append_right _ (List.mem_append_left _ (List.mem_of_getElem? (i := 171) rfl)))
theorem wt_167 : (.instantiable "java/lang/UnsupportedOperationException" 6 : Cond) ∈ lw_tbl := (List.mem_append_right _ (List.mem_append_left _ (List.mem_of_getElem? (i := 172) rfl)))
theorem wt_168 : (.selects "java/lang/UnsupportedOperationException" ⟨"java/lang/Throwable", "fillInStackTrace", "(I)Ljava/lang/Throwable;"⟩ ⟨"java/lang/Throwable", "fillInStackTrace", "(I)Ljava/lang/Throwable;"⟩ : Cond) ∈ lw_tbl := (List.mem_append_right _ (List.mem_append_left _ (List.mem_of_getElem? (i := 180) rfl)))
theorem wt_169 : (.selects "java/lang/UnsupportedOperationException" ⟨"java/lang/Throwable", "fillInStackTrace", "()Ljava/lang/Throwable;"⟩ ⟨"java/lang/Throwable", "fillInStackTrace", "()Ljava/lang/Throwable;"⟩ : Cond) ∈ lw_tbl := (List.mem_append_right _ (List.mem_append_left _ (List.mem_of_getElem? (i := 181) rfl)))
theorem wt_170 : (.lays "java/lang/UnsupportedOperationException" "java/lang/Throwable" "cause" "Ljava/lang/Throwable;" : Cond) ∈ lw_tbl := (List.mem_append_right _ (List.mem_append_left _ (List.mem_of_getElem? (i := 182) rfl)))
theorem wt_171 : (.lays "java/lang/Throwable" "java/lang/Throwable" "cause" "Ljava/lang/Throwable;" : Cond) ∈ lw_tbl := (List.mem_append_right _ (List.mem_append_left _ (List.mem_of_getElem? (i := 183) rfl)))
theorem wt_172 : (.lays "java/lang/UnsupportedOperationException" "java/lang/Throwable" "stackTrace" "[Ljava/lang/StackTraceElement;" : Cond) ∈ lw_tbl := (List.mem_append_right _ (List.mem_append_left _ (List.mem_of_getElem? (i := 184) rfl)))
theorem wt_173 : (.lays "java/lang/Throwable" "java/lang/Throwable" "stackTrace" "[Ljava/lang/StackTraceElement;" : Cond) ∈ lw_tbl := (List.mem_append_right _ (List.mem_append_left _ (List.mem_of_getElem? (i := 185) rfl)))
theorem wt_174 : (.lays "java/lang/UnsupportedOperationException" "java/lang/Throwable" "suppressedExceptions" "Ljava/util/List;" : Cond) ∈ lw_tbl := (List.mem_append_right _ (List.mem_append_left _ (List.mem_of_getElem? (i := 186) rfl)))
theorem wt_175 : (.lays "java/lang/Throwable" "java/lang/Throwable" "suppressedExceptions" "Ljava/util/List;" : Cond) ∈ lw_tbl := (List.mem_append_right _ (List.mem_append_left _ (List.mem_of_getElem? (i := 187) rfl)))
theorem wt_176 : (.lays "java/lang/UnsupportedOperationException" "java/lang/Throwable" "detailMessage" "Ljava/lang/String;" : Cond) ∈ lw_tbl := (List.mem_append_right _ (List.mem_append_left _ (List.mem_of_getElem? (i := 188) rfl)))
theorem wt_177 : (.lays "java/lang/Throwable" "java/lang/Throwable" "detailMessage" "Ljava/lang/String;" : Cond) ∈ lw_tbl := (List.mem_append_right _ (List.mem_append_left _ (List.mem_of_getElem? (i := 189) rfl)))
theorem wt_178 : (.lays "java/lang/UnsupportedOperationException" "java/lang/Throwable" "backtrace" "Ljava/lang/Object;" : Cond) ∈ lw_tbl := (List.mem_append_right _ (List.mem_append_left _ (List.mem_of_getElem? (i := 190) rfl)))
theorem wt_179 : (.lays "java/lang/Throwable" "java/lang/Throwable" "backtrace" "Ljava/lang/Object;" : Cond) ∈ lw_tbl := (List.mem_append_right _ (List.mem_append_left _ (List.mem_of_getElem? (i := 191) rfl)))
theorem wt_180 : (.fieldLink "java/lang/Throwable" 198 "java/lang/Throwable" "backtrace" "Ljava/lang/Object;" : Cond) ∈ lw_tbl := (List.mem_append_right _ (List.mem_append_left _ (List.mem_of_getElem? (i := 192) rfl)))
theorem wt_181 : (.superclass "java/lang/Throwable" "java/lang/Object" : Cond) ∈ lw_tbl := (List.mem_append_right _ (List.mem_append_left _ (List.mem_of_getElem? (i := 193) rfl)))
theorem wt_182 : (.instanceMethod ⟨"java/lang/Throwable", "<init>", "()V"⟩ : Cond) ∈ lw_tbl := (List.mem_append_right _ (List.mem_append_left _ (List.mem_of_getElem? (i := 194) rfl)))
theorem wt_183 : (.code ⟨"java/lang/Throwable", "<init>", "()V"⟩ prog_15_method_1_code 1 none : Cond) ∈ lw_tbl := (List.mem_append_right _ (List.mem_append_left _ (List.mem_of_getElem? (i := 195) rfl)))
theorem wt_184 : (.methodLink "java/lang/Throwable" 1 ⟨"java/lang/Object", "<init>", "()V"⟩ : Cond) ∈ lw_tbl := (List.mem_append_right _ (List.mem_append_left _ (List.mem_of_getElem? (i := 196) rfl)))
theorem wt_185 : (.fieldLink "java/lang/Throwable" 13 "java/lang/Throwable" "UNASSIGNED_STACK" "[Ljava/lang/StackTraceElement;" : Cond) ∈ lw_tbl := (List.mem_append_right _ (List.mem_append_left _ (List.mem_of_getElem? (i := 197) rfl)))
theorem wt_186 : (.fieldLink "java/lang/Throwable" 20 "java/lang/Throwable" "SUPPRESSED_SENTINEL" "Ljava/util/List;" : Cond) ∈ lw_tbl := (List.mem_append_right _ (List.mem_append_left _ (List.mem_of_getElem? (i := 199) rfl)))
theorem wt_187 : (.methodLink "java/lang/Throwable" 27 ⟨"java/lang/Throwable", "fillInStackTrace", "()Ljava/lang/Throwable;"⟩ : Cond) ∈ lw_tbl := (List.mem_append_right _ (List.mem_append_left _ (List.mem_of_getElem? (i := 201) rfl)))
theorem wt_188 : (.instanceMethod ⟨"java/lang/Throwable", "fillInStackTrace", "()Ljava/lang/Throwable;"⟩ : Cond) ∈ lw_tbl := (List.mem_append_right _ (List.mem_append_left _ (List.mem_of_getElem? (i := 202) rfl)))
theorem wt_189 : (.sameMethod "java/lang/Throwable" "java/lang/Throwable" "fillInStackTrace" "()Ljava/lang/Throwable;" : Cond) ∈ lw_tbl := (List.mem_append_right _ (List.mem_append_left _ (List.mem_of_getElem? (i := 203) rfl)))
theorem wt_190 : (.selects "java/lang/IllegalArgumentException" ⟨"java/lang/Throwable", "fillInStackTrace", "()Ljava/lang/Throwable;"⟩ ⟨"java/lang/Throwable", "fillInStackTrace", "()Ljava/lang/Throwable;"⟩ : Cond) ∈ lw_tbl := (List.mem_append_right _ (List.mem_append_left _ (List.mem_of_getElem? (i := 204) rfl)))
theorem wt_191 : (.selects "java/lang/IllegalStateException" ⟨"java/lang/Throwable", "fillInStackTrace", "()Ljava/lang/Throwable;"⟩ ⟨"java/lang/Throwable", "fillInStackTrace", "()Ljava/lang/Throwable;"⟩ : Cond) ∈ lw_tbl := (List.mem_append_right _ (List.mem_append_left _ (List.mem_of_getElem? (i := 205) rfl)))
theorem wt_192 : (.selects "java/lang/IndexOutOfBoundsException" ⟨"java/lang/Throwable", "fillInStackTrace", "()Ljava/lang/Throwable;"⟩ ⟨"java/lang/Throwable", "fillInStackTrace", "()Ljava/lang/Throwable;"⟩ : Cond) ∈ lw_tbl := (List.mem_append_right _ (List.mem_append_left _ (List.mem_of_getElem? (i := 206) rfl)))
theorem wt_193 : (.codeSync ⟨"java/lang/Throwable", "fillInStackTrace", "()Ljava/lang/Throwable;"⟩ prog_15_method_18_code 1 (some (.object "java/lang/Throwable")) : Cond) ∈ lw_tbl := (List.mem_append_right _ (List.mem_append_left _ (List.mem_of_getElem? (i := 207) rfl)))
theorem wt_194 : (.methodLink "java/lang/Throwable" 202 ⟨"java/lang/Throwable", "fillInStackTrace", "(I)Ljava/lang/Throwable;"⟩ : Cond) ∈ lw_tbl := (List.mem_append_right _ (List.mem_append_left _ (List.mem_of_getElem? (i := 208) rfl)))
theorem wt_195 : (.instanceMethod ⟨"java/lang/Throwable", "fillInStackTrace", "(I)Ljava/lang/Throwable;"⟩ : Cond) ∈ lw_tbl := (List.mem_append_right _ (List.mem_append_left _ (List.mem_of_getElem? (i := 210) rfl)))
theorem wt_196 : (.instantiable "java/lang/Throwable" 6 : Cond) ∈ lw_tbl := (List.mem_append_right _ (List.mem_append_left _ (List.mem_of_getElem? (i := 211) rfl)))
theorem wt_197 : (.native ⟨"java/lang/Throwable", "fillInStackTrace", "(I)Ljava/lang/Throwable;"⟩ : Cond) ∈ lw_tbl := (List.mem_append_right _ (List.mem_append_left _ (List.mem_of_getElem? (i := 212) rfl)))
theorem wt_198 : (.methodLink "ShortenPrograms" 62 ⟨"java/lang/UnsupportedOperationException", "<init>", "(Ljava/lang/String;)V"⟩ : Cond) ∈ lw_tbl := (List.mem_append_right _ (List.mem_append_left _ (List.mem_of_getElem? (i := 214) rfl)))
theorem wt_199 : (.instanceMethod ⟨"java/lang/UnsupportedOperationException", "<init>", "(Ljava/lang/String;)V"⟩ : Cond) ∈ lw_tbl := (List.mem_append_right _ (List.mem_append_left _ (List.mem_of_getElem? (i := 215) rfl)))
theorem wt_200 : (.code ⟨"java/lang/UnsupportedOperationException", "<init>", "(Ljava/lang/String;)V"⟩ prog_16_method_2_code 2 none : Cond) ∈ lw_tbl := (List.mem_append_right _ (List.mem_append_left _ (List.mem_of_getElem? (i := 216) rfl)))
theorem wt_201 : (.methodLink "java/lang/UnsupportedOperationException" 7 ⟨"java/lang/RuntimeException", "<init>", "(Ljava/lang/String;)V"⟩ : Cond) ∈ lw_tbl := (List.mem_append_right _ (List.mem_append_left _ (List.mem_of_getElem? (i := 217) rfl)))
theorem wt_202 : (.instanceMethod ⟨"java/lang/RuntimeException", "<init>", "(Ljava/lang/String;)V"⟩ : Cond) ∈ lw_tbl := (List.mem_append_right _ (List.mem_append_left _ (List.mem_of_getElem? (i := 218) rfl)))
theorem wt_203 : (.code ⟨"java/lang/RuntimeException", "<init>", "(Ljava/lang/String;)V"⟩ prog_13_method_2_code 2 none : Cond) ∈ lw_tbl := (List.mem_append_right _ (List.mem_append_left _ (List.mem_of_getElem? (i := 219) rfl)))
theorem wt_204 : (.methodLink "java/lang/RuntimeException" 7 ⟨"java/lang/Exception", "<init>", "(Ljava/lang/String;)V"⟩ : Cond) ∈ lw_tbl := (List.mem_append_right _ (List.mem_append_left _ (List.mem_of_getElem? (i := 220) rfl)))
theorem wt_205 : (.instanceMethod ⟨"java/lang/Exception", "<init>", "(Ljava/lang/String;)V"⟩ : Cond) ∈ lw_tbl := (List.mem_append_right _ (List.mem_append_left _ (List.mem_of_getElem? (i := 221) rfl)))
theorem wt_206 : (.code ⟨"java/lang/Exception", "<init>", "(Ljava/lang/String;)V"⟩ prog_8_method_2_code 2 none : Cond) ∈ lw_tbl := (List.mem_append_right _ (List.mem_append_left _ (List.mem_of_getElem? (i := 222) rfl)))
theorem wt_207 : (.methodLink "java/lang/Exception" 7 ⟨"java/lang/Throwable", "<init>", "(Ljava/lang/String;)V"⟩ : Cond) ∈ lw_tbl := (List.mem_append_right _ (List.mem_append_left _ (List.mem_of_getElem? (i := 223) rfl)))
theorem wt_208 : (.instanceMethod ⟨"java/lang/Throwable", "<init>", "(Ljava/lang/String;)V"⟩ : Cond) ∈ lw_tbl := (List.mem_append_right _ (List.mem_append_left _ (List.mem_of_getElem? (i := 224) rfl)))
theorem wt_209 : (.code ⟨"java/lang/Throwable", "<init>", "(Ljava/lang/String;)V"⟩ prog_15_method_2_code 2 none : Cond) ∈ lw_tbl := (List.mem_append_right _ (List.mem_append_left _ (List.mem_of_getElem? (i := 225) rfl)))
theorem wt_210 : (.fieldLink "java/lang/Throwable" 198 "java/lang/Throwable" "backtrace" "Ljava/lang/Object;" : Cond) ∈ lw_tbl := (List.mem_append_right _ (List.mem_append_left _ (List.mem_of_getElem? (i := 226) rfl)))
theorem wt_211 : (.fieldLink "java/lang/Throwable" 31 "java/lang/Throwable" "detailMessage" "Ljava/lang/String;" : Cond) ∈ lw_tbl := (List.mem_append_right _ (List.mem_append_left _ (List.mem_of_getElem? (i := 227) rfl)))
theorem wt_212 : (.fieldLink "java/lang/Throwable" 7 "java/lang/Throwable" "cause" "Ljava/lang/Throwable;" : Cond) ∈ lw_tbl := (List.mem_append_right _ (List.mem_append_left _ (List.mem_of_getElem? (i := 228) rfl)))
theorem wt_213 : (.fieldLink "java/lang/Throwable" 17 "java/lang/Throwable" "stackTrace" "[Ljava/lang/StackTraceElement;" : Cond) ∈ lw_tbl := (List.mem_append_right _ (List.mem_append_left _ (List.mem_of_getElem? (i := 229) rfl)))
theorem wt_214 : (.fieldLink "java/lang/Throwable" 24 "java/lang/Throwable" "suppressedExceptions" "Ljava/util/List;" : Cond) ∈ lw_tbl := (List.mem_append_right _ (List.mem_append_left _ (List.mem_of_getElem? (i := 230) rfl)))
theorem wt_215 : (.soleField "java/lang/Throwable" "backtrace" : Cond) ∈ lw_tbl := (List.mem_append_right _ (List.mem_append_left _ (List.mem_of_getElem? (i := 231) rfl)))
theorem wt_216 : (.soleField "java/lang/Throwable" "detailMessage" : Cond) ∈ lw_tbl := (List.mem_append_right _ (List.mem_append_left _ (List.mem_of_getElem? (i := 232) rfl)))
theorem wt_217 : (.soleField "java/lang/Throwable" "cause" : Cond) ∈ lw_tbl := (List.mem_append_right _ (List.mem_append_left _ (List.mem_of_getElem? (i := 233) rfl)))
theorem wt_218 : (.soleField "java/lang/Throwable" "stackTrace" : Cond) ∈ lw_tbl := (List.mem_append_right _ (List.mem_append_left _ (List.mem_of_getElem? (i := 234) rfl)))
theorem wt_219 : (.lays "java/lang/UnsupportedOperationException" "java/lang/Throwable" "depth" "I" : Cond) ∈ lw_tbl := (List.mem_append_right _ (List.mem_append_left _ (List.mem_of_getElem? (i := 235) rfl)))
theorem wt_220 : (.soleField "java/lang/Throwable" "depth" : Cond) ∈ lw_tbl := (List.mem_append_right _ (List.mem_append_left _ (List.mem_of_getElem? (i := 236) rfl)))
theorem wt_221 : (.soleField "java/lang/Throwable" "suppressedExceptions" : Cond) ∈ lw_tbl := (List.mem_append_right _ (List.mem_append_left _ (List.mem_of_getElem? (i := 237) rfl)))
theorem wt_222 : (.superclass "java/lang/UnsupportedOperationException" "java/lang/RuntimeException" : Cond) ∈ lw_tbl := (List.mem_append_right _ (List.mem_append_left _ (List.mem_of_getElem? (i := 238) rfl)))
theorem wt_223 : (.arrayClass .byte : Cond) ∈ lw_tbl := (List.mem_append_right _ (List.mem_append_left _ (List.mem_of_getElem? (i := 239) rfl)))
theorem wt_224 : (.methodLink "ShortenPrograms" 65 yP_append : Cond) ∈ lw_tbl := (List.mem_append_right _ (List.mem_append_right _ (List.mem_append_left _ (List.mem_of_getElem? (i := 0) rfl))))
theorem wt_225 : (.instanceMethod yP_append : Cond) ∈ lw_tbl := (List.mem_append_right _ (List.mem_append_right _ (List.mem_append_left _ (List.mem_of_getElem? (i := 1) rfl))))
theorem wt_226 : (.selects "ShortenPrograms$Program" yP_append yP_append : Cond) ∈ lw_tbl := (List.mem_append_right _ (List.mem_append_right _ (List.mem_append_left _ (List.mem_of_getElem? (i := 2) rfl))))
theorem wt_227 : (.code yP_append prog_4_method_8_code 2 none : Cond) ∈ lw_tbl := (List.mem_append_right _ (List.mem_append_right _ (List.mem_append_left _ (List.mem_of_getElem? (i := 3) rfl))))
theorem wt_228 : (.methodLink "ShortenProgramsLaw" 63 yL_begin : Cond) ∈ lw_tbl := (List.mem_append_right _ (List.mem_append_right _ (List.mem_append_left _ (List.mem_of_getElem? (i := 4) rfl))))
theorem wt_229 : (.static yL_begin : Cond) ∈ lw_tbl := (List.mem_append_right _ (List.mem_append_right _ (List.mem_append_left _ (List.mem_of_getElem? (i := 5) rfl))))
theorem wt_230 : (.codeWith yL_begin method_4_code 2 (some .int) [(0, 4, 7, 18)] : Cond) ∈ lw_tbl := (List.mem_append_right _ (List.mem_append_right _ (List.mem_append_left _ (List.mem_of_getElem? (i := 6) rfl))))
theorem wt_231 : (.classLink "ShortenProgramsLaw" 18 "java/lang/IllegalStateException" : Cond) ∈ lw_tbl := (List.mem_append_right _ (List.mem_append_right _ (List.mem_append_left _ (List.mem_of_getElem? (i := 7) rfl))))
theorem wt_232 : (.methodLink "ShortenProgramsLaw" 15 yS_begin : Cond) ∈ lw_tbl := (List.mem_append_right _ (List.mem_append_right _ (List.mem_append_left _ (List.mem_of_getElem? (i := 8) rfl))))
theorem wt_233 : (.instanceMethod yS_begin : Cond) ∈ lw_tbl := (List.mem_append_right _ (List.mem_append_right _ (List.mem_append_left _ (List.mem_of_getElem? (i := 9) rfl))))
theorem wt_234 : (.selects "ShortenPrograms" yS_begin yS_begin : Cond) ∈ lw_tbl := (List.mem_append_right _ (List.mem_append_right _ (List.mem_append_left _ (List.mem_of_getElem? (i := 10) rfl))))
theorem wt_235 : (.code yS_begin prog_1_method_3_code 1 none : Cond) ∈ lw_tbl := (List.mem_append_right _ (List.mem_append_right _ (List.mem_append_left _ (List.mem_of_getElem? (i := 11) rfl))))
theorem wt_236 : (.classLink "ShortenPrograms" 73 "java/lang/IllegalStateException" : Cond) ∈ lw_tbl := (List.mem_append_right _ (List.mem_append_right _ (List.mem_append_left _ (List.mem_of_getElem? (i := 12) rfl))))
theorem wt_237 : (.instantiable "java/lang/IllegalStateException" 6 : Cond) ∈ lw_tbl := (List.mem_append_right _ (List.mem_append_right _ (List.mem_append_left _ (List.mem_of_getElem? (i := 13) rfl))))
theorem wt_238 : (.selects "java/lang/IllegalStateException" ⟨"java/lang/Throwable", "fillInStackTrace", "(I)Ljava/lang/Throwable;"⟩ ⟨"java/lang/Throwable", "fillInStackTrace", "(I)Ljava/lang/Throwable;"⟩ : Cond) ∈ lw_tbl := (List.mem_append_right _ (List.mem_append_right _ (List.mem_append_left _ (List.mem_of_getElem? (i := 15) rfl))))
theorem wt_239 : (.lays "java/lang/IllegalStateException" "java/lang/Throwable" "cause" "Ljava/lang/Throwable;" : Cond) ∈ lw_tbl := (List.mem_append_right _ (List.mem_append_right _ (List.mem_append_left _ (List.mem_of_getElem? (i := 16) rfl))))
theorem wt_240 : (.lays "java/lang/IllegalStateException" "java/lang/Throwable" "stackTrace" "[Ljava/lang/StackTraceElement;" : Cond) ∈ lw_tbl := (List.mem_append_right _ (List.mem_append_right _ (List.mem_append_left _ (List.mem_of_getElem? (i := 17) rfl))))
theorem wt_241 : (.lays "java/lang/IllegalStateException" "java/lang/Throwable" "suppressedExceptions" "Ljava/util/List;" : Cond) ∈ lw_tbl := (List.mem_append_right _ (List.mem_append_right _ (List.mem_append_left _ (List.mem_of_getElem? (i := 18) rfl))))
theorem wt_242 : (.lays "java/lang/IllegalStateException" "java/lang/Throwable" "detailMessage" "Ljava/lang/String;" : Cond) ∈ lw_tbl := (List.mem_append_right _ (List.mem_append_right _ (List.mem_append_left _ (List.mem_of_getElem? (i := 19) rfl))))
theorem wt_243 : (.lays "java/lang/IllegalStateException" "java/lang/Throwable" "backtrace" "Ljava/lang/Object;" : Cond) ∈ lw_tbl := (List.mem_append_right _ (List.mem_append_right _ (List.mem_append_left _ (List.mem_of_getElem? (i := 20) rfl))))
theorem wt_244 : (.methodLink "ShortenPrograms" 77 ⟨"java/lang/IllegalStateException", "<init>", "(Ljava/lang/String;)V"⟩ : Cond) ∈ lw_tbl := (List.mem_append_right _ (List.mem_append_right _ (List.mem_append_left _ (List.mem_of_getElem? (i := 22) rfl))))
theorem wt_245 : (.instanceMethod ⟨"java/lang/IllegalStateException", "<init>", "(Ljava/lang/String;)V"⟩ : Cond) ∈ lw_tbl := (List.mem_append_right _ (List.mem_append_right _ (List.mem_append_left _ (List.mem_of_getElem? (i := 23) rfl))))
theorem wt_246 : (.code ⟨"java/lang/IllegalStateException", "<init>", "(Ljava/lang/String;)V"⟩ prog_10_method_2_code 2 none : Cond) ∈ lw_tbl := (List.mem_append_right _ (List.mem_append_right _ (List.mem_append_left _ (List.mem_of_getElem? (i := 24) rfl))))
theorem wt_247 : (.methodLink "java/lang/IllegalStateException" 7 ⟨"java/lang/RuntimeException", "<init>", "(Ljava/lang/String;)V"⟩ : Cond) ∈ lw_tbl := (List.mem_append_right _ (List.mem_append_right _ (List.mem_append_left _ (List.mem_of_getElem? (i := 25) rfl))))
theorem wt_248 : (.lays "java/lang/IllegalStateException" "java/lang/Throwable" "depth" "I" : Cond) ∈ lw_tbl := (List.mem_append_right _ (List.mem_append_right _ (List.mem_append_left _ (List.mem_of_getElem? (i := 26) rfl))))
theorem wt_249 : (.superclass "java/lang/IllegalStateException" "java/lang/RuntimeException" : Cond) ∈ lw_tbl := (List.mem_append_right _ (List.mem_append_right _ (List.mem_append_left _ (List.mem_of_getElem? (i := 27) rfl))))
theorem wt_250 : (.methodLink "ShortenPrograms" 78 yM_keep : Cond) ∈ lw_tbl := (List.mem_append_right _ (List.mem_append_right _ (List.mem_append_left _ (List.mem_of_getElem? (i := 28) rfl))))
theorem wt_251 : (.instanceMethod yM_keep : Cond) ∈ lw_tbl := (List.mem_append_right _ (List.mem_append_right _ (List.mem_append_left _ (List.mem_of_getElem? (i := 29) rfl))))
theorem wt_252 : (.selects "ShortenPrograms$Memory" yM_keep yM_keep : Cond) ∈ lw_tbl := (List.mem_append_right _ (List.mem_append_right _ (List.mem_append_left _ (List.mem_of_getElem? (i := 30) rfl))))
theorem wt_253 : (.code yM_keep prog_3_method_4_code 3 none : Cond) ∈ lw_tbl := (List.mem_append_right _ (List.mem_append_right _ (List.mem_append_left _ (List.mem_of_getElem? (i := 31) rfl))))
theorem wt_254 : (.instantiable "ShortenPrograms$Ask" 3 : Cond) ∈ lw_tbl := (List.mem_append_right _ (List.mem_append_right _ (List.mem_append_left _ (List.mem_of_getElem? (i := 32) rfl))))
theorem wt_255 : (.instanceMethod yA_init : Cond) ∈ lw_tbl := (List.mem_append_right _ (List.mem_append_right _ (List.mem_append_left _ (List.mem_of_getElem? (i := 34) rfl))))
theorem wt_256 : (.code yA_init prog_2_method_1_code 1 none : Cond) ∈ lw_tbl := (List.mem_append_right _ (List.mem_append_right _ (List.mem_append_left _ (List.mem_of_getElem? (i := 35) rfl))))
theorem wt_257 : (.methodLink "ShortenPrograms$Ask" 3 ⟨"java/lang/Object", "<init>", "()V"⟩ : Cond) ∈ lw_tbl := (List.mem_append_right _ (List.mem_append_right _ (List.mem_append_left _ (List.mem_of_getElem? (i := 36) rfl))))
theorem wt_258 : (.classLink "ShortenPrograms$Ask" 9 "ShortenPrograms$Program" : Cond) ∈ lw_tbl := (List.mem_append_right _ (List.mem_append_right _ (List.mem_append_left _ (List.mem_of_getElem? (i := 37) rfl))))
theorem wt_259 : (.fieldLink "ShortenPrograms$Ask" 12 "ShortenPrograms$Ask" "program" "LShortenPrograms$Program;" : Cond) ∈ lw_tbl := (List.mem_append_right _ (List.mem_append_right _ (List.mem_append_left _ (List.mem_of_getElem? (i := 39) rfl))))
theorem wt_260 : (.fieldLink "ShortenPrograms$Ask" 30 "ShortenPrograms$Ask" "mark" "I" : Cond) ∈ lw_tbl := (List.mem_append_right _ (List.mem_append_right _ (List.mem_append_left _ (List.mem_of_getElem? (i := 40) rfl))))
theorem wt_261 : (.fieldLink "ShortenPrograms$Ask" 18 "ShortenPrograms$Ask" "answer" "I" : Cond) ∈ lw_tbl := (List.mem_append_right _ (List.mem_append_right _ (List.mem_append_left _ (List.mem_of_getElem? (i := 41) rfl))))
theorem wt_262 : (.laysFinal "ShortenPrograms$Ask" "ShortenPrograms$Ask" "program" "LShortenPrograms$Program;" : Cond) ∈ lw_tbl := (List.mem_append_right _ (List.mem_append_right _ (List.mem_append_left _ (List.mem_of_getElem? (i := 42) rfl))))
theorem wt_263 : (.soleField "ShortenPrograms$Ask" "program" : Cond) ∈ lw_tbl := (List.mem_append_right _ (List.mem_append_right _ (List.mem_append_left _ (List.mem_of_getElem? (i := 43) rfl))))
theorem wt_264 : (.lays "ShortenPrograms$Ask" "ShortenPrograms$Ask" "mark" "I" : Cond) ∈ lw_tbl := (List.mem_append_right _ (List.mem_append_right _ (List.mem_append_left _ (List.mem_of_getElem? (i := 44) rfl))))
theorem wt_265 : (.soleField "ShortenPrograms$Ask" "mark" : Cond) ∈ lw_tbl := (List.mem_append_right _ (List.mem_append_right _ (List.mem_append_left _ (List.mem_of_getElem? (i := 45) rfl))))
theorem wt_266 : (.lays "ShortenPrograms$Ask" "ShortenPrograms$Ask" "answer" "I" : Cond) ∈ lw_tbl := (List.mem_append_right _ (List.mem_append_right _ (List.mem_append_left _ (List.mem_of_getElem? (i := 46) rfl))))
theorem wt_267 : (.soleField "ShortenPrograms$Ask" "answer" : Cond) ∈ lw_tbl := (List.mem_append_right _ (List.mem_append_right _ (List.mem_append_left _ (List.mem_of_getElem? (i := 47) rfl))))
theorem wt_268 : (.superclass "ShortenPrograms$Ask" "java/lang/Object" : Cond) ∈ lw_tbl := (List.mem_append_right _ (List.mem_append_right _ (List.mem_append_left _ (List.mem_of_getElem? (i := 48) rfl))))
theorem wt_269 : (.methodLink "ShortenPrograms$Memory" 22 yA_open : Cond) ∈ lw_tbl := (List.mem_append_right _ (List.mem_append_right _ (List.mem_append_left _ (List.mem_of_getElem? (i := 49) rfl))))
theorem wt_270 : (.instanceMethod yA_open : Cond) ∈ lw_tbl := (List.mem_append_right _ (List.mem_append_right _ (List.mem_append_left _ (List.mem_of_getElem? (i := 50) rfl))))
theorem wt_271 : (.selects "ShortenPrograms$Ask" yA_open yA_open : Cond) ∈ lw_tbl := (List.mem_append_right _ (List.mem_append_right _ (List.mem_append_left _ (List.mem_of_getElem? (i := 51) rfl))))
theorem wt_272 : (.code yA_open prog_2_method_5_code 2 none : Cond) ∈ lw_tbl := (List.mem_append_right _ (List.mem_append_right _ (List.mem_append_left _ (List.mem_of_getElem? (i := 52) rfl))))
theorem wt_273 : (.methodLink "ShortenPrograms$Ask" 22 yP_copy : Cond) ∈ lw_tbl := (List.mem_append_right _ (List.mem_append_right _ (List.mem_append_left _ (List.mem_of_getElem? (i := 53) rfl))))
theorem wt_274 : (.instanceMethod yP_copy : Cond) ∈ lw_tbl := (List.mem_append_right _ (List.mem_append_right _ (List.mem_append_left _ (List.mem_of_getElem? (i := 54) rfl))))
theorem wt_275 : (.selects "ShortenPrograms$Program" yP_copy yP_copy : Cond) ∈ lw_tbl := (List.mem_append_right _ (List.mem_append_right _ (List.mem_append_left _ (List.mem_of_getElem? (i := 55) rfl))))
theorem wt_276 : (.code yP_copy prog_4_method_9_code 4 none : Cond) ∈ lw_tbl := (List.mem_append_right _ (List.mem_append_right _ (List.mem_append_left _ (List.mem_of_getElem? (i := 56) rfl))))
theorem wt_277 : (.methodLink "ShortenPrograms$Program" 26 ⟨"java/lang/Math", "min", "(II)I"⟩ : Cond) ∈ lw_tbl := (List.mem_append_right _ (List.mem_append_right _ (List.mem_append_left _ (List.mem_of_getElem? (i := 57) rfl))))
theorem wt_278 : (.static ⟨"java/lang/Math", "min", "(II)I"⟩ : Cond) ∈ lw_tbl := (List.mem_append_right _ (List.mem_append_right _ (List.mem_append_left _ (List.mem_of_getElem? (i := 58) rfl))))
theorem wt_279 : (.code ⟨"java/lang/Math", "min", "(II)I"⟩ prog_12_method_69_code 2 (some .int) : Cond) ∈ lw_tbl := (List.mem_append_right _ (List.mem_append_right _ (List.mem_append_left _ (List.mem_of_getElem? (i := 59) rfl))))
theorem wt_280 : (.methodLink "ShortenPrograms$Ask" 26 yP_mark : Cond) ∈ lw_tbl := (List.mem_append_right _ (List.mem_append_right _ (List.mem_append_left _ (List.mem_of_getElem? (i := 60) rfl))))
theorem wt_281 : (.instanceMethod yP_mark : Cond) ∈ lw_tbl := (List.mem_append_right _ (List.mem_append_right _ (List.mem_append_left _ (List.mem_of_getElem? (i := 61) rfl))))
theorem wt_282 : (.selects "ShortenPrograms$Program" yP_mark yP_mark : Cond) ∈ lw_tbl := (List.mem_append_right _ (List.mem_append_right _ (List.mem_append_left _ (List.mem_of_getElem? (i := 62) rfl))))
theorem wt_283 : (.code yP_mark prog_4_method_15_code 3 (some .int) : Cond) ∈ lw_tbl := (List.mem_append_right _ (List.mem_append_right _ (List.mem_append_left _ (List.mem_of_getElem? (i := 63) rfl))))
theorem wt_284 : (.methodLink "ShortenProgramsLaw" 67 yL_asked : Cond) ∈ lw_tbl := (List.mem_append_right _ (List.mem_append_right _ (List.mem_append_left _ (List.mem_of_getElem? (i := 64) rfl))))
theorem wt_285 : (.static yL_asked : Cond) ∈ lw_tbl := (List.mem_append_right _ (List.mem_append_right _ (List.mem_append_left _ (List.mem_of_getElem? (i := 65) rfl))))
theorem wt_286 : (.codeWith yL_asked method_5_code 4 (some .int) [(0, 9, 12, 18), (0, 9, 15, 23)] : Cond) ∈ lw_tbl := (List.mem_append_right _ (List.mem_append_right _ (List.mem_append_left _ (List.mem_of_getElem? (i := 66) rfl))))
theorem wt_287 : (.classLink "ShortenProgramsLaw" 23 "java/lang/IndexOutOfBoundsException" : Cond) ∈ lw_tbl := (List.mem_append_right _ (List.mem_append_right _ (List.mem_append_left _ (List.mem_of_getElem? (i := 67) rfl))))
theorem wt_288 : (.methodLink "ShortenProgramsLaw" 20 yS_asked : Cond) ∈ lw_tbl := (List.mem_append_right _ (List.mem_append_right _ (List.mem_append_left _ (List.mem_of_getElem? (i := 68) rfl))))
theorem wt_289 : (.instanceMethod yS_asked : Cond) ∈ lw_tbl := (List.mem_append_right _ (List.mem_append_right _ (List.mem_append_left _ (List.mem_of_getElem? (i := 69) rfl))))
theorem wt_290 : (.selects "ShortenPrograms" yS_asked yS_asked : Cond) ∈ lw_tbl := (List.mem_append_right _ (List.mem_append_right _ (List.mem_append_left _ (List.mem_of_getElem? (i := 70) rfl))))
theorem wt_291 : (.code yS_asked prog_1_method_4_code 3 (some .int) : Cond) ∈ lw_tbl := (List.mem_append_right _ (List.mem_append_right _ (List.mem_append_left _ (List.mem_of_getElem? (i := 71) rfl))))
theorem wt_292 : (.methodLink "ShortenPrograms" 82 yS_openAsk : Cond) ∈ lw_tbl := (List.mem_append_right _ (List.mem_append_right _ (List.mem_append_left _ (List.mem_of_getElem? (i := 72) rfl))))
theorem wt_293 : (.instanceMethod yS_openAsk : Cond) ∈ lw_tbl := (List.mem_append_right _ (List.mem_append_right _ (List.mem_append_left _ (List.mem_of_getElem? (i := 74) rfl))))
theorem wt_294 : (.code yS_openAsk prog_1_method_12_code 1 (some (.object "ShortenPrograms$Ask")) : Cond) ∈ lw_tbl := (List.mem_append_right _ (List.mem_append_right _ (List.mem_append_left _ (List.mem_of_getElem? (i := 75) rfl))))
theorem wt_295 : (.methodLink "ShortenPrograms" 176 yM_last : Cond) ∈ lw_tbl := (List.mem_append_right _ (List.mem_append_right _ (List.mem_append_left _ (List.mem_of_getElem? (i := 76) rfl))))
theorem wt_296 : (.instanceMethod yM_last : Cond) ∈ lw_tbl := (List.mem_append_right _ (List.mem_append_right _ (List.mem_append_left _ (List.mem_of_getElem? (i := 77) rfl))))
theorem wt_297 : (.selects "ShortenPrograms$Memory" yM_last yM_last : Cond) ∈ lw_tbl := (List.mem_append_right _ (List.mem_append_right _ (List.mem_append_left _ (List.mem_of_getElem? (i := 78) rfl))))
theorem wt_298 : (.code yM_last prog_3_method_5_code 1 (some (.object "ShortenPrograms$Ask")) : Cond) ∈ lw_tbl := (List.mem_append_right _ (List.mem_append_right _ (List.mem_append_left _ (List.mem_of_getElem? (i := 79) rfl))))
theorem wt_299 : (.methodLink "ShortenPrograms" 88 yA_program : Cond) ∈ lw_tbl := (List.mem_append_right _ (List.mem_append_right _ (List.mem_append_left _ (List.mem_of_getElem? (i := 81) rfl))))
theorem wt_300 : (.instanceMethod yA_program : Cond) ∈ lw_tbl := (List.mem_append_right _ (List.mem_append_right _ (List.mem_append_left _ (List.mem_of_getElem? (i := 82) rfl))))
theorem wt_301 : (.selects "ShortenPrograms$Ask" yA_program yA_program : Cond) ∈ lw_tbl := (List.mem_append_right _ (List.mem_append_right _ (List.mem_append_left _ (List.mem_of_getElem? (i := 83) rfl))))
theorem wt_302 : (.code yA_program prog_2_method_2_code 1 (some (.object "ShortenPrograms$Program")) : Cond) ∈ lw_tbl := (List.mem_append_right _ (List.mem_append_right _ (List.mem_append_left _ (List.mem_of_getElem? (i := 84) rfl))))
theorem wt_303 : (.methodLink "ShortenPrograms" 94 yP_has : Cond) ∈ lw_tbl := (List.mem_append_right _ (List.mem_append_right _ (List.mem_append_left _ (List.mem_of_getElem? (i := 85) rfl))))
theorem wt_304 : (.instanceMethod yP_has : Cond) ∈ lw_tbl := (List.mem_append_right _ (List.mem_append_right _ (List.mem_append_left _ (List.mem_of_getElem? (i := 86) rfl))))
theorem wt_305 : (.selects "ShortenPrograms$Program" yP_has yP_has : Cond) ∈ lw_tbl := (List.mem_append_right _ (List.mem_append_right _ (List.mem_append_left _ (List.mem_of_getElem? (i := 87) rfl))))
theorem wt_306 : (.code yP_has prog_4_method_4_code 2 (some .boolean) : Cond) ∈ lw_tbl := (List.mem_append_right _ (List.mem_append_right _ (List.mem_append_left _ (List.mem_of_getElem? (i := 88) rfl))))
theorem wt_307 : (.classLink "ShortenPrograms" 98 "java/lang/IndexOutOfBoundsException" : Cond) ∈ lw_tbl := (List.mem_append_right _ (List.mem_append_right _ (List.mem_append_left _ (List.mem_of_getElem? (i := 89) rfl))))
theorem wt_308 : (.instantiable "java/lang/IndexOutOfBoundsException" 6 : Cond) ∈ lw_tbl := (List.mem_append_right _ (List.mem_append_right _ (List.mem_append_left _ (List.mem_of_getElem? (i := 90) rfl))))
theorem wt_309 : (.selects "java/lang/IndexOutOfBoundsException" ⟨"java/lang/Throwable", "fillInStackTrace", "(I)Ljava/lang/Throwable;"⟩ ⟨"java/lang/Throwable", "fillInStackTrace", "(I)Ljava/lang/Throwable;"⟩ : Cond) ∈ lw_tbl := (List.mem_append_right _ (List.mem_append_right _ (List.mem_append_left _ (List.mem_of_getElem? (i := 92) rfl))))
theorem wt_310 : (.lays "java/lang/IndexOutOfBoundsException" "java/lang/Throwable" "cause" "Ljava/lang/Throwable;" : Cond) ∈ lw_tbl := (List.mem_append_right _ (List.mem_append_right _ (List.mem_append_left _ (List.mem_of_getElem? (i := 93) rfl))))
theorem wt_311 : (.lays "java/lang/IndexOutOfBoundsException" "java/lang/Throwable" "stackTrace" "[Ljava/lang/StackTraceElement;" : Cond) ∈ lw_tbl := (List.mem_append_right _ (List.mem_append_right _ (List.mem_append_left _ (List.mem_of_getElem? (i := 94) rfl))))
theorem wt_312 : (.lays "java/lang/IndexOutOfBoundsException" "java/lang/Throwable" "suppressedExceptions" "Ljava/util/List;" : Cond) ∈ lw_tbl := (List.mem_append_right _ (List.mem_append_right _ (List.mem_append_left _ (List.mem_of_getElem? (i := 95) rfl))))
theorem wt_313 : (.lays "java/lang/IndexOutOfBoundsException" "java/lang/Throwable" "detailMessage" "Ljava/lang/String;" : Cond) ∈ lw_tbl := (List.mem_append_right _ (List.mem_append_right _ (List.mem_append_left _ (List.mem_of_getElem? (i := 96) rfl))))
theorem wt_314 : (.lays "java/lang/IndexOutOfBoundsException" "java/lang/Throwable" "backtrace" "Ljava/lang/Object;" : Cond) ∈ lw_tbl := (List.mem_append_right _ (List.mem_append_right _ (List.mem_append_left _ (List.mem_of_getElem? (i := 97) rfl))))
theorem wt_315 : (.methodLink "ShortenPrograms" 102 ⟨"java/lang/IndexOutOfBoundsException", "<init>", "(Ljava/lang/String;)V"⟩ : Cond) ∈ lw_tbl := (List.mem_append_right _ (List.mem_append_right _ (List.mem_append_left _ (List.mem_of_getElem? (i := 99) rfl))))
theorem wt_316 : (.instanceMethod ⟨"java/lang/IndexOutOfBoundsException", "<init>", "(Ljava/lang/String;)V"⟩ : Cond) ∈ lw_tbl := (List.mem_append_right _ (List.mem_append_right _ (List.mem_append_left _ (List.mem_of_getElem? (i := 100) rfl))))
theorem wt_317 : (.code ⟨"java/lang/IndexOutOfBoundsException", "<init>", "(Ljava/lang/String;)V"⟩ prog_11_method_2_code 2 none : Cond) ∈ lw_tbl := (List.mem_append_right _ (List.mem_append_right _ (List.mem_append_left _ (List.mem_of_getElem? (i := 101) rfl))))
theorem wt_318 : (.methodLink "java/lang/IndexOutOfBoundsException" 7 ⟨"java/lang/RuntimeException", "<init>", "(Ljava/lang/String;)V"⟩ : Cond) ∈ lw_tbl := (List.mem_append_right _ (List.mem_append_right _ (List.mem_append_left _ (List.mem_of_getElem? (i := 102) rfl))))
theorem wt_319 : (.lays "java/lang/IndexOutOfBoundsException" "java/lang/Throwable" "depth" "I" : Cond) ∈ lw_tbl := (List.mem_append_right _ (List.mem_append_right _ (List.mem_append_left _ (List.mem_of_getElem? (i := 103) rfl))))
theorem wt_320 : (.superclass "java/lang/IndexOutOfBoundsException" "java/lang/RuntimeException" : Cond) ∈ lw_tbl := (List.mem_append_right _ (List.mem_append_right _ (List.mem_append_left _ (List.mem_of_getElem? (i := 104) rfl))))
theorem wt_321 : (.methodLink "ShortenPrograms" 103 yP_word : Cond) ∈ lw_tbl := (List.mem_append_right _ (List.mem_append_right _ (List.mem_append_left _ (List.mem_of_getElem? (i := 105) rfl))))
theorem wt_322 : (.instanceMethod yP_word : Cond) ∈ lw_tbl := (List.mem_append_right _ (List.mem_append_right _ (List.mem_append_left _ (List.mem_of_getElem? (i := 106) rfl))))
theorem wt_323 : (.selects "ShortenPrograms$Program" yP_word yP_word : Cond) ∈ lw_tbl := (List.mem_append_right _ (List.mem_append_right _ (List.mem_append_left _ (List.mem_of_getElem? (i := 107) rfl))))
theorem wt_324 : (.code yP_word prog_4_method_5_code 2 (some .int) : Cond) ∈ lw_tbl := (List.mem_append_right _ (List.mem_append_right _ (List.mem_append_left _ (List.mem_of_getElem? (i := 108) rfl))))
theorem wt_325 : (.methodLink "ShortenPrograms$Program" 22 yP_has : Cond) ∈ lw_tbl := (List.mem_append_right _ (List.mem_append_right _ (List.mem_append_left _ (List.mem_of_getElem? (i := 109) rfl))))
theorem wt_326 : (.methodLink "ShortenProgramsLaw" 70 yL_size : Cond) ∈ lw_tbl := (List.mem_append_right _ (List.mem_append_right _ (List.mem_append_left _ (List.mem_of_getElem? (i := 110) rfl))))
theorem wt_327 : (.static yL_size : Cond) ∈ lw_tbl := (List.mem_append_right _ (List.mem_append_right _ (List.mem_append_left _ (List.mem_of_getElem? (i := 111) rfl))))
theorem wt_328 : (.codeWith yL_size method_6_code 3 (some .int) [(0, 8, 11, 18)] : Cond) ∈ lw_tbl := (List.mem_append_right _ (List.mem_append_right _ (List.mem_append_left _ (List.mem_of_getElem? (i := 112) rfl))))
theorem wt_329 : (.methodLink "ShortenProgramsLaw" 25 yS_size : Cond) ∈ lw_tbl := (List.mem_append_right _ (List.mem_append_right _ (List.mem_append_left _ (List.mem_of_getElem? (i := 113) rfl))))
theorem wt_330 : (.instanceMethod yS_size : Cond) ∈ lw_tbl := (List.mem_append_right _ (List.mem_append_right _ (List.mem_append_left _ (List.mem_of_getElem? (i := 114) rfl))))
theorem wt_331 : (.selects "ShortenPrograms" yS_size yS_size : Cond) ∈ lw_tbl := (List.mem_append_right _ (List.mem_append_right _ (List.mem_append_left _ (List.mem_of_getElem? (i := 115) rfl))))
theorem wt_332 : (.code yS_size prog_1_method_5_code 2 (some .int) : Cond) ∈ lw_tbl := (List.mem_append_right _ (List.mem_append_right _ (List.mem_append_left _ (List.mem_of_getElem? (i := 116) rfl))))
theorem wt_333 : (.methodLink "ShortenProgramsLaw" 74 yL_judge : Cond) ∈ lw_tbl := (List.mem_append_right _ (List.mem_append_right _ (List.mem_append_left _ (List.mem_of_getElem? (i := 117) rfl))))
theorem wt_334 : (.static yL_judge : Cond) ∈ lw_tbl := (List.mem_append_right _ (List.mem_append_right _ (List.mem_append_left _ (List.mem_of_getElem? (i := 118) rfl))))
theorem wt_335 : (.codeWith yL_judge method_7_code 4 (some .int) [(0, 9, 12, 18), (0, 9, 15, 32)] : Cond) ∈ lw_tbl := (List.mem_append_right _ (List.mem_append_right _ (List.mem_append_left _ (List.mem_of_getElem? (i := 119) rfl))))
theorem wt_336 : (.classLink "ShortenProgramsLaw" 32 "java/lang/IllegalArgumentException" : Cond) ∈ lw_tbl := (List.mem_append_right _ (List.mem_append_right _ (List.mem_append_left _ (List.mem_of_getElem? (i := 120) rfl))))
theorem wt_337 : (.methodLink "ShortenProgramsLaw" 29 yS_judge : Cond) ∈ lw_tbl := (List.mem_append_right _ (List.mem_append_right _ (List.mem_append_left _ (List.mem_of_getElem? (i := 121) rfl))))
theorem wt_338 : (.instanceMethod yS_judge : Cond) ∈ lw_tbl := (List.mem_append_right _ (List.mem_append_right _ (List.mem_append_left _ (List.mem_of_getElem? (i := 122) rfl))))
theorem wt_339 : (.selects "ShortenPrograms" yS_judge yS_judge : Cond) ∈ lw_tbl := (List.mem_append_right _ (List.mem_append_right _ (List.mem_append_left _ (List.mem_of_getElem? (i := 123) rfl))))
theorem wt_340 : (.code yS_judge prog_1_method_6_code 3 (some .int) : Cond) ∈ lw_tbl := (List.mem_append_right _ (List.mem_append_right _ (List.mem_append_left _ (List.mem_of_getElem? (i := 124) rfl))))
theorem wt_341 : (.classLink "ShortenPrograms" 107 "java/lang/IllegalArgumentException" : Cond) ∈ lw_tbl := (List.mem_append_right _ (List.mem_append_right _ (List.mem_append_left _ (List.mem_of_getElem? (i := 125) rfl))))
theorem wt_342 : (.instantiable "java/lang/IllegalArgumentException" 6 : Cond) ∈ lw_tbl := (List.mem_append_right _ (List.mem_append_right _ (List.mem_append_left _ (List.mem_of_getElem? (i := 126) rfl))))
theorem wt_343 : (.selects "java/lang/IllegalArgumentException" ⟨"java/lang/Throwable", "fillInStackTrace", "(I)Ljava/lang/Throwable;"⟩ ⟨"java/lang/Throwable", "fillInStackTrace", "(I)Ljava/lang/Throwable;"⟩ : Cond) ∈ lw_tbl := (List.mem_append_right _ (List.mem_append_right _ (List.mem_append_left _ (List.mem_of_getElem? (i := 128) rfl))))
theorem wt_344 : (.lays "java/lang/IllegalArgumentException" "java/lang/Throwable" "cause" "Ljava/lang/Throwable;" : Cond) ∈ lw_tbl := (List.mem_append_right _ (List.mem_append_right _ (List.mem_append_left _ (List.mem_of_getElem? (i := 129) rfl))))
theorem wt_345 : (.lays "java/lang/IllegalArgumentException" "java/lang/Throwable" "stackTrace" "[Ljava/lang/StackTraceElement;" : Cond) ∈ lw_tbl := (List.mem_append_right _ (List.mem_append_right _ (List.mem_append_left _ (List.mem_of_getElem? (i := 130) rfl))))
theorem wt_346 : (.lays "java/lang/IllegalArgumentException" "java/lang/Throwable" "suppressedExceptions" "Ljava/util/List;" : Cond) ∈ lw_tbl := (List.mem_append_right _ (List.mem_append_right _ (List.mem_append_left _ (List.mem_of_getElem? (i := 131) rfl))))
theorem wt_347 : (.lays "java/lang/IllegalArgumentException" "java/lang/Throwable" "detailMessage" "Ljava/lang/String;" : Cond) ∈ lw_tbl := (List.mem_append_right _ (List.mem_append_right _ (List.mem_append_left _ (List.mem_of_getElem? (i := 132) rfl))))
theorem wt_348 : (.lays "java/lang/IllegalArgumentException" "java/lang/Throwable" "backtrace" "Ljava/lang/Object;" : Cond) ∈ lw_tbl := (List.mem_append_right _ (List.mem_append_right _ (List.mem_append_left _ (List.mem_of_getElem? (i := 133) rfl))))
theorem wt_349 : (.methodLink "ShortenPrograms" 111 ⟨"java/lang/IllegalArgumentException", "<init>", "(Ljava/lang/String;)V"⟩ : Cond) ∈ lw_tbl := (List.mem_append_right _ (List.mem_append_right _ (List.mem_append_left _ (List.mem_of_getElem? (i := 135) rfl))))
theorem wt_350 : (.instanceMethod ⟨"java/lang/IllegalArgumentException", "<init>", "(Ljava/lang/String;)V"⟩ : Cond) ∈ lw_tbl := (List.mem_append_right _ (List.mem_append_right _ (List.mem_append_left _ (List.mem_of_getElem? (i := 136) rfl))))
theorem wt_351 : (.code ⟨"java/lang/IllegalArgumentException", "<init>", "(Ljava/lang/String;)V"⟩ prog_9_method_2_code 2 none : Cond) ∈ lw_tbl := (List.mem_append_right _ (List.mem_append_right _ (List.mem_append_left _ (List.mem_of_getElem? (i := 137) rfl))))
theorem wt_352 : (.methodLink "java/lang/IllegalArgumentException" 7 ⟨"java/lang/RuntimeException", "<init>", "(Ljava/lang/String;)V"⟩ : Cond) ∈ lw_tbl := (List.mem_append_right _ (List.mem_append_right _ (List.mem_append_left _ (List.mem_of_getElem? (i := 138) rfl))))
theorem wt_353 : (.lays "java/lang/IllegalArgumentException" "java/lang/Throwable" "depth" "I" : Cond) ∈ lw_tbl := (List.mem_append_right _ (List.mem_append_right _ (List.mem_append_left _ (List.mem_of_getElem? (i := 139) rfl))))
theorem wt_354 : (.superclass "java/lang/IllegalArgumentException" "java/lang/RuntimeException" : Cond) ∈ lw_tbl := (List.mem_append_right _ (List.mem_append_right _ (List.mem_append_left _ (List.mem_of_getElem? (i := 140) rfl))))
theorem wt_355 : (.methodLink "ShortenPrograms" 112 yA_setAnswer : Cond) ∈ lw_tbl := (List.mem_append_right _ (List.mem_append_right _ (List.mem_append_left _ (List.mem_of_getElem? (i := 141) rfl))))
theorem wt_356 : (.instanceMethod yA_setAnswer : Cond) ∈ lw_tbl := (List.mem_append_right _ (List.mem_append_right _ (List.mem_append_left _ (List.mem_of_getElem? (i := 142) rfl))))
theorem wt_357 : (.selects "ShortenPrograms$Ask" yA_setAnswer yA_setAnswer : Cond) ∈ lw_tbl := (List.mem_append_right _ (List.mem_append_right _ (List.mem_append_left _ (List.mem_of_getElem? (i := 143) rfl))))
theorem wt_358 : (.code yA_setAnswer prog_2_method_4_code 2 none : Cond) ∈ lw_tbl := (List.mem_append_right _ (List.mem_append_right _ (List.mem_append_left _ (List.mem_of_getElem? (i := 144) rfl))))
theorem wt_359 : (.methodLink "ShortenPrograms" 115 yS_takeFirst : Cond) ∈ lw_tbl := (List.mem_append_right _ (List.mem_append_right _ (List.mem_append_left _ (List.mem_of_getElem? (i := 145) rfl))))
theorem wt_360 : (.instanceMethod yS_takeFirst : Cond) ∈ lw_tbl := (List.mem_append_right _ (List.mem_append_right _ (List.mem_append_left _ (List.mem_of_getElem? (i := 147) rfl))))
theorem wt_361 : (.code yS_takeFirst prog_1_method_13_code 2 none : Cond) ∈ lw_tbl := (List.mem_append_right _ (List.mem_append_right _ (List.mem_append_left _ (List.mem_of_getElem? (i := 148) rfl))))
theorem wt_362 : (.methodLink "ShortenPrograms" 179 ⟨"java/lang/Math", "max", "(II)I"⟩ : Cond) ∈ lw_tbl := (List.mem_append_right _ (List.mem_append_right _ (List.mem_append_left _ (List.mem_of_getElem? (i := 149) rfl))))
theorem wt_363 : (.static ⟨"java/lang/Math", "max", "(II)I"⟩ : Cond) ∈ lw_tbl := (List.mem_append_right _ (List.mem_append_right _ (List.mem_append_left _ (List.mem_of_getElem? (i := 150) rfl))))
theorem wt_364 : (.code ⟨"java/lang/Math", "max", "(II)I"⟩ prog_12_method_65_code 2 (some .int) : Cond) ∈ lw_tbl := (List.mem_append_right _ (List.mem_append_right _ (List.mem_append_left _ (List.mem_of_getElem? (i := 151) rfl))))
theorem wt_365 : (.methodLink "ShortenPrograms" 183 yW_startLeaving : Cond) ∈ lw_tbl := (List.mem_append_right _ (List.mem_append_right _ (List.mem_append_left _ (List.mem_of_getElem? (i := 152) rfl))))
theorem wt_366 : (.instanceMethod yW_startLeaving : Cond) ∈ lw_tbl := (List.mem_append_right _ (List.mem_append_right _ (List.mem_append_left _ (List.mem_of_getElem? (i := 153) rfl))))
theorem wt_367 : (.selects "ShortenPrograms$Walk" yW_startLeaving yW_startLeaving : Cond) ∈ lw_tbl := (List.mem_append_right _ (List.mem_append_right _ (List.mem_append_left _ (List.mem_of_getElem? (i := 154) rfl))))
theorem wt_368 : (.code yW_startLeaving prog_5_method_5_code 2 none : Cond) ∈ lw_tbl := (List.mem_append_right _ (List.mem_append_right _ (List.mem_append_left _ (List.mem_of_getElem? (i := 155) rfl))))
theorem wt_369 : (.methodLink "ShortenPrograms$Walk" 18 yW_startGoingThrough : Cond) ∈ lw_tbl := (List.mem_append_right _ (List.mem_append_right _ (List.mem_append_left _ (List.mem_of_getElem? (i := 156) rfl))))
theorem wt_370 : (.instanceMethod yW_startGoingThrough : Cond) ∈ lw_tbl := (List.mem_append_right _ (List.mem_append_right _ (List.mem_append_left _ (List.mem_of_getElem? (i := 158) rfl))))
theorem wt_371 : (.code yW_startGoingThrough prog_5_method_6_code 2 none : Cond) ∈ lw_tbl := (List.mem_append_right _ (List.mem_append_right _ (List.mem_append_left _ (List.mem_of_getElem? (i := 159) rfl))))
theorem wt_372 : (.methodLink "ShortenPrograms" 118 yS_take : Cond) ∈ lw_tbl := (List.mem_append_right _ (List.mem_append_right _ (List.mem_append_left _ (List.mem_of_getElem? (i := 160) rfl))))
theorem wt_373 : (.instanceMethod yS_take : Cond) ∈ lw_tbl := (List.mem_append_right _ (List.mem_append_right _ (List.mem_append_left _ (List.mem_of_getElem? (i := 162) rfl))))
theorem wt_374 : (.code yS_take prog_1_method_14_code 3 none : Cond) ∈ lw_tbl := (List.mem_append_right _ (List.mem_append_right _ (List.mem_append_left _ (List.mem_of_getElem? (i := 163) rfl))))
theorem wt_375 : (.methodLink "ShortenPrograms" 186 yW_passOver : Cond) ∈ lw_tbl := (List.mem_append_right _ (List.mem_append_right _ (List.mem_append_left _ (List.mem_of_getElem? (i := 164) rfl))))
theorem wt_376 : (.instanceMethod yW_passOver : Cond) ∈ lw_tbl := (List.mem_append_right _ (List.mem_append_right _ (List.mem_append_left _ (List.mem_of_getElem? (i := 165) rfl))))
theorem wt_377 : (.selects "ShortenPrograms$Walk" yW_passOver yW_passOver : Cond) ∈ lw_tbl := (List.mem_append_right _ (List.mem_append_right _ (List.mem_append_left _ (List.mem_of_getElem? (i := 166) rfl))))
theorem wt_378 : (.code yW_passOver prog_5_method_14_code 1 none : Cond) ∈ lw_tbl := (List.mem_append_right _ (List.mem_append_right _ (List.mem_append_left _ (List.mem_of_getElem? (i := 167) rfl))))
theorem wt_379 : (.methodLink "ShortenPrograms$Walk" 79 yW_nextByte : Cond) ∈ lw_tbl := (List.mem_append_right _ (List.mem_append_right _ (List.mem_append_left _ (List.mem_of_getElem? (i := 168) rfl))))
theorem wt_380 : (.instanceMethod yW_nextByte : Cond) ∈ lw_tbl := (List.mem_append_right _ (List.mem_append_right _ (List.mem_append_left _ (List.mem_of_getElem? (i := 170) rfl))))
theorem wt_381 : (.code yW_nextByte prog_5_method_15_code 1 none : Cond) ∈ lw_tbl := (List.mem_append_right _ (List.mem_append_right _ (List.mem_append_left _ (List.mem_of_getElem? (i := 171) rfl))))
theorem wt_382 : (.methodLink "ShortenPrograms" 189 yW_change : Cond) ∈ lw_tbl := (List.mem_append_right _ (List.mem_append_right _ (List.mem_append_left _ (List.mem_of_getElem? (i := 172) rfl))))
theorem wt_383 : (.instanceMethod yW_change : Cond) ∈ lw_tbl := (List.mem_append_right _ (List.mem_append_right _ (List.mem_append_left _ (List.mem_of_getElem? (i := 173) rfl))))
theorem wt_384 : (.selects "ShortenPrograms$Walk" yW_change yW_change : Cond) ∈ lw_tbl := (List.mem_append_right _ (List.mem_append_right _ (List.mem_append_left _ (List.mem_of_getElem? (i := 174) rfl))))
theorem wt_385 : (.code yW_change prog_5_method_12_code 3 none : Cond) ∈ lw_tbl := (List.mem_append_right _ (List.mem_append_right _ (List.mem_append_left _ (List.mem_of_getElem? (i := 175) rfl))))
theorem wt_386 : (.methodLink "ShortenPrograms$Walk" 71 yP_leaveOut : Cond) ∈ lw_tbl := (List.mem_append_right _ (List.mem_append_right _ (List.mem_append_left _ (List.mem_of_getElem? (i := 176) rfl))))
theorem wt_387 : (.instanceMethod yP_leaveOut : Cond) ∈ lw_tbl := (List.mem_append_right _ (List.mem_append_right _ (List.mem_append_left _ (List.mem_of_getElem? (i := 177) rfl))))
theorem wt_388 : (.selects "ShortenPrograms$Program" yP_leaveOut yP_leaveOut : Cond) ∈ lw_tbl := (List.mem_append_right _ (List.mem_append_right _ (List.mem_append_left _ (List.mem_of_getElem? (i := 178) rfl))))
theorem wt_389 : (.code yP_leaveOut prog_4_method_10_code 5 none : Cond) ∈ lw_tbl := (List.mem_append_right _ (List.mem_append_right _ (List.mem_append_left _ (List.mem_of_getElem? (i := 179) rfl))))
theorem wt_390 : (.methodLink "ShortenPrograms$Walk" 51 yP_byteOf : Cond) ∈ lw_tbl := (List.mem_append_right _ (List.mem_append_right _ (List.mem_append_left _ (List.mem_of_getElem? (i := 180) rfl))))
theorem wt_391 : (.instanceMethod yP_byteOf : Cond) ∈ lw_tbl := (List.mem_append_right _ (List.mem_append_right _ (List.mem_append_left _ (List.mem_of_getElem? (i := 181) rfl))))
theorem wt_392 : (.selects "ShortenPrograms$Program" yP_byteOf yP_byteOf : Cond) ∈ lw_tbl := (List.mem_append_right _ (List.mem_append_right _ (List.mem_append_left _ (List.mem_of_getElem? (i := 182) rfl))))
theorem wt_393 : (.code yP_byteOf prog_4_method_11_code 3 (some .int) : Cond) ∈ lw_tbl := (List.mem_append_right _ (List.mem_append_right _ (List.mem_append_left _ (List.mem_of_getElem? (i := 183) rfl))))
theorem wt_394 : (.methodLink "ShortenPrograms$Program" 32 yP_word : Cond) ∈ lw_tbl := (List.mem_append_right _ (List.mem_append_right _ (List.mem_append_left _ (List.mem_of_getElem? (i := 184) rfl))))
theorem wt_395 : (.methodLink "ShortenPrograms$Program" 36 yP_shift : Cond) ∈ lw_tbl := (List.mem_append_right _ (List.mem_append_right _ (List.mem_append_left _ (List.mem_of_getElem? (i := 185) rfl))))
theorem wt_396 : (.static yP_shift : Cond) ∈ lw_tbl := (List.mem_append_right _ (List.mem_append_right _ (List.mem_append_left _ (List.mem_of_getElem? (i := 186) rfl))))
theorem wt_397 : (.code yP_shift prog_4_method_13_code 1 (some .int) : Cond) ∈ lw_tbl := (List.mem_append_right _ (List.mem_append_right _ (List.mem_append_left _ (List.mem_of_getElem? (i := 187) rfl))))
theorem wt_398 : (.methodLink "ShortenPrograms$Walk" 67 yW_lowerValue : Cond) ∈ lw_tbl := (List.mem_append_right _ (List.mem_append_right _ (List.mem_append_left _ (List.mem_of_getElem? (i := 188) rfl))))
theorem wt_399 : (.instanceMethod yW_lowerValue : Cond) ∈ lw_tbl := (List.mem_append_right _ (List.mem_append_right _ (List.mem_append_left _ (List.mem_of_getElem? (i := 190) rfl))))
theorem wt_400 : (.code yW_lowerValue prog_5_method_11_code 2 (some .int) : Cond) ∈ lw_tbl := (List.mem_append_right _ (List.mem_append_right _ (List.mem_append_left _ (List.mem_of_getElem? (i := 191) rfl))))
theorem wt_401 : (.methodLink "ShortenPrograms$Walk" 75 yP_setByte : Cond) ∈ lw_tbl := (List.mem_append_right _ (List.mem_append_right _ (List.mem_append_left _ (List.mem_of_getElem? (i := 192) rfl))))
theorem wt_402 : (.instanceMethod yP_setByte : Cond) ∈ lw_tbl := (List.mem_append_right _ (List.mem_append_right _ (List.mem_append_left _ (List.mem_of_getElem? (i := 193) rfl))))
theorem wt_403 : (.selects "ShortenPrograms$Program" yP_setByte yP_setByte : Cond) ∈ lw_tbl := (List.mem_append_right _ (List.mem_append_right _ (List.mem_append_left _ (List.mem_of_getElem? (i := 194) rfl))))
theorem wt_404 : (.code yP_setByte prog_4_method_12_code 5 none : Cond) ∈ lw_tbl := (List.mem_append_right _ (List.mem_append_right _ (List.mem_append_left _ (List.mem_of_getElem? (i := 195) rfl))))
theorem wt_405 : (.methodLink "ShortenPrograms" 192 yW_isLowering : Cond) ∈ lw_tbl := (List.mem_append_right _ (List.mem_append_right _ (List.mem_append_left _ (List.mem_of_getElem? (i := 196) rfl))))
theorem wt_406 : (.instanceMethod yW_isLowering : Cond) ∈ lw_tbl := (List.mem_append_right _ (List.mem_append_right _ (List.mem_append_left _ (List.mem_of_getElem? (i := 197) rfl))))
theorem wt_407 : (.selects "ShortenPrograms$Walk" yW_isLowering yW_isLowering : Cond) ∈ lw_tbl := (List.mem_append_right _ (List.mem_append_right _ (List.mem_append_left _ (List.mem_of_getElem? (i := 198) rfl))))
theorem wt_408 : (.code yW_isLowering prog_5_method_3_code 1 (some .boolean) : Cond) ∈ lw_tbl := (List.mem_append_right _ (List.mem_append_right _ (List.mem_append_left _ (List.mem_of_getElem? (i := 199) rfl))))
theorem wt_409 : (.methodLink "ShortenPrograms" 195 yW_goOn : Cond) ∈ lw_tbl := (List.mem_append_right _ (List.mem_append_right _ (List.mem_append_left _ (List.mem_of_getElem? (i := 200) rfl))))
theorem wt_410 : (.instanceMethod yW_goOn : Cond) ∈ lw_tbl := (List.mem_append_right _ (List.mem_append_right _ (List.mem_append_left _ (List.mem_of_getElem? (i := 201) rfl))))
theorem wt_411 : (.selects "ShortenPrograms$Walk" yW_goOn yW_goOn : Cond) ∈ lw_tbl := (List.mem_append_right _ (List.mem_append_right _ (List.mem_append_left _ (List.mem_of_getElem? (i := 202) rfl))))
theorem wt_412 : (.code yW_goOn prog_5_method_13_code 1 none : Cond) ∈ lw_tbl := (List.mem_append_right _ (List.mem_append_right _ (List.mem_append_left _ (List.mem_of_getElem? (i := 203) rfl))))
theorem wt_413 : (.methodLink "ShortenPrograms" 121 yS_askNext : Cond) ∈ lw_tbl := (List.mem_append_right _ (List.mem_append_right _ (List.mem_append_left _ (List.mem_of_getElem? (i := 204) rfl))))
theorem wt_414 : (.instanceMethod yS_askNext : Cond) ∈ lw_tbl := (List.mem_append_right _ (List.mem_append_right _ (List.mem_append_left _ (List.mem_of_getElem? (i := 206) rfl))))
theorem wt_415 : (.code yS_askNext prog_1_method_15_code 3 none : Cond) ∈ lw_tbl := (List.mem_append_right _ (List.mem_append_right _ (List.mem_append_left _ (List.mem_of_getElem? (i := 207) rfl))))
theorem wt_416 : (.constant "ShortenPrograms" 198 (1000000) : Cond) ∈ lw_tbl := (List.mem_append_right _ (List.mem_append_right _ (List.mem_append_left _ (List.mem_of_getElem? (i := 208) rfl))))
theorem wt_417 : (.methodLink "ShortenPrograms" 199 yW_findChange : Cond) ∈ lw_tbl := (List.mem_append_right _ (List.mem_append_right _ (List.mem_append_left _ (List.mem_of_getElem? (i := 209) rfl))))
theorem wt_418 : (.instanceMethod yW_findChange : Cond) ∈ lw_tbl := (List.mem_append_right _ (List.mem_append_right _ (List.mem_append_left _ (List.mem_of_getElem? (i := 210) rfl))))
theorem wt_419 : (.selects "ShortenPrograms$Walk" yW_findChange yW_findChange : Cond) ∈ lw_tbl := (List.mem_append_right _ (List.mem_append_right _ (List.mem_append_left _ (List.mem_of_getElem? (i := 211) rfl))))
theorem wt_420 : (.code yW_findChange prog_5_method_8_code 3 (some .boolean) : Cond) ∈ lw_tbl := (List.mem_append_right _ (List.mem_append_right _ (List.mem_append_left _ (List.mem_of_getElem? (i := 212) rfl))))
theorem wt_421 : (.constant "ShortenPrograms$Walk" 41 (1000000) : Cond) ∈ lw_tbl := (List.mem_append_right _ (List.mem_append_right _ (List.mem_append_left _ (List.mem_of_getElem? (i := 213) rfl))))
theorem wt_422 : (.methodLink "ShortenPrograms$Walk" 42 yP_has : Cond) ∈ lw_tbl := (List.mem_append_right _ (List.mem_append_right _ (List.mem_append_left _ (List.mem_of_getElem? (i := 214) rfl))))
theorem wt_423 : (.methodLink "ShortenPrograms$Walk" 48 yW_endGoingThrough : Cond) ∈ lw_tbl := (List.mem_append_right _ (List.mem_append_right _ (List.mem_append_left _ (List.mem_of_getElem? (i := 215) rfl))))
theorem wt_424 : (.instanceMethod yW_endGoingThrough : Cond) ∈ lw_tbl := (List.mem_append_right _ (List.mem_append_right _ (List.mem_append_left _ (List.mem_of_getElem? (i := 217) rfl))))
theorem wt_425 : (.code yW_endGoingThrough prog_5_method_9_code 1 none : Cond) ∈ lw_tbl := (List.mem_append_right _ (List.mem_append_right _ (List.mem_append_left _ (List.mem_of_getElem? (i := 218) rfl))))
theorem wt_426 : (.methodLink "ShortenPrograms$Walk" 64 yW_startLowering : Cond) ∈ lw_tbl := (List.mem_append_right _ (List.mem_append_right _ (List.mem_append_left _ (List.mem_of_getElem? (i := 219) rfl))))
theorem wt_427 : (.instanceMethod yW_startLowering : Cond) ∈ lw_tbl := (List.mem_append_right _ (List.mem_append_right _ (List.mem_append_left _ (List.mem_of_getElem? (i := 221) rfl))))
theorem wt_428 : (.code yW_startLowering prog_5_method_7_code 1 none : Cond) ∈ lw_tbl := (List.mem_append_right _ (List.mem_append_right _ (List.mem_append_left _ (List.mem_of_getElem? (i := 222) rfl))))
theorem wt_429 : (.methodLink "ShortenPrograms$Walk" 55 yW_canLower : Cond) ∈ lw_tbl := (List.mem_append_right _ (List.mem_append_right _ (List.mem_append_left _ (List.mem_of_getElem? (i := 223) rfl))))
theorem wt_430 : (.instanceMethod yW_canLower : Cond) ∈ lw_tbl := (List.mem_append_right _ (List.mem_append_right _ (List.mem_append_left _ (List.mem_of_getElem? (i := 225) rfl))))
theorem wt_431 : (.code yW_canLower prog_5_method_10_code 2 (some .boolean) : Cond) ∈ lw_tbl := (List.mem_append_right _ (List.mem_append_right _ (List.mem_append_left _ (List.mem_of_getElem? (i := 226) rfl))))
theorem wt_432 : (.methodLink "ShortenPrograms$Walk" 58 yW_passOver : Cond) ∈ lw_tbl := (List.mem_append_right _ (List.mem_append_right _ (List.mem_append_left _ (List.mem_of_getElem? (i := 227) rfl))))
theorem wt_433 : (.methodLink "ShortenPrograms$Walk" 61 yW_startLeaving : Cond) ∈ lw_tbl := (List.mem_append_right _ (List.mem_append_right _ (List.mem_append_left _ (List.mem_of_getElem? (i := 228) rfl))))
theorem wt_434 : (.methodLink "ShortenPrograms" 135 yP_copy : Cond) ∈ lw_tbl := (List.mem_append_right _ (List.mem_append_right _ (List.mem_append_left _ (List.mem_of_getElem? (i := 229) rfl))))
theorem wt_435 : (.methodLink "ShortenPrograms" 146 yM_find : Cond) ∈ lw_tbl := (List.mem_append_right _ (List.mem_append_right _ (List.mem_append_left _ (List.mem_of_getElem? (i := 230) rfl))))
theorem wt_436 : (.instanceMethod yM_find : Cond) ∈ lw_tbl := (List.mem_append_right _ (List.mem_append_right _ (List.mem_append_left _ (List.mem_of_getElem? (i := 231) rfl))))
theorem wt_437 : (.selects "ShortenPrograms$Memory" yM_find yM_find : Cond) ∈ lw_tbl := (List.mem_append_right _ (List.mem_append_right _ (List.mem_append_left _ (List.mem_of_getElem? (i := 232) rfl))))
theorem wt_438 : (.code yM_find prog_3_method_6_code 5 (some (.object "ShortenPrograms$Ask")) : Cond) ∈ lw_tbl := (List.mem_append_right _ (List.mem_append_right _ (List.mem_append_left _ (List.mem_of_getElem? (i := 233) rfl))))
theorem wt_439 : (.methodLink "ShortenPrograms$Memory" 26 yP_mark : Cond) ∈ lw_tbl := (List.mem_append_right _ (List.mem_append_right _ (List.mem_append_left _ (List.mem_of_getElem? (i := 234) rfl))))
theorem wt_440 : (.methodLink "ShortenPrograms$Memory" 32 yA_isOf : Cond) ∈ lw_tbl := (List.mem_append_right _ (List.mem_append_right _ (List.mem_append_left _ (List.mem_of_getElem? (i := 235) rfl))))
theorem wt_441 : (.instanceMethod yA_isOf : Cond) ∈ lw_tbl := (List.mem_append_right _ (List.mem_append_right _ (List.mem_append_left _ (List.mem_of_getElem? (i := 236) rfl))))
theorem wt_442 : (.selects "ShortenPrograms$Ask" yA_isOf yA_isOf : Cond) ∈ lw_tbl := (List.mem_append_right _ (List.mem_append_right _ (List.mem_append_left _ (List.mem_of_getElem? (i := 237) rfl))))
theorem wt_443 : (.code yA_isOf prog_2_method_6_code 3 (some .boolean) : Cond) ∈ lw_tbl := (List.mem_append_right _ (List.mem_append_right _ (List.mem_append_left _ (List.mem_of_getElem? (i := 238) rfl))))
theorem wt_444 : (.methodLink "ShortenPrograms$Ask" 32 yP_hasSameWords : Cond) ∈ lw_tbl := (List.mem_append_right _ (List.mem_append_right _ (List.mem_append_left _ (List.mem_of_getElem? (i := 239) rfl))))
theorem wt_445 : (.instanceMethod yP_hasSameWords : Cond) ∈ lw_tbl := (List.mem_append_right _ (List.mem_append_right _ (List.mem_append_right _ (List.mem_append_left _ (List.mem_of_getElem? (i := 0) rfl)))))
theorem wt_446 : (.selects "ShortenPrograms$Program" yP_hasSameWords yP_hasSameWords : Cond) ∈ lw_tbl := (List.mem_append_right _ (List.mem_append_right _ (List.mem_append_right _ (List.mem_append_left _ (List.mem_of_getElem? (i := 1) rfl)))))
theorem wt_447 : (.code yP_hasSameWords prog_4_method_14_code 3 (some .boolean) : Cond) ∈ lw_tbl := (List.mem_append_right _ (List.mem_append_right _ (List.mem_append_right _ (List.mem_append_left _ (List.mem_of_getElem? (i := 2) rfl)))))
theorem wt_448 : (.methodLink "ShortenPrograms" 203 yS_ask : Cond) ∈ lw_tbl := (List.mem_append_right _ (List.mem_append_right _ (List.mem_append_right _ (List.mem_append_left _ (List.mem_of_getElem? (i := 3) rfl)))))
theorem wt_449 : (.instanceMethod yS_ask : Cond) ∈ lw_tbl := (List.mem_append_right _ (List.mem_append_right _ (List.mem_append_right _ (List.mem_append_left _ (List.mem_of_getElem? (i := 5) rfl)))))
theorem wt_450 : (.code yS_ask prog_1_method_16_code 1 none : Cond) ∈ lw_tbl := (List.mem_append_right _ (List.mem_append_right _ (List.mem_append_right _ (List.mem_append_left _ (List.mem_of_getElem? (i := 6) rfl)))))
theorem wt_451 : (.methodLink "ShortenPrograms" 150 yA_answer : Cond) ∈ lw_tbl := (List.mem_append_right _ (List.mem_append_right _ (List.mem_append_right _ (List.mem_append_left _ (List.mem_of_getElem? (i := 7) rfl)))))
theorem wt_452 : (.instanceMethod yA_answer : Cond) ∈ lw_tbl := (List.mem_append_right _ (List.mem_append_right _ (List.mem_append_right _ (List.mem_append_left _ (List.mem_of_getElem? (i := 8) rfl)))))
theorem wt_453 : (.selects "ShortenPrograms$Ask" yA_answer yA_answer : Cond) ∈ lw_tbl := (List.mem_append_right _ (List.mem_append_right _ (List.mem_append_right _ (List.mem_append_left _ (List.mem_of_getElem? (i := 9) rfl)))))
theorem wt_454 : (.code yA_answer prog_2_method_3_code 1 (some .int) : Cond) ∈ lw_tbl := (List.mem_append_right _ (List.mem_append_right _ (List.mem_append_right _ (List.mem_append_left _ (List.mem_of_getElem? (i := 10) rfl)))))
theorem wt_455 : (.methodLink "ShortenProgramsLaw" 77 yL_at : Cond) ∈ lw_tbl := (List.mem_append_right _ (List.mem_append_right _ (List.mem_append_right _ (List.mem_append_left _ (List.mem_of_getElem? (i := 11) rfl)))))
theorem wt_456 : (.static yL_at : Cond) ∈ lw_tbl := (List.mem_append_right _ (List.mem_append_right _ (List.mem_append_right _ (List.mem_append_left _ (List.mem_of_getElem? (i := 12) rfl)))))
theorem wt_457 : (.codeWith yL_at method_8_code 4 (some .int) [(0, 9, 12, 23)] : Cond) ∈ lw_tbl := (List.mem_append_right _ (List.mem_append_right _ (List.mem_append_right _ (List.mem_append_left _ (List.mem_of_getElem? (i := 13) rfl)))))
theorem wt_458 : (.methodLink "ShortenProgramsLaw" 34 yS_at : Cond) ∈ lw_tbl := (List.mem_append_right _ (List.mem_append_right _ (List.mem_append_right _ (List.mem_append_left _ (List.mem_of_getElem? (i := 14) rfl)))))
theorem wt_459 : (.instanceMethod yS_at : Cond) ∈ lw_tbl := (List.mem_append_right _ (List.mem_append_right _ (List.mem_append_right _ (List.mem_append_left _ (List.mem_of_getElem? (i := 15) rfl)))))
theorem wt_460 : (.selects "ShortenPrograms" yS_at yS_at : Cond) ∈ lw_tbl := (List.mem_append_right _ (List.mem_append_right _ (List.mem_append_right _ (List.mem_append_left _ (List.mem_of_getElem? (i := 16) rfl)))))
theorem wt_461 : (.code yS_at prog_1_method_7_code 2 (some .int) : Cond) ∈ lw_tbl := (List.mem_append_right _ (List.mem_append_right _ (List.mem_append_right _ (List.mem_append_left _ (List.mem_of_getElem? (i := 17) rfl)))))
theorem wt_462 : (.methodLink "ShortenProgramsLaw" 80 yL_from : Cond) ∈ lw_tbl := (List.mem_append_right _ (List.mem_append_right _ (List.mem_append_right _ (List.mem_append_left _ (List.mem_of_getElem? (i := 19) rfl)))))
theorem wt_463 : (.static yL_from : Cond) ∈ lw_tbl := (List.mem_append_right _ (List.mem_append_right _ (List.mem_append_right _ (List.mem_append_left _ (List.mem_of_getElem? (i := 20) rfl)))))
theorem wt_464 : (.codeWith yL_from method_9_code 4 (some .int) [(0, 9, 12, 23)] : Cond) ∈ lw_tbl := (List.mem_append_right _ (List.mem_append_right _ (List.mem_append_right _ (List.mem_append_left _ (List.mem_of_getElem? (i := 21) rfl)))))
theorem wt_465 : (.methodLink "ShortenProgramsLaw" 37 yS_from : Cond) ∈ lw_tbl := (List.mem_append_right _ (List.mem_append_right _ (List.mem_append_right _ (List.mem_append_left _ (List.mem_of_getElem? (i := 22) rfl)))))
theorem wt_466 : (.instanceMethod yS_from : Cond) ∈ lw_tbl := (List.mem_append_right _ (List.mem_append_right _ (List.mem_append_right _ (List.mem_append_left _ (List.mem_of_getElem? (i := 23) rfl)))))
theorem wt_467 : (.selects "ShortenPrograms" yS_from yS_from : Cond) ∈ lw_tbl := (List.mem_append_right _ (List.mem_append_right _ (List.mem_append_right _ (List.mem_append_left _ (List.mem_of_getElem? (i := 24) rfl)))))
theorem wt_468 : (.code yS_from prog_1_method_8_code 2 (some .int) : Cond) ∈ lw_tbl := (List.mem_append_right _ (List.mem_append_right _ (List.mem_append_right _ (List.mem_append_left _ (List.mem_of_getElem? (i := 25) rfl)))))
theorem wt_469 : (.methodLink "ShortenPrograms" 126 yP_origin : Cond) ∈ lw_tbl := (List.mem_append_right _ (List.mem_append_right _ (List.mem_append_right _ (List.mem_append_left _ (List.mem_of_getElem? (i := 26) rfl)))))
theorem wt_470 : (.instanceMethod yP_origin : Cond) ∈ lw_tbl := (List.mem_append_right _ (List.mem_append_right _ (List.mem_append_right _ (List.mem_append_left _ (List.mem_of_getElem? (i := 27) rfl)))))
theorem wt_471 : (.selects "ShortenPrograms$Program" yP_origin yP_origin : Cond) ∈ lw_tbl := (List.mem_append_right _ (List.mem_append_right _ (List.mem_append_right _ (List.mem_append_left _ (List.mem_of_getElem? (i := 28) rfl)))))
theorem wt_472 : (.code yP_origin prog_4_method_6_code 2 (some .int) : Cond) ∈ lw_tbl := (List.mem_append_right _ (List.mem_append_right _ (List.mem_append_right _ (List.mem_append_left _ (List.mem_of_getElem? (i := 29) rfl)))))
theorem wt_473 : (.methodLink "ShortenProgramsLaw" 83 yL_known : Cond) ∈ lw_tbl := (List.mem_append_right _ (List.mem_append_right _ (List.mem_append_right _ (List.mem_append_left _ (List.mem_of_getElem? (i := 30) rfl)))))
theorem wt_474 : (.static yL_known : Cond) ∈ lw_tbl := (List.mem_append_right _ (List.mem_append_right _ (List.mem_append_right _ (List.mem_append_left _ (List.mem_of_getElem? (i := 31) rfl)))))
theorem wt_475 : (.codeWith yL_known method_10_code 7 (some .int) [(0, 14, 17, 23), (0, 14, 21, 32)] : Cond) ∈ lw_tbl := (List.mem_append_right _ (List.mem_append_right _ (List.mem_append_right _ (List.mem_append_left _ (List.mem_of_getElem? (i := 32) rfl)))))
theorem wt_476 : (.methodLink "ShortenProgramsLaw" 40 yS_known : Cond) ∈ lw_tbl := (List.mem_append_right _ (List.mem_append_right _ (List.mem_append_right _ (List.mem_append_left _ (List.mem_of_getElem? (i := 33) rfl)))))
theorem wt_477 : (.instanceMethod yS_known : Cond) ∈ lw_tbl := (List.mem_append_right _ (List.mem_append_right _ (List.mem_append_right _ (List.mem_append_left _ (List.mem_of_getElem? (i := 34) rfl)))))
theorem wt_478 : (.selects "ShortenPrograms" yS_known yS_known : Cond) ∈ lw_tbl := (List.mem_append_right _ (List.mem_append_right _ (List.mem_append_right _ (List.mem_append_left _ (List.mem_of_getElem? (i := 35) rfl)))))
theorem wt_479 : (.code yS_known prog_1_method_9_code 6 (some .int) : Cond) ∈ lw_tbl := (List.mem_append_right _ (List.mem_append_right _ (List.mem_append_right _ (List.mem_append_left _ (List.mem_of_getElem? (i := 36) rfl)))))
theorem wt_480 : (.methodLink "ShortenPrograms" 138 yP_leaveOut : Cond) ∈ lw_tbl := (List.mem_append_right _ (List.mem_append_right _ (List.mem_append_right _ (List.mem_append_left _ (List.mem_of_getElem? (i := 40) rfl)))))
theorem wt_481 : (.methodLink "ShortenPrograms" 142 yP_setByte : Cond) ∈ lw_tbl := (List.mem_append_right _ (List.mem_append_right _ (List.mem_append_right _ (List.mem_append_left _ (List.mem_of_getElem? (i := 41) rfl)))))
theorem wt_482 : (.classLink "ShortenProgramsLaw" 53 "ShortenProgramsModel" : Cond) ∈ lw_tbl := (List.mem_append_right _ (List.mem_append_right _ (List.mem_append_right _ (List.mem_append_left _ (List.mem_of_getElem? (i := 42) rfl)))))
theorem wt_483 : (.instantiable "ShortenProgramsModel" 27 : Cond) ∈ lw_tbl := (List.mem_append_right _ (List.mem_append_right _ (List.mem_append_right _ (List.mem_append_left _ (List.mem_of_getElem? (i := 43) rfl)))))
theorem wt_484 : (.methodLink "ShortenProgramsLaw" 55 yD_init : Cond) ∈ lw_tbl := (List.mem_append_right _ (List.mem_append_right _ (List.mem_append_right _ (List.mem_append_left _ (List.mem_of_getElem? (i := 44) rfl)))))
theorem wt_485 : (.instanceMethod yD_init : Cond) ∈ lw_tbl := (List.mem_append_right _ (List.mem_append_right _ (List.mem_append_right _ (List.mem_append_left _ (List.mem_of_getElem? (i := 45) rfl)))))
theorem wt_486 : (.code yD_init prog_7_method_1_code 3 none : Cond) ∈ lw_tbl := (List.mem_append_right _ (List.mem_append_right _ (List.mem_append_right _ (List.mem_append_left _ (List.mem_of_getElem? (i := 46) rfl)))))
theorem wt_487 : (.methodLink "ShortenProgramsModel" 1 ⟨"java/lang/Object", "<init>", "()V"⟩ : Cond) ∈ lw_tbl := (List.mem_append_right _ (List.mem_append_right _ (List.mem_append_right _ (List.mem_append_left _ (List.mem_of_getElem? (i := 47) rfl)))))
theorem wt_488 : (.fieldLink "ShortenProgramsModel" 35 "ShortenProgramsModel" "thrown" "I" : Cond) ∈ lw_tbl := (List.mem_append_right _ (List.mem_append_right _ (List.mem_append_right _ (List.mem_append_left _ (List.mem_of_getElem? (i := 48) rfl)))))
theorem wt_489 : (.fieldLink "ShortenProgramsModel" 32 "ShortenProgramsModel" "budget" "I" : Cond) ∈ lw_tbl := (List.mem_append_right _ (List.mem_append_right _ (List.mem_append_right _ (List.mem_append_left _ (List.mem_of_getElem? (i := 49) rfl)))))
theorem wt_490 : (.fieldLink "ShortenProgramsModel" 38 "ShortenProgramsModel" "state" "I" : Cond) ∈ lw_tbl := (List.mem_append_right _ (List.mem_append_right _ (List.mem_append_right _ (List.mem_append_left _ (List.mem_of_getElem? (i := 50) rfl)))))
theorem wt_491 : (.fieldLink "ShortenProgramsModel" 41 "ShortenProgramsModel" "size" "I" : Cond) ∈ lw_tbl := (List.mem_append_right _ (List.mem_append_right _ (List.mem_append_right _ (List.mem_append_left _ (List.mem_of_getElem? (i := 51) rfl)))))
theorem wt_492 : (.fieldLink "ShortenProgramsModel" 7 "ShortenProgramsModel" "word" "[I" : Cond) ∈ lw_tbl := (List.mem_append_right _ (List.mem_append_right _ (List.mem_append_right _ (List.mem_append_left _ (List.mem_of_getElem? (i := 52) rfl)))))
theorem wt_493 : (.fieldLink "ShortenProgramsModel" 13 "ShortenProgramsModel" "origin" "[I" : Cond) ∈ lw_tbl := (List.mem_append_right _ (List.mem_append_right _ (List.mem_append_right _ (List.mem_append_left _ (List.mem_of_getElem? (i := 53) rfl)))))
theorem wt_494 : (.fieldLink "ShortenProgramsModel" 66 "ShortenProgramsModel" "candSize" "I" : Cond) ∈ lw_tbl := (List.mem_append_right _ (List.mem_append_right _ (List.mem_append_right _ (List.mem_append_left _ (List.mem_of_getElem? (i := 54) rfl)))))
theorem wt_495 : (.fieldLink "ShortenProgramsModel" 16 "ShortenProgramsModel" "cand" "[I" : Cond) ∈ lw_tbl := (List.mem_append_right _ (List.mem_append_right _ (List.mem_append_right _ (List.mem_append_left _ (List.mem_of_getElem? (i := 55) rfl)))))
theorem wt_496 : (.fieldLink "ShortenProgramsModel" 146 "ShortenProgramsModel" "isFirst" "Z" : Cond) ∈ lw_tbl := (List.mem_append_right _ (List.mem_append_right _ (List.mem_append_right _ (List.mem_append_left _ (List.mem_of_getElem? (i := 56) rfl)))))
theorem wt_497 : (.fieldLink "ShortenProgramsModel" 86 "ShortenProgramsModel" "isLowering" "Z" : Cond) ∈ lw_tbl := (List.mem_append_right _ (List.mem_append_right _ (List.mem_append_right _ (List.mem_append_left _ (List.mem_of_getElem? (i := 57) rfl)))))
theorem wt_498 : (.fieldLink "ShortenProgramsModel" 96 "ShortenProgramsModel" "someGood" "Z" : Cond) ∈ lw_tbl := (List.mem_append_right _ (List.mem_append_right _ (List.mem_append_right _ (List.mem_append_left _ (List.mem_of_getElem? (i := 58) rfl)))))
theorem wt_499 : (.fieldLink "ShortenProgramsModel" 99 "ShortenProgramsModel" "wasLowered" "Z" : Cond) ∈ lw_tbl := (List.mem_append_right _ (List.mem_append_right _ (List.mem_append_right _ (List.mem_append_left _ (List.mem_of_getElem? (i := 59) rfl)))))
theorem wt_500 : (.fieldLink "ShortenProgramsModel" 90 "ShortenProgramsModel" "piece" "I" : Cond) ∈ lw_tbl := (List.mem_append_right _ (List.mem_append_right _ (List.mem_append_right _ (List.mem_append_left _ (List.mem_of_getElem? (i := 60) rfl)))))
theorem wt_501 : (.fieldLink "ShortenProgramsModel" 93 "ShortenProgramsModel" "place" "I" : Cond) ∈ lw_tbl := (List.mem_append_right _ (List.mem_append_right _ (List.mem_append_right _ (List.mem_append_left _ (List.mem_of_getElem? (i := 61) rfl)))))
theorem wt_502 : (.fieldLink "ShortenProgramsModel" 73 "ShortenProgramsModel" "atWord" "I" : Cond) ∈ lw_tbl := (List.mem_append_right _ (List.mem_append_right _ (List.mem_append_right _ (List.mem_append_left _ (List.mem_of_getElem? (i := 62) rfl)))))
theorem wt_503 : (.fieldLink "ShortenProgramsModel" 76 "ShortenProgramsModel" "atByte" "I" : Cond) ∈ lw_tbl := (List.mem_append_right _ (List.mem_append_right _ (List.mem_append_right _ (List.mem_append_left _ (List.mem_of_getElem? (i := 63) rfl)))))
theorem wt_504 : (.fieldLink "ShortenProgramsModel" 83 "ShortenProgramsModel" "how" "I" : Cond) ∈ lw_tbl := (List.mem_append_right _ (List.mem_append_right _ (List.mem_append_right _ (List.mem_append_left _ (List.mem_of_getElem? (i := 64) rfl)))))
theorem wt_505 : (.fieldLink "ShortenProgramsModel" 19 "ShortenProgramsModel" "difference" "I" : Cond) ∈ lw_tbl := (List.mem_append_right _ (List.mem_append_right _ (List.mem_append_right _ (List.mem_append_left _ (List.mem_of_getElem? (i := 65) rfl)))))
theorem wt_506 : (.fieldLink "ShortenProgramsModel" 48 "ShortenProgramsModel" "asks" "I" : Cond) ∈ lw_tbl := (List.mem_append_right _ (List.mem_append_right _ (List.mem_append_right _ (List.mem_append_left _ (List.mem_of_getElem? (i := 66) rfl)))))
theorem wt_507 : (.fieldLink "ShortenProgramsModel" 23 "ShortenProgramsModel" "askedSize" "[I" : Cond) ∈ lw_tbl := (List.mem_append_right _ (List.mem_append_right _ (List.mem_append_right _ (List.mem_append_left _ (List.mem_of_getElem? (i := 67) rfl)))))
theorem wt_508 : (.fieldLink "ShortenProgramsModel" 26 "ShortenProgramsModel" "askedWord" "[I" : Cond) ∈ lw_tbl := (List.mem_append_right _ (List.mem_append_right _ (List.mem_append_right _ (List.mem_append_left _ (List.mem_of_getElem? (i := 68) rfl)))))
theorem wt_509 : (.fieldLink "ShortenProgramsModel" 29 "ShortenProgramsModel" "answer" "[I" : Cond) ∈ lw_tbl := (List.mem_append_right _ (List.mem_append_right _ (List.mem_append_right _ (List.mem_append_left _ (List.mem_of_getElem? (i := 69) rfl)))))
theorem wt_510 : (.fieldLink "ShortenProgramsModel" 51 "ShortenProgramsModel" "remembered" "I" : Cond) ∈ lw_tbl := (List.mem_append_right _ (List.mem_append_right _ (List.mem_append_right _ (List.mem_append_left _ (List.mem_of_getElem? (i := 70) rfl)))))
theorem wt_511 : (.fieldLink "ShortenProgramsModel" 54 "ShortenProgramsModel" "good" "I" : Cond) ∈ lw_tbl := (List.mem_append_right _ (List.mem_append_right _ (List.mem_append_right _ (List.mem_append_left _ (List.mem_of_getElem? (i := 71) rfl)))))
theorem wt_512 : (.fieldLink "ShortenProgramsModel" 57 "ShortenProgramsModel" "leftOut" "I" : Cond) ∈ lw_tbl := (List.mem_append_right _ (List.mem_append_right _ (List.mem_append_right _ (List.mem_append_left _ (List.mem_of_getElem? (i := 72) rfl)))))
theorem wt_513 : (.fieldLink "ShortenProgramsModel" 60 "ShortenProgramsModel" "lowered" "I" : Cond) ∈ lw_tbl := (List.mem_append_right _ (List.mem_append_right _ (List.mem_append_right _ (List.mem_append_left _ (List.mem_of_getElem? (i := 73) rfl)))))
theorem wt_514 : (.fieldLink "ShortenProgramsModel" 63 "ShortenProgramsModel" "begun" "I" : Cond) ∈ lw_tbl := (List.mem_append_right _ (List.mem_append_right _ (List.mem_append_right _ (List.mem_append_left _ (List.mem_of_getElem? (i := 74) rfl)))))
theorem wt_515 : (.lays "ShortenProgramsModel" "ShortenProgramsModel" "thrown" "I" : Cond) ∈ lw_tbl := (List.mem_append_right _ (List.mem_append_right _ (List.mem_append_right _ (List.mem_append_left _ (List.mem_of_getElem? (i := 75) rfl)))))
theorem wt_516 : (.soleField "ShortenProgramsModel" "thrown" : Cond) ∈ lw_tbl := (List.mem_append_right _ (List.mem_append_right _ (List.mem_append_right _ (List.mem_append_left _ (List.mem_of_getElem? (i := 76) rfl)))))
theorem wt_517 : (.laysFinal "ShortenProgramsModel" "ShortenProgramsModel" "budget" "I" : Cond) ∈ lw_tbl := (List.mem_append_right _ (List.mem_append_right _ (List.mem_append_right _ (List.mem_append_left _ (List.mem_of_getElem? (i := 77) rfl)))))
theorem wt_518 : (.soleField "ShortenProgramsModel" "budget" : Cond) ∈ lw_tbl := (List.mem_append_right _ (List.mem_append_right _ (List.mem_append_right _ (List.mem_append_left _ (List.mem_of_getElem? (i := 78) rfl)))))
theorem wt_519 : (.lays "ShortenProgramsModel" "ShortenProgramsModel" "state" "I" : Cond) ∈ lw_tbl := (List.mem_append_right _ (List.mem_append_right _ (List.mem_append_right _ (List.mem_append_left _ (List.mem_of_getElem? (i := 79) rfl)))))
theorem wt_520 : (.soleField "ShortenProgramsModel" "state" : Cond) ∈ lw_tbl := (List.mem_append_right _ (List.mem_append_right _ (List.mem_append_right _ (List.mem_append_left _ (List.mem_of_getElem? (i := 80) rfl)))))
theorem wt_521 : (.lays "ShortenProgramsModel" "ShortenProgramsModel" "size" "I" : Cond) ∈ lw_tbl := (List.mem_append_right _ (List.mem_append_right _ (List.mem_append_right _ (List.mem_append_left _ (List.mem_of_getElem? (i := 81) rfl)))))
theorem wt_522 : (.soleField "ShortenProgramsModel" "size" : Cond) ∈ lw_tbl := (List.mem_append_right _ (List.mem_append_right _ (List.mem_append_right _ (List.mem_append_left _ (List.mem_of_getElem? (i := 82) rfl)))))
theorem wt_523 : (.laysFinal "ShortenProgramsModel" "ShortenProgramsModel" "word" "[I" : Cond) ∈ lw_tbl := (List.mem_append_right _ (List.mem_append_right _ (List.mem_append_right _ (List.mem_append_left _ (List.mem_of_getElem? (i := 83) rfl)))))
theorem wt_524 : (.soleField "ShortenProgramsModel" "word" : Cond) ∈ lw_tbl := (List.mem_append_right _ (List.mem_append_right _ (List.mem_append_right _ (List.mem_append_left _ (List.mem_of_getElem? (i := 84) rfl)))))
theorem wt_525 : (.laysFinal "ShortenProgramsModel" "ShortenProgramsModel" "origin" "[I" : Cond) ∈ lw_tbl := (List.mem_append_right _ (List.mem_append_right _ (List.mem_append_right _ (List.mem_append_left _ (List.mem_of_getElem? (i := 85) rfl)))))
theorem wt_526 : (.soleField "ShortenProgramsModel" "origin" : Cond) ∈ lw_tbl := (List.mem_append_right _ (List.mem_append_right _ (List.mem_append_right _ (List.mem_append_left _ (List.mem_of_getElem? (i := 86) rfl)))))
theorem wt_527 : (.lays "ShortenProgramsModel" "ShortenProgramsModel" "candSize" "I" : Cond) ∈ lw_tbl := (List.mem_append_right _ (List.mem_append_right _ (List.mem_append_right _ (List.mem_append_left _ (List.mem_of_getElem? (i := 87) rfl)))))
theorem wt_528 : (.soleField "ShortenProgramsModel" "candSize" : Cond) ∈ lw_tbl := (List.mem_append_right _ (List.mem_append_right _ (List.mem_append_right _ (List.mem_append_left _ (List.mem_of_getElem? (i := 88) rfl)))))
theorem wt_529 : (.laysFinal "ShortenProgramsModel" "ShortenProgramsModel" "cand" "[I" : Cond) ∈ lw_tbl := (List.mem_append_right _ (List.mem_append_right _ (List.mem_append_right _ (List.mem_append_left _ (List.mem_of_getElem? (i := 89) rfl)))))
theorem wt_530 : (.soleField "ShortenProgramsModel" "cand" : Cond) ∈ lw_tbl := (List.mem_append_right _ (List.mem_append_right _ (List.mem_append_right _ (List.mem_append_left _ (List.mem_of_getElem? (i := 90) rfl)))))
theorem wt_531 : (.lays "ShortenProgramsModel" "ShortenProgramsModel" "isFirst" "Z" : Cond) ∈ lw_tbl := (List.mem_append_right _ (List.mem_append_right _ (List.mem_append_right _ (List.mem_append_left _ (List.mem_of_getElem? (i := 91) rfl)))))
theorem wt_532 : (.soleField "ShortenProgramsModel" "isFirst" : Cond) ∈ lw_tbl := (List.mem_append_right _ (List.mem_append_right _ (List.mem_append_right _ (List.mem_append_left _ (List.mem_of_getElem? (i := 92) rfl)))))
theorem wt_533 : (.lays "ShortenProgramsModel" "ShortenProgramsModel" "isLowering" "Z" : Cond) ∈ lw_tbl := (List.mem_append_right _ (List.mem_append_right _ (List.mem_append_right _ (List.mem_append_left _ (List.mem_of_getElem? (i := 93) rfl)))))
theorem wt_534 : (.soleField "ShortenProgramsModel" "isLowering" : Cond) ∈ lw_tbl := (List.mem_append_right _ (List.mem_append_right _ (List.mem_append_right _ (List.mem_append_left _ (List.mem_of_getElem? (i := 94) rfl)))))
theorem wt_535 : (.lays "ShortenProgramsModel" "ShortenProgramsModel" "someGood" "Z" : Cond) ∈ lw_tbl := (List.mem_append_right _ (List.mem_append_right _ (List.mem_append_right _ (List.mem_append_left _ (List.mem_of_getElem? (i := 95) rfl)))))
theorem wt_536 : (.soleField "ShortenProgramsModel" "someGood" : Cond) ∈ lw_tbl := (List.mem_append_right _ (List.mem_append_right _ (List.mem_append_right _ (List.mem_append_left _ (List.mem_of_getElem? (i := 96) rfl)))))
theorem wt_537 : (.lays "ShortenProgramsModel" "ShortenProgramsModel" "wasLowered" "Z" : Cond) ∈ lw_tbl := (List.mem_append_right _ (List.mem_append_right _ (List.mem_append_right _ (List.mem_append_left _ (List.mem_of_getElem? (i := 97) rfl)))))
theorem wt_538 : (.soleField "ShortenProgramsModel" "wasLowered" : Cond) ∈ lw_tbl := (List.mem_append_right _ (List.mem_append_right _ (List.mem_append_right _ (List.mem_append_left _ (List.mem_of_getElem? (i := 98) rfl)))))
theorem wt_539 : (.lays "ShortenProgramsModel" "ShortenProgramsModel" "piece" "I" : Cond) ∈ lw_tbl := (List.mem_append_right _ (List.mem_append_right _ (List.mem_append_right _ (List.mem_append_left _ (List.mem_of_getElem? (i := 99) rfl)))))
theorem wt_540 : (.soleField "ShortenProgramsModel" "piece" : Cond) ∈ lw_tbl := (List.mem_append_right _ (List.mem_append_right _ (List.mem_append_right _ (List.mem_append_left _ (List.mem_of_getElem? (i := 100) rfl)))))
theorem wt_541 : (.lays "ShortenProgramsModel" "ShortenProgramsModel" "place" "I" : Cond) ∈ lw_tbl := (List.mem_append_right _ (List.mem_append_right _ (List.mem_append_right _ (List.mem_append_left _ (List.mem_of_getElem? (i := 101) rfl)))))
theorem wt_542 : (.soleField "ShortenProgramsModel" "place" : Cond) ∈ lw_tbl := (List.mem_append_right _ (List.mem_append_right _ (List.mem_append_right _ (List.mem_append_left _ (List.mem_of_getElem? (i := 102) rfl)))))
theorem wt_543 : (.lays "ShortenProgramsModel" "ShortenProgramsModel" "atWord" "I" : Cond) ∈ lw_tbl := (List.mem_append_right _ (List.mem_append_right _ (List.mem_append_right _ (List.mem_append_left _ (List.mem_of_getElem? (i := 103) rfl)))))
theorem wt_544 : (.soleField "ShortenProgramsModel" "atWord" : Cond) ∈ lw_tbl := (List.mem_append_right _ (List.mem_append_right _ (List.mem_append_right _ (List.mem_append_left _ (List.mem_of_getElem? (i := 104) rfl)))))
theorem wt_545 : (.lays "ShortenProgramsModel" "ShortenProgramsModel" "atByte" "I" : Cond) ∈ lw_tbl := (List.mem_append_right _ (List.mem_append_right _ (List.mem_append_right _ (List.mem_append_left _ (List.mem_of_getElem? (i := 105) rfl)))))
theorem wt_546 : (.soleField "ShortenProgramsModel" "atByte" : Cond) ∈ lw_tbl := (List.mem_append_right _ (List.mem_append_right _ (List.mem_append_right _ (List.mem_append_left _ (List.mem_of_getElem? (i := 106) rfl)))))
theorem wt_547 : (.lays "ShortenProgramsModel" "ShortenProgramsModel" "how" "I" : Cond) ∈ lw_tbl := (List.mem_append_right _ (List.mem_append_right _ (List.mem_append_right _ (List.mem_append_left _ (List.mem_of_getElem? (i := 107) rfl)))))
theorem wt_548 : (.soleField "ShortenProgramsModel" "how" : Cond) ∈ lw_tbl := (List.mem_append_right _ (List.mem_append_right _ (List.mem_append_right _ (List.mem_append_left _ (List.mem_of_getElem? (i := 108) rfl)))))
theorem wt_549 : (.lays "ShortenProgramsModel" "ShortenProgramsModel" "difference" "I" : Cond) ∈ lw_tbl := (List.mem_append_right _ (List.mem_append_right _ (List.mem_append_right _ (List.mem_append_left _ (List.mem_of_getElem? (i := 109) rfl)))))
theorem wt_550 : (.soleField "ShortenProgramsModel" "difference" : Cond) ∈ lw_tbl := (List.mem_append_right _ (List.mem_append_right _ (List.mem_append_right _ (List.mem_append_left _ (List.mem_of_getElem? (i := 110) rfl)))))
theorem wt_551 : (.lays "ShortenProgramsModel" "ShortenProgramsModel" "asks" "I" : Cond) ∈ lw_tbl := (List.mem_append_right _ (List.mem_append_right _ (List.mem_append_right _ (List.mem_append_left _ (List.mem_of_getElem? (i := 111) rfl)))))
theorem wt_552 : (.soleField "ShortenProgramsModel" "asks" : Cond) ∈ lw_tbl := (List.mem_append_right _ (List.mem_append_right _ (List.mem_append_right _ (List.mem_append_left _ (List.mem_of_getElem? (i := 112) rfl)))))
theorem wt_553 : (.laysFinal "ShortenProgramsModel" "ShortenProgramsModel" "askedSize" "[I" : Cond) ∈ lw_tbl := (List.mem_append_right _ (List.mem_append_right _ (List.mem_append_right _ (List.mem_append_left _ (List.mem_of_getElem? (i := 113) rfl)))))
theorem wt_554 : (.soleField "ShortenProgramsModel" "askedSize" : Cond) ∈ lw_tbl := (List.mem_append_right _ (List.mem_append_right _ (List.mem_append_right _ (List.mem_append_left _ (List.mem_of_getElem? (i := 114) rfl)))))
theorem wt_555 : (.laysFinal "ShortenProgramsModel" "ShortenProgramsModel" "askedWord" "[I" : Cond) ∈ lw_tbl := (List.mem_append_right _ (List.mem_append_right _ (List.mem_append_right _ (List.mem_append_left _ (List.mem_of_getElem? (i := 115) rfl)))))
theorem wt_556 : (.soleField "ShortenProgramsModel" "askedWord" : Cond) ∈ lw_tbl := (List.mem_append_right _ (List.mem_append_right _ (List.mem_append_right _ (List.mem_append_left _ (List.mem_of_getElem? (i := 116) rfl)))))
theorem wt_557 : (.laysFinal "ShortenProgramsModel" "ShortenProgramsModel" "answer" "[I" : Cond) ∈ lw_tbl := (List.mem_append_right _ (List.mem_append_right _ (List.mem_append_right _ (List.mem_append_left _ (List.mem_of_getElem? (i := 117) rfl)))))
theorem wt_558 : (.soleField "ShortenProgramsModel" "answer" : Cond) ∈ lw_tbl := (List.mem_append_right _ (List.mem_append_right _ (List.mem_append_right _ (List.mem_append_left _ (List.mem_of_getElem? (i := 118) rfl)))))
theorem wt_559 : (.lays "ShortenProgramsModel" "ShortenProgramsModel" "remembered" "I" : Cond) ∈ lw_tbl := (List.mem_append_right _ (List.mem_append_right _ (List.mem_append_right _ (List.mem_append_left _ (List.mem_of_getElem? (i := 119) rfl)))))
theorem wt_560 : (.soleField "ShortenProgramsModel" "remembered" : Cond) ∈ lw_tbl := (List.mem_append_right _ (List.mem_append_right _ (List.mem_append_right _ (List.mem_append_left _ (List.mem_of_getElem? (i := 120) rfl)))))
theorem wt_561 : (.lays "ShortenProgramsModel" "ShortenProgramsModel" "good" "I" : Cond) ∈ lw_tbl := (List.mem_append_right _ (List.mem_append_right _ (List.mem_append_right _ (List.mem_append_left _ (List.mem_of_getElem? (i := 121) rfl)))))
theorem wt_562 : (.soleField "ShortenProgramsModel" "good" : Cond) ∈ lw_tbl := (List.mem_append_right _ (List.mem_append_right _ (List.mem_append_right _ (List.mem_append_left _ (List.mem_of_getElem? (i := 122) rfl)))))
theorem wt_563 : (.lays "ShortenProgramsModel" "ShortenProgramsModel" "leftOut" "I" : Cond) ∈ lw_tbl := (List.mem_append_right _ (List.mem_append_right _ (List.mem_append_right _ (List.mem_append_left _ (List.mem_of_getElem? (i := 123) rfl)))))
theorem wt_564 : (.soleField "ShortenProgramsModel" "leftOut" : Cond) ∈ lw_tbl := (List.mem_append_right _ (List.mem_append_right _ (List.mem_append_right _ (List.mem_append_left _ (List.mem_of_getElem? (i := 124) rfl)))))
theorem wt_565 : (.lays "ShortenProgramsModel" "ShortenProgramsModel" "lowered" "I" : Cond) ∈ lw_tbl := (List.mem_append_right _ (List.mem_append_right _ (List.mem_append_right _ (List.mem_append_left _ (List.mem_of_getElem? (i := 125) rfl)))))
theorem wt_566 : (.soleField "ShortenProgramsModel" "lowered" : Cond) ∈ lw_tbl := (List.mem_append_right _ (List.mem_append_right _ (List.mem_append_right _ (List.mem_append_left _ (List.mem_of_getElem? (i := 126) rfl)))))
theorem wt_567 : (.lays "ShortenProgramsModel" "ShortenProgramsModel" "begun" "I" : Cond) ∈ lw_tbl := (List.mem_append_right _ (List.mem_append_right _ (List.mem_append_right _ (List.mem_append_left _ (List.mem_of_getElem? (i := 127) rfl)))))
theorem wt_568 : (.soleField "ShortenProgramsModel" "begun" : Cond) ∈ lw_tbl := (List.mem_append_right _ (List.mem_append_right _ (List.mem_append_right _ (List.mem_append_left _ (List.mem_of_getElem? (i := 128) rfl)))))
theorem wt_569 : (.superclass "ShortenProgramsModel" "java/lang/Object" : Cond) ∈ lw_tbl := (List.mem_append_right _ (List.mem_append_right _ (List.mem_append_right _ (List.mem_append_left _ (List.mem_of_getElem? (i := 129) rfl)))))
theorem wt_570 : (.methodLink "ShortenProgramsLaw" 60 yD_thrown : Cond) ∈ lw_tbl := (List.mem_append_right _ (List.mem_append_right _ (List.mem_append_right _ (List.mem_append_left _ (List.mem_of_getElem? (i := 130) rfl)))))
theorem wt_571 : (.instanceMethod yD_thrown : Cond) ∈ lw_tbl := (List.mem_append_right _ (List.mem_append_right _ (List.mem_append_right _ (List.mem_append_left _ (List.mem_of_getElem? (i := 131) rfl)))))
theorem wt_572 : (.selects "ShortenProgramsModel" yD_thrown yD_thrown : Cond) ∈ lw_tbl := (List.mem_append_right _ (List.mem_append_right _ (List.mem_append_right _ (List.mem_append_left _ (List.mem_of_getElem? (i := 132) rfl)))))
theorem wt_573 : (.code yD_thrown prog_7_method_2_code 1 (some .int) : Cond) ∈ lw_tbl := (List.mem_append_right _ (List.mem_append_right _ (List.mem_append_right _ (List.mem_append_left _ (List.mem_of_getElem? (i := 133) rfl)))))
theorem wt_574 : (.methodLink "ShortenProgramsLaw" 59 yD_feed : Cond) ∈ lw_tbl := (List.mem_append_right _ (List.mem_append_right _ (List.mem_append_right _ (List.mem_append_left _ (List.mem_of_getElem? (i := 134) rfl)))))
theorem wt_575 : (.instanceMethod yD_feed : Cond) ∈ lw_tbl := (List.mem_append_right _ (List.mem_append_right _ (List.mem_append_right _ (List.mem_append_left _ (List.mem_of_getElem? (i := 135) rfl)))))
theorem wt_576 : (.selects "ShortenProgramsModel" yD_feed yD_feed : Cond) ∈ lw_tbl := (List.mem_append_right _ (List.mem_append_right _ (List.mem_append_right _ (List.mem_append_left _ (List.mem_of_getElem? (i := 136) rfl)))))
theorem wt_577 : (.code yD_feed prog_7_method_5_code 2 (some .int) : Cond) ∈ lw_tbl := (List.mem_append_right _ (List.mem_append_right _ (List.mem_append_right _ (List.mem_append_left _ (List.mem_of_getElem? (i := 137) rfl)))))
theorem wt_578 : (.methodLink "ShortenProgramsModel" 44 yD_fail : Cond) ∈ lw_tbl := (List.mem_append_right _ (List.mem_append_right _ (List.mem_append_right _ (List.mem_append_left _ (List.mem_of_getElem? (i := 138) rfl)))))
theorem wt_579 : (.instanceMethod yD_fail : Cond) ∈ lw_tbl := (List.mem_append_right _ (List.mem_append_right _ (List.mem_append_right _ (List.mem_append_left _ (List.mem_of_getElem? (i := 140) rfl)))))
theorem wt_580 : (.code yD_fail prog_7_method_3_code 2 (some .int) : Cond) ∈ lw_tbl := (List.mem_append_right _ (List.mem_append_right _ (List.mem_append_right _ (List.mem_append_left _ (List.mem_of_getElem? (i := 141) rfl)))))
theorem wt_581 : (.methodLink "ShortenProgramsLaw" 66 yD_begin : Cond) ∈ lw_tbl := (List.mem_append_right _ (List.mem_append_right _ (List.mem_append_right _ (List.mem_append_left _ (List.mem_of_getElem? (i := 142) rfl)))))
theorem wt_582 : (.instanceMethod yD_begin : Cond) ∈ lw_tbl := (List.mem_append_right _ (List.mem_append_right _ (List.mem_append_right _ (List.mem_append_left _ (List.mem_of_getElem? (i := 143) rfl)))))
theorem wt_583 : (.selects "ShortenProgramsModel" yD_begin yD_begin : Cond) ∈ lw_tbl := (List.mem_append_right _ (List.mem_append_right _ (List.mem_append_right _ (List.mem_append_left _ (List.mem_of_getElem? (i := 144) rfl)))))
theorem wt_584 : (.code yD_begin prog_7_method_22_code 1 none : Cond) ∈ lw_tbl := (List.mem_append_right _ (List.mem_append_right _ (List.mem_append_right _ (List.mem_append_left _ (List.mem_of_getElem? (i := 145) rfl)))))
theorem wt_585 : (.methodLink "ShortenProgramsModel" 105 yD_without : Cond) ∈ lw_tbl := (List.mem_append_right _ (List.mem_append_right _ (List.mem_append_right _ (List.mem_append_left _ (List.mem_of_getElem? (i := 146) rfl)))))
theorem wt_586 : (.instanceMethod yD_without : Cond) ∈ lw_tbl := (List.mem_append_right _ (List.mem_append_right _ (List.mem_append_right _ (List.mem_append_left _ (List.mem_of_getElem? (i := 148) rfl)))))
theorem wt_587 : (.code yD_without prog_7_method_8_code 4 none : Cond) ∈ lw_tbl := (List.mem_append_right _ (List.mem_append_right _ (List.mem_append_right _ (List.mem_append_left _ (List.mem_of_getElem? (i := 149) rfl)))))
theorem wt_588 : (.methodLink "ShortenProgramsModel" 140 yD_put : Cond) ∈ lw_tbl := (List.mem_append_right _ (List.mem_append_right _ (List.mem_append_right _ (List.mem_append_left _ (List.mem_of_getElem? (i := 150) rfl)))))
theorem wt_589 : (.instanceMethod yD_put : Cond) ∈ lw_tbl := (List.mem_append_right _ (List.mem_append_right _ (List.mem_append_right _ (List.mem_append_left _ (List.mem_of_getElem? (i := 152) rfl)))))
theorem wt_590 : (.code yD_put prog_7_method_21_code 2 none : Cond) ∈ lw_tbl := (List.mem_append_right _ (List.mem_append_right _ (List.mem_append_right _ (List.mem_append_left _ (List.mem_of_getElem? (i := 153) rfl)))))
theorem wt_591 : (.methodLink "ShortenProgramsLaw" 76 yD_judge : Cond) ∈ lw_tbl := (List.mem_append_right _ (List.mem_append_right _ (List.mem_append_right _ (List.mem_append_left _ (List.mem_of_getElem? (i := 154) rfl)))))
theorem wt_592 : (.instanceMethod yD_judge : Cond) ∈ lw_tbl := (List.mem_append_right _ (List.mem_append_right _ (List.mem_append_right _ (List.mem_append_left _ (List.mem_of_getElem? (i := 155) rfl)))))
theorem wt_593 : (.selects "ShortenProgramsModel" yD_judge yD_judge : Cond) ∈ lw_tbl := (List.mem_append_right _ (List.mem_append_right _ (List.mem_append_right _ (List.mem_append_left _ (List.mem_of_getElem? (i := 156) rfl)))))
theorem wt_594 : (.code yD_judge prog_7_method_23_code 2 (some .int) : Cond) ∈ lw_tbl := (List.mem_append_right _ (List.mem_append_right _ (List.mem_append_right _ (List.mem_append_left _ (List.mem_of_getElem? (i := 157) rfl)))))
theorem wt_595 : (.methodLink "ShortenProgramsModel" 112 yD_beginLeaving : Cond) ∈ lw_tbl := (List.mem_append_right _ (List.mem_append_right _ (List.mem_append_right _ (List.mem_append_left _ (List.mem_of_getElem? (i := 158) rfl)))))
theorem wt_596 : (.instanceMethod yD_beginLeaving : Cond) ∈ lw_tbl := (List.mem_append_right _ (List.mem_append_right _ (List.mem_append_right _ (List.mem_append_left _ (List.mem_of_getElem? (i := 160) rfl)))))
theorem wt_597 : (.code yD_beginLeaving prog_7_method_12_code 2 none : Cond) ∈ lw_tbl := (List.mem_append_right _ (List.mem_append_right _ (List.mem_append_right _ (List.mem_append_left _ (List.mem_of_getElem? (i := 161) rfl)))))
theorem wt_598 : (.methodLink "ShortenProgramsModel" 143 yD_answered : Cond) ∈ lw_tbl := (List.mem_append_right _ (List.mem_append_right _ (List.mem_append_right _ (List.mem_append_left _ (List.mem_of_getElem? (i := 162) rfl)))))
theorem wt_599 : (.instanceMethod yD_answered : Cond) ∈ lw_tbl := (List.mem_append_right _ (List.mem_append_right _ (List.mem_append_right _ (List.mem_append_left _ (List.mem_of_getElem? (i := 164) rfl)))))
theorem wt_600 : (.code yD_answered prog_7_method_19_code 3 none : Cond) ∈ lw_tbl := (List.mem_append_right _ (List.mem_append_right _ (List.mem_append_right _ (List.mem_append_left _ (List.mem_of_getElem? (i := 165) rfl)))))
theorem wt_601 : (.methodLink "ShortenProgramsModel" 127 yD_takeLeaving : Cond) ∈ lw_tbl := (List.mem_append_right _ (List.mem_append_right _ (List.mem_append_right _ (List.mem_append_left _ (List.mem_of_getElem? (i := 166) rfl)))))
theorem wt_602 : (.instanceMethod yD_takeLeaving : Cond) ∈ lw_tbl := (List.mem_append_right _ (List.mem_append_right _ (List.mem_append_right _ (List.mem_append_left _ (List.mem_of_getElem? (i := 168) rfl)))))
theorem wt_603 : (.code yD_takeLeaving prog_7_method_17_code 3 none : Cond) ∈ lw_tbl := (List.mem_append_right _ (List.mem_append_right _ (List.mem_append_right _ (List.mem_append_left _ (List.mem_of_getElem? (i := 169) rfl)))))
theorem wt_604 : (.methodLink "ShortenProgramsModel" 130 yD_takeLowering : Cond) ∈ lw_tbl := (List.mem_append_right _ (List.mem_append_right _ (List.mem_append_right _ (List.mem_append_left _ (List.mem_of_getElem? (i := 170) rfl)))))
theorem wt_605 : (.instanceMethod yD_takeLowering : Cond) ∈ lw_tbl := (List.mem_append_right _ (List.mem_append_right _ (List.mem_append_right _ (List.mem_append_left _ (List.mem_of_getElem? (i := 172) rfl)))))
theorem wt_606 : (.code yD_takeLowering prog_7_method_18_code 1 none : Cond) ∈ lw_tbl := (List.mem_append_right _ (List.mem_append_right _ (List.mem_append_right _ (List.mem_append_left _ (List.mem_of_getElem? (i := 173) rfl)))))
theorem wt_607 : (.methodLink "ShortenProgramsModel" 124 yD_nextByte : Cond) ∈ lw_tbl := (List.mem_append_right _ (List.mem_append_right _ (List.mem_append_right _ (List.mem_append_left _ (List.mem_of_getElem? (i := 174) rfl)))))
theorem wt_608 : (.instanceMethod yD_nextByte : Cond) ∈ lw_tbl := (List.mem_append_right _ (List.mem_append_right _ (List.mem_append_right _ (List.mem_append_left _ (List.mem_of_getElem? (i := 176) rfl)))))
theorem wt_609 : (.code yD_nextByte prog_7_method_14_code 1 none : Cond) ∈ lw_tbl := (List.mem_append_right _ (List.mem_append_right _ (List.mem_append_right _ (List.mem_append_left _ (List.mem_of_getElem? (i := 177) rfl)))))
theorem wt_610 : (.methodLink "ShortenProgramsModel" 149 yD_goOn : Cond) ∈ lw_tbl := (List.mem_append_right _ (List.mem_append_right _ (List.mem_append_right _ (List.mem_append_left _ (List.mem_of_getElem? (i := 178) rfl)))))
theorem wt_611 : (.instanceMethod yD_goOn : Cond) ∈ lw_tbl := (List.mem_append_right _ (List.mem_append_right _ (List.mem_append_right _ (List.mem_append_left _ (List.mem_of_getElem? (i := 180) rfl)))))
theorem wt_612 : (.code yD_goOn prog_7_method_20_code 2 none : Cond) ∈ lw_tbl := (List.mem_append_right _ (List.mem_append_right _ (List.mem_append_right _ (List.mem_append_left _ (List.mem_of_getElem? (i := 181) rfl)))))
theorem wt_613 : (.methodLink "ShortenProgramsModel" 133 yD_prepare : Cond) ∈ lw_tbl := (List.mem_append_right _ (List.mem_append_right _ (List.mem_append_right _ (List.mem_append_left _ (List.mem_of_getElem? (i := 182) rfl)))))
theorem wt_614 : (.instanceMethod yD_prepare : Cond) ∈ lw_tbl := (List.mem_append_right _ (List.mem_append_right _ (List.mem_append_right _ (List.mem_append_left _ (List.mem_of_getElem? (i := 184) rfl)))))
theorem wt_615 : (.code yD_prepare prog_7_method_16_code 2 (some .boolean) : Cond) ∈ lw_tbl := (List.mem_append_right _ (List.mem_append_right _ (List.mem_append_right _ (List.mem_append_left _ (List.mem_of_getElem? (i := 185) rfl)))))
theorem wt_616 : (.methodLink "ShortenProgramsModel" 109 yD_endPass : Cond) ∈ lw_tbl := (List.mem_append_right _ (List.mem_append_right _ (List.mem_append_right _ (List.mem_append_left _ (List.mem_of_getElem? (i := 186) rfl)))))
theorem wt_617 : (.instanceMethod yD_endPass : Cond) ∈ lw_tbl := (List.mem_append_right _ (List.mem_append_right _ (List.mem_append_right _ (List.mem_append_left _ (List.mem_of_getElem? (i := 188) rfl)))))
theorem wt_618 : (.code yD_endPass prog_7_method_15_code 2 none : Cond) ∈ lw_tbl := (List.mem_append_right _ (List.mem_append_right _ (List.mem_append_right _ (List.mem_append_left _ (List.mem_of_getElem? (i := 189) rfl)))))
theorem wt_619 : (.methodLink "ShortenProgramsModel" 102 yD_beginLowering : Cond) ∈ lw_tbl := (List.mem_append_right _ (List.mem_append_right _ (List.mem_append_right _ (List.mem_append_left _ (List.mem_of_getElem? (i := 190) rfl)))))
theorem wt_620 : (.instanceMethod yD_beginLowering : Cond) ∈ lw_tbl := (List.mem_append_right _ (List.mem_append_right _ (List.mem_append_right _ (List.mem_append_left _ (List.mem_of_getElem? (i := 192) rfl)))))
theorem wt_621 : (.code yD_beginLowering prog_7_method_13_code 1 none : Cond) ∈ lw_tbl := (List.mem_append_right _ (List.mem_append_right _ (List.mem_append_right _ (List.mem_append_left _ (List.mem_of_getElem? (i := 193) rfl)))))
theorem wt_622 : (.methodLink "ShortenProgramsModel" 116 yD_lowerTo : Cond) ∈ lw_tbl := (List.mem_append_right _ (List.mem_append_right _ (List.mem_append_right _ (List.mem_append_left _ (List.mem_of_getElem? (i := 194) rfl)))))
theorem wt_623 : (.instanceMethod yD_lowerTo : Cond) ∈ lw_tbl := (List.mem_append_right _ (List.mem_append_right _ (List.mem_append_right _ (List.mem_append_left _ (List.mem_of_getElem? (i := 196) rfl)))))
theorem wt_624 : (.code yD_lowerTo prog_7_method_11_code 3 (some .int) : Cond) ∈ lw_tbl := (List.mem_append_right _ (List.mem_append_right _ (List.mem_append_right _ (List.mem_append_left _ (List.mem_of_getElem? (i := 197) rfl)))))
theorem wt_625 : (.methodLink "ShortenProgramsModel" 79 yD_byteOf : Cond) ∈ lw_tbl := (List.mem_append_right _ (List.mem_append_right _ (List.mem_append_right _ (List.mem_append_left _ (List.mem_of_getElem? (i := 198) rfl)))))
theorem wt_626 : (.instanceMethod yD_byteOf : Cond) ∈ lw_tbl := (List.mem_append_right _ (List.mem_append_right _ (List.mem_append_right _ (List.mem_append_left _ (List.mem_of_getElem? (i := 200) rfl)))))
theorem wt_627 : (.code yD_byteOf prog_7_method_10_code 3 (some .int) : Cond) ∈ lw_tbl := (List.mem_append_right _ (List.mem_append_right _ (List.mem_append_right _ (List.mem_append_left _ (List.mem_of_getElem? (i := 201) rfl)))))
theorem wt_628 : (.methodLink "ShortenProgramsModel" 120 yD_withByte : Cond) ∈ lw_tbl := (List.mem_append_right _ (List.mem_append_right _ (List.mem_append_right _ (List.mem_append_left _ (List.mem_of_getElem? (i := 202) rfl)))))
theorem wt_629 : (.instanceMethod yD_withByte : Cond) ∈ lw_tbl := (List.mem_append_right _ (List.mem_append_right _ (List.mem_append_right _ (List.mem_append_left _ (List.mem_of_getElem? (i := 204) rfl)))))
theorem wt_630 : (.code yD_withByte prog_7_method_9_code 5 none : Cond) ∈ lw_tbl := (List.mem_append_right _ (List.mem_append_right _ (List.mem_append_right _ (List.mem_append_left _ (List.mem_of_getElem? (i := 205) rfl)))))
theorem wt_631 : (.methodLink "ShortenProgramsModel" 137 yD_find : Cond) ∈ lw_tbl := (List.mem_append_right _ (List.mem_append_right _ (List.mem_append_right _ (List.mem_append_left _ (List.mem_of_getElem? (i := 206) rfl)))))
theorem wt_632 : (.instanceMethod yD_find : Cond) ∈ lw_tbl := (List.mem_append_right _ (List.mem_append_right _ (List.mem_append_right _ (List.mem_append_left _ (List.mem_of_getElem? (i := 208) rfl)))))
theorem wt_633 : (.code yD_find prog_7_method_7_code 2 (some .int) : Cond) ∈ lw_tbl := (List.mem_append_right _ (List.mem_append_right _ (List.mem_append_right _ (List.mem_append_left _ (List.mem_of_getElem? (i := 209) rfl)))))
theorem wt_634 : (.methodLink "ShortenProgramsModel" 69 yD_isAsked : Cond) ∈ lw_tbl := (List.mem_append_right _ (List.mem_append_right _ (List.mem_append_right _ (List.mem_append_left _ (List.mem_of_getElem? (i := 210) rfl)))))
theorem wt_635 : (.instanceMethod yD_isAsked : Cond) ∈ lw_tbl := (List.mem_append_right _ (List.mem_append_right _ (List.mem_append_right _ (List.mem_append_left _ (List.mem_of_getElem? (i := 212) rfl)))))
theorem wt_636 : (.code yD_isAsked prog_7_method_6_code 3 (some .boolean) : Cond) ∈ lw_tbl := (List.mem_append_right _ (List.mem_append_right _ (List.mem_append_right _ (List.mem_append_left _ (List.mem_of_getElem? (i := 213) rfl)))))
theorem wt_637 : (.methodLink "ShortenProgramsLaw" 69 yD_asked : Cond) ∈ lw_tbl := (List.mem_append_right _ (List.mem_append_right _ (List.mem_append_right _ (List.mem_append_left _ (List.mem_of_getElem? (i := 214) rfl)))))
theorem wt_638 : (.instanceMethod yD_asked : Cond) ∈ lw_tbl := (List.mem_append_right _ (List.mem_append_right _ (List.mem_append_right _ (List.mem_append_left _ (List.mem_of_getElem? (i := 215) rfl)))))
theorem wt_639 : (.selects "ShortenProgramsModel" yD_asked yD_asked : Cond) ∈ lw_tbl := (List.mem_append_right _ (List.mem_append_right _ (List.mem_append_right _ (List.mem_append_left _ (List.mem_of_getElem? (i := 216) rfl)))))
theorem wt_640 : (.code yD_asked prog_7_method_24_code 2 (some .int) : Cond) ∈ lw_tbl := (List.mem_append_right _ (List.mem_append_right _ (List.mem_append_right _ (List.mem_append_left _ (List.mem_of_getElem? (i := 217) rfl)))))
theorem wt_641 : (.methodLink "ShortenProgramsModel" 152 yD_within : Cond) ∈ lw_tbl := (List.mem_append_right _ (List.mem_append_right _ (List.mem_append_right _ (List.mem_append_left _ (List.mem_of_getElem? (i := 218) rfl)))))
theorem wt_642 : (.static yD_within : Cond) ∈ lw_tbl := (List.mem_append_right _ (List.mem_append_right _ (List.mem_append_right _ (List.mem_append_left _ (List.mem_of_getElem? (i := 219) rfl)))))
theorem wt_643 : (.code yD_within prog_7_method_4_code 3 (some .boolean) : Cond) ∈ lw_tbl := (List.mem_append_right _ (List.mem_append_right _ (List.mem_append_right _ (List.mem_append_left _ (List.mem_of_getElem? (i := 220) rfl)))))
theorem wt_644 : (.methodLink "ShortenProgramsLaw" 73 yD_size : Cond) ∈ lw_tbl := (List.mem_append_right _ (List.mem_append_right _ (List.mem_append_right _ (List.mem_append_left _ (List.mem_of_getElem? (i := 221) rfl)))))
theorem wt_645 : (.instanceMethod yD_size : Cond) ∈ lw_tbl := (List.mem_append_right _ (List.mem_append_right _ (List.mem_append_right _ (List.mem_append_left _ (List.mem_of_getElem? (i := 222) rfl)))))
theorem wt_646 : (.selects "ShortenProgramsModel" yD_size yD_size : Cond) ∈ lw_tbl := (List.mem_append_right _ (List.mem_append_right _ (List.mem_append_right _ (List.mem_append_left _ (List.mem_of_getElem? (i := 223) rfl)))))
theorem wt_647 : (.code yD_size prog_7_method_25_code 1 (some .int) : Cond) ∈ lw_tbl := (List.mem_append_right _ (List.mem_append_right _ (List.mem_append_right _ (List.mem_append_left _ (List.mem_of_getElem? (i := 224) rfl)))))
theorem wt_648 : (.methodLink "ShortenProgramsLaw" 79 yD_at : Cond) ∈ lw_tbl := (List.mem_append_right _ (List.mem_append_right _ (List.mem_append_right _ (List.mem_append_left _ (List.mem_of_getElem? (i := 225) rfl)))))
theorem wt_649 : (.instanceMethod yD_at : Cond) ∈ lw_tbl := (List.mem_append_right _ (List.mem_append_right _ (List.mem_append_right _ (List.mem_append_left _ (List.mem_of_getElem? (i := 226) rfl)))))
theorem wt_650 : (.selects "ShortenProgramsModel" yD_at yD_at : Cond) ∈ lw_tbl := (List.mem_append_right _ (List.mem_append_right _ (List.mem_append_right _ (List.mem_append_left _ (List.mem_of_getElem? (i := 227) rfl)))))
theorem wt_651 : (.code yD_at prog_7_method_26_code 2 (some .int) : Cond) ∈ lw_tbl := (List.mem_append_right _ (List.mem_append_right _ (List.mem_append_right _ (List.mem_append_left _ (List.mem_of_getElem? (i := 228) rfl)))))
theorem wt_652 : (.methodLink "ShortenProgramsLaw" 82 yD_from : Cond) ∈ lw_tbl := (List.mem_append_right _ (List.mem_append_right _ (List.mem_append_right _ (List.mem_append_left _ (List.mem_of_getElem? (i := 229) rfl)))))
theorem wt_653 : (.instanceMethod yD_from : Cond) ∈ lw_tbl := (List.mem_append_right _ (List.mem_append_right _ (List.mem_append_right _ (List.mem_append_left _ (List.mem_of_getElem? (i := 230) rfl)))))
theorem wt_654 : (.selects "ShortenProgramsModel" yD_from yD_from : Cond) ∈ lw_tbl := (List.mem_append_right _ (List.mem_append_right _ (List.mem_append_right _ (List.mem_append_left _ (List.mem_of_getElem? (i := 231) rfl)))))
theorem wt_655 : (.code yD_from prog_7_method_27_code 2 (some .int) : Cond) ∈ lw_tbl := (List.mem_append_right _ (List.mem_append_right _ (List.mem_append_right _ (List.mem_append_left _ (List.mem_of_getElem? (i := 232) rfl)))))
theorem wt_656 : (.methodLink "ShortenProgramsLaw" 86 yD_known : Cond) ∈ lw_tbl := (List.mem_append_right _ (List.mem_append_right _ (List.mem_append_right _ (List.mem_append_left _ (List.mem_of_getElem? (i := 233) rfl)))))
theorem wt_657 : (.instanceMethod yD_known : Cond) ∈ lw_tbl := (List.mem_append_right _ (List.mem_append_right _ (List.mem_append_right _ (List.mem_append_left _ (List.mem_of_getElem? (i := 234) rfl)))))
theorem wt_658 : (.selects "ShortenProgramsModel" yD_known yD_known : Cond) ∈ lw_tbl := (List.mem_append_right _ (List.mem_append_right _ (List.mem_append_right _ (List.mem_append_left _ (List.mem_of_getElem? (i := 235) rfl)))))
theorem wt_659 : (.code yD_known prog_7_method_28_code 8 (some .int) : Cond) ∈ lw_tbl := (List.mem_append_right _ (List.mem_append_right _ (List.mem_append_right _ (List.mem_append_left _ (List.mem_of_getElem? (i := 236) rfl)))))
theorem wt_660 : (.methodLink "ShortenProgramsLaw" 90 yD_count : Cond) ∈ lw_tbl := (List.mem_append_right _ (List.mem_append_right _ (List.mem_append_right _ (List.mem_append_left _ (List.mem_of_getElem? (i := 237) rfl)))))
theorem wt_661 : (.instanceMethod yD_count : Cond) ∈ lw_tbl := (List.mem_append_right _ (List.mem_append_right _ (List.mem_append_right _ (List.mem_append_left _ (List.mem_of_getElem? (i := 238) rfl)))))
theorem wt_662 : (.selects "ShortenProgramsModel" yD_count yD_count : Cond) ∈ lw_tbl := (List.mem_append_right _ (List.mem_append_right _ (List.mem_append_right _ (List.mem_append_left _ (List.mem_of_getElem? (i := 239) rfl)))))
theorem wt_663 : (.code yD_count prog_7_method_29_code 2 (some .int) : Cond) ∈ lw_tbl := (List.mem_append_right _ (List.mem_append_right _ (List.mem_append_right _ (List.mem_append_right _ (List.mem_of_getElem? (i := 0) rfl)))))
theorem wt_664 : (.arrayClass .long : Cond) ∈ lw_tbl := (List.mem_append_right _ (List.mem_append_right _ (List.mem_append_right _ (List.mem_append_right _ (List.mem_of_getElem? (i := 1) rfl)))))
theorem wt_665 : (.sameMethod "java/lang/Throwable" "java/lang/Throwable" "fillInStackTrace" "(I)Ljava/lang/Throwable;" : Cond) ∈ lw_tbl := (List.mem_append_right _ (List.mem_append_right _ (List.mem_append_right _ (List.mem_append_right _ (List.mem_of_getElem? (i := 2) rfl)))))
theorem wt_666 : (.selects rS yS_startAfresh yS_startAfresh : Cond) ∈ lw_tbl := (List.mem_append_left _ (List.mem_of_getElem? (i := 0) rfl))
theorem wt_667 : (.selects "java/lang/Throwable" ⟨"java/lang/Throwable", "fillInStackTrace", "(I)Ljava/lang/Throwable;"⟩ ⟨"java/lang/Throwable", "fillInStackTrace", "(I)Ljava/lang/Throwable;"⟩ : Cond) ∈ lw_tbl := (List.mem_append_left _ (List.mem_of_getElem? (i := 1) rfl))
theorem wt_668 : (.selects rS yS_openAsk yS_openAsk : Cond) ∈ lw_tbl := (List.mem_append_left _ (List.mem_of_getElem? (i := 2) rfl))
theorem wt_669 : (.selects rS yS_takeFirst yS_takeFirst : Cond) ∈ lw_tbl := (List.mem_append_left _ (List.mem_of_getElem? (i := 3) rfl))
theorem wt_670 : (.selects rW yW_startGoingThrough yW_startGoingThrough : Cond) ∈ lw_tbl := (List.mem_append_left _ (List.mem_of_getElem? (i := 4) rfl))
theorem wt_671 : (.selects rS yS_take yS_take : Cond) ∈ lw_tbl := (List.mem_append_left _ (List.mem_of_getElem? (i := 5) rfl))
theorem wt_672 : (.selects rW yW_nextByte yW_nextByte : Cond) ∈ lw_tbl := (List.mem_append_left _ (List.mem_of_getElem? (i := 6) rfl))
theorem wt_673 : (.selects rW yW_lowerValue yW_lowerValue : Cond) ∈ lw_tbl := (List.mem_append_left _ (List.mem_of_getElem? (i := 7) rfl))
theorem wt_674 : (.selects rS yS_askNext yS_askNext : Cond) ∈ lw_tbl := (List.mem_append_left _ (List.mem_of_getElem? (i := 8) rfl))
theorem wt_675 : (.selects rW yW_endGoingThrough yW_endGoingThrough : Cond) ∈ lw_tbl := (List.mem_append_left _ (List.mem_of_getElem? (i := 9) rfl))
theorem wt_676 : (.selects rW yW_startLowering yW_startLowering : Cond) ∈ lw_tbl := (List.mem_append_left _ (List.mem_of_getElem? (i := 10) rfl))
theorem wt_677 : (.selects rW yW_canLower yW_canLower : Cond) ∈ lw_tbl := (List.mem_append_left _ (List.mem_of_getElem? (i := 11) rfl))
theorem wt_678 : (.selects rS yS_ask yS_ask : Cond) ∈ lw_tbl := (List.mem_append_left _ (List.mem_of_getElem? (i := 12) rfl))
theorem wt_679 : (.selects rD yD_fail yD_fail : Cond) ∈ lw_tbl := (List.mem_append_left _ (List.mem_of_getElem? (i := 13) rfl))
theorem wt_680 : (.selects rD yD_without yD_without : Cond) ∈ lw_tbl := (List.mem_append_left _ (List.mem_of_getElem? (i := 14) rfl))
theorem wt_681 : (.selects rD yD_put yD_put : Cond) ∈ lw_tbl := (List.mem_append_left _ (List.mem_of_getElem? (i := 15) rfl))
theorem wt_682 : (.selects rD yD_beginLeaving yD_beginLeaving : Cond) ∈ lw_tbl := (List.mem_append_left _ (List.mem_of_getElem? (i := 16) rfl))
theorem wt_683 : (.selects rD yD_answered yD_answered : Cond) ∈ lw_tbl := (List.mem_append_left _ (List.mem_of_getElem? (i := 17) rfl))
theorem wt_684 : (.selects rD yD_takeLeaving yD_takeLeaving : Cond) ∈ lw_tbl := (List.mem_append_left _ (List.mem_of_getElem? (i := 18) rfl))
theorem wt_685 : (.selects rD yD_takeLowering yD_takeLowering : Cond) ∈ lw_tbl := (List.mem_append_left _ (List.mem_of_getElem? (i := 19) rfl))
theorem wt_686 : (.selects rD yD_nextByte yD_nextByte : Cond) ∈ lw_tbl := (List.mem_append_left _ (List.mem_of_getElem? (i := 20) rfl))
theorem wt_687 : (.selects rD yD_goOn yD_goOn : Cond) ∈ lw_tbl := (List.mem_append_left _ (List.mem_of_getElem? (i := 21) rfl))
theorem wt_688 : (.selects rD yD_prepare yD_prepare : Cond) ∈ lw_tbl := (List.mem_append_left _ (List.mem_of_getElem? (i := 22) rfl))
theorem wt_689 : (.selects rD yD_endPass yD_endPass : Cond) ∈ lw_tbl := (List.mem_append_left _ (List.mem_of_getElem? (i := 23) rfl))
theorem wt_690 : (.selects rD yD_beginLowering yD_beginLowering : Cond) ∈ lw_tbl := (List.mem_append_left _ (List.mem_of_getElem? (i := 24) rfl))
theorem wt_691 : (.selects rD yD_lowerTo yD_lowerTo : Cond) ∈ lw_tbl := (List.mem_append_left _ (List.mem_of_getElem? (i := 25) rfl))
theorem wt_692 : (.selects rD yD_byteOf yD_byteOf : Cond) ∈ lw_tbl := (List.mem_append_left _ (List.mem_of_getElem? (i := 26) rfl))
theorem wt_693 : (.selects rD yD_withByte yD_withByte : Cond) ∈ lw_tbl := (List.mem_append_left _ (List.mem_of_getElem? (i := 27) rfl))
theorem wt_694 : (.selects rD yD_find yD_find : Cond) ∈ lw_tbl := (List.mem_append_left _ (List.mem_of_getElem? (i := 28) rfl))
theorem wt_695 : (.selects rD yD_isAsked yD_isAsked : Cond) ∈ lw_tbl := (List.mem_append_left _ (List.mem_of_getElem? (i := 29) rfl))
theorem wA_t0 : ∀ w ∈ wA_0, w ∈ lw_tbl := List.forall_mem_cons.mpr ⟨wt_0, List.forall_mem_cons.mpr ⟨wt_1, List.forall_mem_cons.mpr ⟨wt_2, List.forall_mem_cons.mpr ⟨wt_3, List.forall_mem_cons.mpr ⟨wt_4, List.forall_mem_cons.mpr ⟨wt_5, List.forall_mem_cons.mpr ⟨wt_6, List.forall_mem_cons.mpr ⟨wt_7, List.forall_mem_cons.mpr ⟨wt_8, List.forall_mem_cons.mpr ⟨wt_9, List.forall_mem_cons.mpr ⟨wt_10, List.forall_mem_cons.mpr ⟨wt_11, List.forall_mem_cons.mpr ⟨wt_12, List.forall_mem_cons.mpr ⟨wt_13, List.forall_mem_cons.mpr ⟨wt_14, List.forall_mem_cons.mpr ⟨wt_15, List.forall_mem_cons.mpr ⟨wt_16, List.forall_mem_cons.mpr ⟨wt_17, List.forall_mem_cons.mpr ⟨wt_18, List.forall_mem_cons.mpr ⟨wt_19, List.forall_mem_cons.mpr ⟨wt_20, List.forall_mem_cons.mpr ⟨wt_21, List.forall_mem_cons.mpr ⟨wt_22, List.forall_mem_cons.mpr ⟨wt_23, List.forall_mem_cons.mpr ⟨wt_24, List.forall_mem_cons.mpr ⟨wt_25, List.forall_mem_cons.mpr ⟨wt_26, List.forall_mem_cons.mpr ⟨wt_27, List.forall_mem_cons.mpr ⟨wt_28, List.forall_mem_cons.mpr ⟨wt_29, List.forall_mem_cons.mpr ⟨wt_30, List.forall_mem_cons.mpr ⟨wt_31, List.forall_mem_cons.mpr ⟨wt_32, List.forall_mem_cons.mpr ⟨wt_33, List.forall_mem_cons.mpr ⟨wt_34, List.forall_mem_cons.mpr ⟨wt_35, List.forall_mem_cons.mpr ⟨wt_36, List.forall_mem_cons.mpr ⟨wt_37, List.forall_mem_cons.mpr ⟨wt_38, List.forall_mem_cons.mpr ⟨wt_39, fun _ h => absurd h List.not_mem_nil⟩⟩⟩⟩⟩⟩⟩⟩⟩⟩⟩⟩⟩⟩⟩⟩⟩⟩⟩⟩⟩⟩⟩⟩⟩⟩⟩⟩⟩⟩⟩⟩⟩⟩⟩⟩⟩⟩⟩⟩
theorem wA_t1 : ∀ w ∈ wA_1, w ∈ lw_tbl := List.forall_mem_cons.mpr ⟨wt_40, List.forall_mem_cons.mpr ⟨wt_41, List.forall_mem_cons.mpr ⟨wt_42, List.forall_mem_cons.mpr ⟨wt_43, List.forall_mem_cons.mpr ⟨wt_44, List.forall_mem_cons.mpr ⟨wt_45, List.forall_mem_cons.mpr ⟨wt_46, List.forall_mem_cons.mpr ⟨wt_47, List.forall_mem_cons.mpr ⟨wt_48, List.forall_mem_cons.mpr ⟨wt_49, List.forall_mem_cons.mpr ⟨wt_50, List.forall_mem_cons.mpr ⟨wt_51, List.forall_mem_cons.mpr ⟨wt_52, List.forall_mem_cons.mpr ⟨wt_53, List.forall_mem_cons.mpr ⟨wt_54, List.forall_mem_cons.mpr ⟨wt_55, List.forall_mem_cons.mpr ⟨wt_56, List.forall_mem_cons.mpr ⟨wt_57, List.forall_mem_cons.mpr ⟨wt_58, List.forall_mem_cons.mpr ⟨wt_59, List.forall_mem_cons.mpr ⟨wt_60, List.forall_mem_cons.mpr ⟨wt_61, List.forall_mem_cons.mpr ⟨wt_62, List.forall_mem_cons.mpr ⟨wt_63, List.forall_mem_cons.mpr ⟨wt_64, List.forall_mem_cons.mpr ⟨wt_65, List.forall_mem_cons.mpr ⟨wt_66, List.forall_mem_cons.mpr ⟨wt_67, List.forall_mem_cons.mpr ⟨wt_68, List.forall_mem_cons.mpr ⟨wt_69, List.forall_mem_cons.mpr ⟨wt_70, List.forall_mem_cons.mpr ⟨wt_71, List.forall_mem_cons.mpr ⟨wt_72, List.forall_mem_cons.mpr ⟨wt_73, List.forall_mem_cons.mpr ⟨wt_74, List.forall_mem_cons.mpr ⟨wt_75, List.forall_mem_cons.mpr ⟨wt_76, List.forall_mem_cons.mpr ⟨wt_77, List.forall_mem_cons.mpr ⟨wt_78, List.forall_mem_cons.mpr ⟨wt_79, fun _ h => absurd h List.not_mem_nil⟩⟩⟩⟩⟩⟩⟩⟩⟩⟩⟩⟩⟩⟩⟩⟩⟩⟩⟩⟩⟩⟩⟩⟩⟩⟩⟩⟩⟩⟩⟩⟩⟩⟩⟩⟩⟩⟩⟩⟩
theorem wA_t2 : ∀ w ∈ wA_2, w ∈ lw_tbl := List.forall_mem_cons.mpr ⟨wt_80, List.forall_mem_cons.mpr ⟨wt_81, List.forall_mem_cons.mpr ⟨wt_82, List.forall_mem_cons.mpr ⟨wt_83, List.forall_mem_cons.mpr ⟨wt_84, List.forall_mem_cons.mpr ⟨wt_85, List.forall_mem_cons.mpr ⟨wt_86, List.forall_mem_cons.mpr ⟨wt_87, List.forall_mem_cons.mpr ⟨wt_88, List.forall_mem_cons.mpr ⟨wt_89, List.forall_mem_cons.mpr ⟨wt_90, List.forall_mem_cons.mpr ⟨wt_91, List.forall_mem_cons.mpr ⟨wt_92, List.forall_mem_cons.mpr ⟨wt_93, List.forall_mem_cons.mpr ⟨wt_94, List.forall_mem_cons.mpr ⟨wt_95, List.forall_mem_cons.mpr ⟨wt_96, List.forall_mem_cons.mpr ⟨wt_97, List.forall_mem_cons.mpr ⟨wt_98, List.forall_mem_cons.mpr ⟨wt_99, List.forall_mem_cons.mpr ⟨wt_100, List.forall_mem_cons.mpr ⟨wt_101, List.forall_mem_cons.mpr ⟨wt_102, List.forall_mem_cons.mpr ⟨wt_103, List.forall_mem_cons.mpr ⟨wt_104, List.forall_mem_cons.mpr ⟨wt_105, List.forall_mem_cons.mpr ⟨wt_106, List.forall_mem_cons.mpr ⟨wt_107, List.forall_mem_cons.mpr ⟨wt_108, List.forall_mem_cons.mpr ⟨wt_109, List.forall_mem_cons.mpr ⟨wt_110, List.forall_mem_cons.mpr ⟨wt_111, List.forall_mem_cons.mpr ⟨wt_112, List.forall_mem_cons.mpr ⟨wt_113, List.forall_mem_cons.mpr ⟨wt_114, List.forall_mem_cons.mpr ⟨wt_115, List.forall_mem_cons.mpr ⟨wt_116, List.forall_mem_cons.mpr ⟨wt_117, List.forall_mem_cons.mpr ⟨wt_118, List.forall_mem_cons.mpr ⟨wt_119, fun _ h => absurd h List.not_mem_nil⟩⟩⟩⟩⟩⟩⟩⟩⟩⟩⟩⟩⟩⟩⟩⟩⟩⟩⟩⟩⟩⟩⟩⟩⟩⟩⟩⟩⟩⟩⟩⟩⟩⟩⟩⟩⟩⟩⟩⟩
theorem wA_t3 : ∀ w ∈ wA_3, w ∈ lw_tbl := List.forall_mem_cons.mpr ⟨wt_120, List.forall_mem_cons.mpr ⟨wt_121, List.forall_mem_cons.mpr ⟨wt_122, List.forall_mem_cons.mpr ⟨wt_123, List.forall_mem_cons.mpr ⟨wt_124, List.forall_mem_cons.mpr ⟨wt_125, List.forall_mem_cons.mpr ⟨wt_126, List.forall_mem_cons.mpr ⟨wt_127, List.forall_mem_cons.mpr ⟨wt_128, List.forall_mem_cons.mpr ⟨wt_129, List.forall_mem_cons.mpr ⟨wt_130, List.forall_mem_cons.mpr ⟨wt_131, List.forall_mem_cons.mpr ⟨wt_132, List.forall_mem_cons.mpr ⟨wt_133, List.forall_mem_cons.mpr ⟨wt_134, List.forall_mem_cons.mpr ⟨wt_135, List.forall_mem_cons.mpr ⟨wt_136, List.forall_mem_cons.mpr ⟨wt_137, List.forall_mem_cons.mpr ⟨wt_138, List.forall_mem_cons.mpr ⟨wt_139, List.forall_mem_cons.mpr ⟨wt_140, List.forall_mem_cons.mpr ⟨wt_141, List.forall_mem_cons.mpr ⟨wt_142, List.forall_mem_cons.mpr ⟨wt_143, List.forall_mem_cons.mpr ⟨wt_144, List.forall_mem_cons.mpr ⟨wt_145, List.forall_mem_cons.mpr ⟨wt_146, List.forall_mem_cons.mpr ⟨wt_147, List.forall_mem_cons.mpr ⟨wt_148, List.forall_mem_cons.mpr ⟨wt_149, List.forall_mem_cons.mpr ⟨wt_150, List.forall_mem_cons.mpr ⟨wt_151, List.forall_mem_cons.mpr ⟨wt_152, List.forall_mem_cons.mpr ⟨wt_153, List.forall_mem_cons.mpr ⟨wt_154, List.forall_mem_cons.mpr ⟨wt_155, List.forall_mem_cons.mpr ⟨wt_156, List.forall_mem_cons.mpr ⟨wt_157, List.forall_mem_cons.mpr ⟨wt_158, List.forall_mem_cons.mpr ⟨wt_159, fun _ h => absurd h List.not_mem_nil⟩⟩⟩⟩⟩⟩⟩⟩⟩⟩⟩⟩⟩⟩⟩⟩⟩⟩⟩⟩⟩⟩⟩⟩⟩⟩⟩⟩⟩⟩⟩⟩⟩⟩⟩⟩⟩⟩⟩⟩
theorem wA_t4 : ∀ w ∈ wA_4, w ∈ lw_tbl := List.forall_mem_cons.mpr ⟨wt_160, List.forall_mem_cons.mpr ⟨wt_161, List.forall_mem_cons.mpr ⟨wt_162, List.forall_mem_cons.mpr ⟨wt_163, List.forall_mem_cons.mpr ⟨wt_164, List.forall_mem_cons.mpr ⟨wt_165, List.forall_mem_cons.mpr ⟨wt_166, List.forall_mem_cons.mpr ⟨wt_167, List.forall_mem_cons.mpr ⟨wt_168, List.forall_mem_cons.mpr ⟨wt_169, List.forall_mem_cons.mpr ⟨wt_170, List.forall_mem_cons.mpr ⟨wt_171, List.forall_mem_cons.mpr ⟨wt_172, List.forall_mem_cons.mpr ⟨wt_173, List.forall_mem_cons.mpr ⟨wt_174, List.forall_mem_cons.mpr ⟨wt_175, List.forall_mem_cons.mpr ⟨wt_176, List.forall_mem_cons.mpr ⟨wt_177, List.forall_mem_cons.mpr ⟨wt_178, List.forall_mem_cons.mpr ⟨wt_179, List.forall_mem_cons.mpr ⟨wt_180, List.forall_mem_cons.mpr ⟨wt_181, List.forall_mem_cons.mpr ⟨wt_182, List.forall_mem_cons.mpr ⟨wt_183, List.forall_mem_cons.mpr ⟨wt_184, List.forall_mem_cons.mpr ⟨wt_185, List.forall_mem_cons.mpr ⟨wt_186, List.forall_mem_cons.mpr ⟨wt_187, List.forall_mem_cons.mpr ⟨wt_188, List.forall_mem_cons.mpr ⟨wt_189, List.forall_mem_cons.mpr ⟨wt_190, List.forall_mem_cons.mpr ⟨wt_191, List.forall_mem_cons.mpr ⟨wt_192, List.forall_mem_cons.mpr ⟨wt_193, List.forall_mem_cons.mpr ⟨wt_194, List.forall_mem_cons.mpr ⟨wt_195, List.forall_mem_cons.mpr ⟨wt_196, List.forall_mem_cons.mpr ⟨wt_197, List.forall_mem_cons.mpr ⟨wt_198, List.forall_mem_cons.mpr ⟨wt_199, fun _ h => absurd h List.not_mem_nil⟩⟩⟩⟩⟩⟩⟩⟩⟩⟩⟩⟩⟩⟩⟩⟩⟩⟩⟩⟩⟩⟩⟩⟩⟩⟩⟩⟩⟩⟩⟩⟩⟩⟩⟩⟩⟩⟩⟩⟩
theorem wA_t5 : ∀ w ∈ wA_5, w ∈ lw_tbl := List.forall_mem_cons.mpr ⟨wt_200, List.forall_mem_cons.mpr ⟨wt_201, List.forall_mem_cons.mpr ⟨wt_202, List.forall_mem_cons.mpr ⟨wt_203, List.forall_mem_cons.mpr ⟨wt_204, List.forall_mem_cons.mpr ⟨wt_205, List.forall_mem_cons.mpr ⟨wt_206, List.forall_mem_cons.mpr ⟨wt_207, List.forall_mem_cons.mpr ⟨wt_208, List.forall_mem_cons.mpr ⟨wt_209, List.forall_mem_cons.mpr ⟨wt_210, List.forall_mem_cons.mpr ⟨wt_211, List.forall_mem_cons.mpr ⟨wt_212, List.forall_mem_cons.mpr ⟨wt_213, List.forall_mem_cons.mpr ⟨wt_214, List.forall_mem_cons.mpr ⟨wt_215, List.forall_mem_cons.mpr ⟨wt_216, List.forall_mem_cons.mpr ⟨wt_217, List.forall_mem_cons.mpr ⟨wt_218, List.forall_mem_cons.mpr ⟨wt_219, List.forall_mem_cons.mpr ⟨wt_220, List.forall_mem_cons.mpr ⟨wt_221, List.forall_mem_cons.mpr ⟨wt_222, List.forall_mem_cons.mpr ⟨wt_223, List.forall_mem_cons.mpr ⟨wt_224, List.forall_mem_cons.mpr ⟨wt_225, List.forall_mem_cons.mpr ⟨wt_226, List.forall_mem_cons.mpr ⟨wt_227, List.forall_mem_cons.mpr ⟨wt_228, List.forall_mem_cons.mpr ⟨wt_229, List.forall_mem_cons.mpr ⟨wt_230, List.forall_mem_cons.mpr ⟨wt_231, List.forall_mem_cons.mpr ⟨wt_232, List.forall_mem_cons.mpr ⟨wt_233, List.forall_mem_cons.mpr ⟨wt_234, List.forall_mem_cons.mpr ⟨wt_235, List.forall_mem_cons.mpr ⟨wt_236, List.forall_mem_cons.mpr ⟨wt_237, List.forall_mem_cons.mpr ⟨wt_238, List.forall_mem_cons.mpr ⟨wt_239, fun _ h => absurd h List.not_mem_nil⟩⟩⟩⟩⟩⟩⟩⟩⟩⟩⟩⟩⟩⟩⟩⟩⟩⟩⟩⟩⟩⟩⟩⟩⟩⟩⟩⟩⟩⟩⟩⟩⟩⟩⟩⟩⟩⟩⟩⟩
theorem wA_t6 : ∀ w ∈ wA_6, w ∈ lw_tbl := List.forall_mem_cons.mpr ⟨wt_240, List.forall_mem_cons.mpr ⟨wt_241, List.forall_mem_cons.mpr ⟨wt_242, List.forall_mem_cons.mpr ⟨wt_243, List.forall_mem_cons.mpr ⟨wt_244, List.forall_mem_cons.mpr ⟨wt_245, List.forall_mem_cons.mpr ⟨wt_246, List.forall_mem_cons.mpr ⟨wt_247, List.forall_mem_cons.mpr ⟨wt_248, List.forall_mem_cons.mpr ⟨wt_249, List.forall_mem_cons.mpr ⟨wt_250, List.forall_mem_cons.mpr ⟨wt_251, List.forall_mem_cons.mpr ⟨wt_252, List.forall_mem_cons.mpr ⟨wt_253, List.forall_mem_cons.mpr ⟨wt_254, List.forall_mem_cons.mpr ⟨wt_255, List.forall_mem_cons.mpr ⟨wt_256, List.forall_mem_cons.mpr ⟨wt_257, List.forall_mem_cons.mpr ⟨wt_258, List.forall_mem_cons.mpr ⟨wt_259, List.forall_mem_cons.mpr ⟨wt_260, List.forall_mem_cons.mpr ⟨wt_261, List.forall_mem_cons.mpr ⟨wt_262, List.forall_mem_cons.mpr ⟨wt_263, List.forall_mem_cons.mpr ⟨wt_264, List.forall_mem_cons.mpr ⟨wt_265, List.forall_mem_cons.mpr ⟨wt_266, List.forall_mem_cons.mpr ⟨wt_267, List.forall_mem_cons.mpr ⟨wt_268, List.forall_mem_cons.mpr ⟨wt_269, List.forall_mem_cons.mpr ⟨wt_270, List.forall_mem_cons.mpr ⟨wt_271, List.forall_mem_cons.mpr ⟨wt_272, List.forall_mem_cons.mpr ⟨wt_273, List.forall_mem_cons.mpr ⟨wt_274, List.forall_mem_cons.mpr ⟨wt_275, List.forall_mem_cons.mpr ⟨wt_276, List.forall_mem_cons.mpr ⟨wt_277, List.forall_mem_cons.mpr ⟨wt_278, List.forall_mem_cons.mpr ⟨wt_279, fun _ h => absurd h List.not_mem_nil⟩⟩⟩⟩⟩⟩⟩⟩⟩⟩⟩⟩⟩⟩⟩⟩⟩⟩⟩⟩⟩⟩⟩⟩⟩⟩⟩⟩⟩⟩⟩⟩⟩⟩⟩⟩⟩⟩⟩⟩
theorem wA_t7 : ∀ w ∈ wA_7, w ∈ lw_tbl := List.forall_mem_cons.mpr ⟨wt_280, List.forall_mem_cons.mpr ⟨wt_281, List.forall_mem_cons.mpr ⟨wt_282, List.forall_mem_cons.mpr ⟨wt_283, List.forall_mem_cons.mpr ⟨wt_284, List.forall_mem_cons.mpr ⟨wt_285, List.forall_mem_cons.mpr ⟨wt_286, List.forall_mem_cons.mpr ⟨wt_287, List.forall_mem_cons.mpr ⟨wt_288, List.forall_mem_cons.mpr ⟨wt_289, List.forall_mem_cons.mpr ⟨wt_290, List.forall_mem_cons.mpr ⟨wt_291, List.forall_mem_cons.mpr ⟨wt_292, List.forall_mem_cons.mpr ⟨wt_293, List.forall_mem_cons.mpr ⟨wt_294, List.forall_mem_cons.mpr ⟨wt_295, List.forall_mem_cons.mpr ⟨wt_296, List.forall_mem_cons.mpr ⟨wt_297, List.forall_mem_cons.mpr ⟨wt_298, List.forall_mem_cons.mpr ⟨wt_299, List.forall_mem_cons.mpr ⟨wt_300, List.forall_mem_cons.mpr ⟨wt_301, List.forall_mem_cons.mpr ⟨wt_302, List.forall_mem_cons.mpr ⟨wt_303, List.forall_mem_cons.mpr ⟨wt_304, List.forall_mem_cons.mpr ⟨wt_305, List.forall_mem_cons.mpr ⟨wt_306, List.forall_mem_cons.mpr ⟨wt_307, List.forall_mem_cons.mpr ⟨wt_308, List.forall_mem_cons.mpr ⟨wt_309, List.forall_mem_cons.mpr ⟨wt_310, List.forall_mem_cons.mpr ⟨wt_311, List.forall_mem_cons.mpr ⟨wt_312, List.forall_mem_cons.mpr ⟨wt_313, List.forall_mem_cons.mpr ⟨wt_314, List.forall_mem_cons.mpr ⟨wt_315, List.forall_mem_cons.mpr ⟨wt_316, List.forall_mem_cons.mpr ⟨wt_317, List.forall_mem_cons.mpr ⟨wt_318, List.forall_mem_cons.mpr ⟨wt_319, fun _ h => absurd h List.not_mem_nil⟩⟩⟩⟩⟩⟩⟩⟩⟩⟩⟩⟩⟩⟩⟩⟩⟩⟩⟩⟩⟩⟩⟩⟩⟩⟩⟩⟩⟩⟩⟩⟩⟩⟩⟩⟩⟩⟩⟩⟩
theorem wA_t8 : ∀ w ∈ wA_8, w ∈ lw_tbl := List.forall_mem_cons.mpr ⟨wt_320, List.forall_mem_cons.mpr ⟨wt_321, List.forall_mem_cons.mpr ⟨wt_322, List.forall_mem_cons.mpr ⟨wt_323, List.forall_mem_cons.mpr ⟨wt_324, List.forall_mem_cons.mpr ⟨wt_325, List.forall_mem_cons.mpr ⟨wt_326, List.forall_mem_cons.mpr ⟨wt_327, List.forall_mem_cons.mpr ⟨wt_328, List.forall_mem_cons.mpr ⟨wt_329, List.forall_mem_cons.mpr ⟨wt_330, List.forall_mem_cons.mpr ⟨wt_331, List.forall_mem_cons.mpr ⟨wt_332, List.forall_mem_cons.mpr ⟨wt_333, List.forall_mem_cons.mpr ⟨wt_334, List.forall_mem_cons.mpr ⟨wt_335, List.forall_mem_cons.mpr ⟨wt_336, List.forall_mem_cons.mpr ⟨wt_337, List.forall_mem_cons.mpr ⟨wt_338, List.forall_mem_cons.mpr ⟨wt_339, List.forall_mem_cons.mpr ⟨wt_340, List.forall_mem_cons.mpr ⟨wt_341, List.forall_mem_cons.mpr ⟨wt_342, List.forall_mem_cons.mpr ⟨wt_343, List.forall_mem_cons.mpr ⟨wt_344, List.forall_mem_cons.mpr ⟨wt_345, List.forall_mem_cons.mpr ⟨wt_346, List.forall_mem_cons.mpr ⟨wt_347, List.forall_mem_cons.mpr ⟨wt_348, List.forall_mem_cons.mpr ⟨wt_349, List.forall_mem_cons.mpr ⟨wt_350, List.forall_mem_cons.mpr ⟨wt_351, List.forall_mem_cons.mpr ⟨wt_352, List.forall_mem_cons.mpr ⟨wt_353, List.forall_mem_cons.mpr ⟨wt_354, List.forall_mem_cons.mpr ⟨wt_355, List.forall_mem_cons.mpr ⟨wt_356, List.forall_mem_cons.mpr ⟨wt_357, List.forall_mem_cons.mpr ⟨wt_358, List.forall_mem_cons.mpr ⟨wt_359, fun _ h => absurd h List.not_mem_nil⟩⟩⟩⟩⟩⟩⟩⟩⟩⟩⟩⟩⟩⟩⟩⟩⟩⟩⟩⟩⟩⟩⟩⟩⟩⟩⟩⟩⟩⟩⟩⟩⟩⟩⟩⟩⟩⟩⟩⟩
theorem wA_t9 : ∀ w ∈ wA_9, w ∈ lw_tbl := List.forall_mem_cons.mpr ⟨wt_360, List.forall_mem_cons.mpr ⟨wt_361, List.forall_mem_cons.mpr ⟨wt_362, List.forall_mem_cons.mpr ⟨wt_363, List.forall_mem_cons.mpr ⟨wt_364, List.forall_mem_cons.mpr ⟨wt_365, List.forall_mem_cons.mpr ⟨wt_366, List.forall_mem_cons.mpr ⟨wt_367, List.forall_mem_cons.mpr ⟨wt_368, List.forall_mem_cons.mpr ⟨wt_369, List.forall_mem_cons.mpr ⟨wt_370, List.forall_mem_cons.mpr ⟨wt_371, List.forall_mem_cons.mpr ⟨wt_372, List.forall_mem_cons.mpr ⟨wt_373, List.forall_mem_cons.mpr ⟨wt_374, List.forall_mem_cons.mpr ⟨wt_375, List.forall_mem_cons.mpr ⟨wt_376, List.forall_mem_cons.mpr ⟨wt_377, List.forall_mem_cons.mpr ⟨wt_378, List.forall_mem_cons.mpr ⟨wt_379, List.forall_mem_cons.mpr ⟨wt_380, List.forall_mem_cons.mpr ⟨wt_381, List.forall_mem_cons.mpr ⟨wt_382, List.forall_mem_cons.mpr ⟨wt_383, List.forall_mem_cons.mpr ⟨wt_384, List.forall_mem_cons.mpr ⟨wt_385, List.forall_mem_cons.mpr ⟨wt_386, List.forall_mem_cons.mpr ⟨wt_387, List.forall_mem_cons.mpr ⟨wt_388, List.forall_mem_cons.mpr ⟨wt_389, List.forall_mem_cons.mpr ⟨wt_390, List.forall_mem_cons.mpr ⟨wt_391, List.forall_mem_cons.mpr ⟨wt_392, List.forall_mem_cons.mpr ⟨wt_393, List.forall_mem_cons.mpr ⟨wt_394, List.forall_mem_cons.mpr ⟨wt_395, List.forall_mem_cons.mpr ⟨wt_396, List.forall_mem_cons.mpr ⟨wt_397, List.forall_mem_cons.mpr ⟨wt_398, List.forall_mem_cons.mpr ⟨wt_399, fun _ h => absurd h List.not_mem_nil⟩⟩⟩⟩⟩⟩⟩⟩⟩⟩⟩⟩⟩⟩⟩⟩⟩⟩⟩⟩⟩⟩⟩⟩⟩⟩⟩⟩⟩⟩⟩⟩⟩⟩⟩⟩⟩⟩⟩⟩
theorem wA_t10 : ∀ w ∈ wA_10, w ∈ lw_tbl := List.forall_mem_cons.mpr ⟨wt_400, List.forall_mem_cons.mpr ⟨wt_401, List.forall_mem_cons.mpr ⟨wt_402, List.forall_mem_cons.mpr ⟨wt_403, List.forall_mem_cons.mpr ⟨wt_404, List.forall_mem_cons.mpr ⟨wt_405, List.forall_mem_cons.mpr ⟨wt_406, List.forall_mem_cons.mpr ⟨wt_407, List.forall_mem_cons.mpr ⟨wt_408, List.forall_mem_cons.mpr ⟨wt_409, List.forall_mem_cons.mpr ⟨wt_410, List.forall_mem_cons.mpr ⟨wt_411, List.forall_mem_cons.mpr ⟨wt_412, List.forall_mem_cons.mpr ⟨wt_413, List.forall_mem_cons.mpr ⟨wt_414, List.forall_mem_cons.mpr ⟨wt_415, List.forall_mem_cons.mpr ⟨wt_416, List.forall_mem_cons.mpr ⟨wt_417, List.forall_mem_cons.mpr ⟨wt_418, List.forall_mem_cons.mpr ⟨wt_419, List.forall_mem_cons.mpr ⟨wt_420, List.forall_mem_cons.mpr ⟨wt_421, List.forall_mem_cons.mpr ⟨wt_422, List.forall_mem_cons.mpr ⟨wt_423, List.forall_mem_cons.mpr ⟨wt_424, List.forall_mem_cons.mpr ⟨wt_425, List.forall_mem_cons.mpr ⟨wt_426, List.forall_mem_cons.mpr ⟨wt_427, List.forall_mem_cons.mpr ⟨wt_428, List.forall_mem_cons.mpr ⟨wt_429, List.forall_mem_cons.mpr ⟨wt_430, List.forall_mem_cons.mpr ⟨wt_431, List.forall_mem_cons.mpr ⟨wt_432, List.forall_mem_cons.mpr ⟨wt_433, List.forall_mem_cons.mpr ⟨wt_434, List.forall_mem_cons.mpr ⟨wt_435, List.forall_mem_cons.mpr ⟨wt_436, List.forall_mem_cons.mpr ⟨wt_437, List.forall_mem_cons.mpr ⟨wt_438, List.forall_mem_cons.mpr ⟨wt_439, fun _ h => absurd h List.not_mem_nil⟩⟩⟩⟩⟩⟩⟩⟩⟩⟩⟩⟩⟩⟩⟩⟩⟩⟩⟩⟩⟩⟩⟩⟩⟩⟩⟩⟩⟩⟩⟩⟩⟩⟩⟩⟩⟩⟩⟩⟩
theorem wA_t11 : ∀ w ∈ wA_11, w ∈ lw_tbl := List.forall_mem_cons.mpr ⟨wt_440, List.forall_mem_cons.mpr ⟨wt_441, List.forall_mem_cons.mpr ⟨wt_442, List.forall_mem_cons.mpr ⟨wt_443, List.forall_mem_cons.mpr ⟨wt_444, List.forall_mem_cons.mpr ⟨wt_445, List.forall_mem_cons.mpr ⟨wt_446, List.forall_mem_cons.mpr ⟨wt_447, List.forall_mem_cons.mpr ⟨wt_448, List.forall_mem_cons.mpr ⟨wt_449, List.forall_mem_cons.mpr ⟨wt_450, List.forall_mem_cons.mpr ⟨wt_451, List.forall_mem_cons.mpr ⟨wt_452, List.forall_mem_cons.mpr ⟨wt_453, List.forall_mem_cons.mpr ⟨wt_454, List.forall_mem_cons.mpr ⟨wt_455, List.forall_mem_cons.mpr ⟨wt_456, List.forall_mem_cons.mpr ⟨wt_457, List.forall_mem_cons.mpr ⟨wt_458, List.forall_mem_cons.mpr ⟨wt_459, List.forall_mem_cons.mpr ⟨wt_460, List.forall_mem_cons.mpr ⟨wt_461, List.forall_mem_cons.mpr ⟨wt_462, List.forall_mem_cons.mpr ⟨wt_463, List.forall_mem_cons.mpr ⟨wt_464, List.forall_mem_cons.mpr ⟨wt_465, List.forall_mem_cons.mpr ⟨wt_466, List.forall_mem_cons.mpr ⟨wt_467, List.forall_mem_cons.mpr ⟨wt_468, List.forall_mem_cons.mpr ⟨wt_469, List.forall_mem_cons.mpr ⟨wt_470, List.forall_mem_cons.mpr ⟨wt_471, List.forall_mem_cons.mpr ⟨wt_472, List.forall_mem_cons.mpr ⟨wt_473, List.forall_mem_cons.mpr ⟨wt_474, List.forall_mem_cons.mpr ⟨wt_475, List.forall_mem_cons.mpr ⟨wt_476, List.forall_mem_cons.mpr ⟨wt_477, List.forall_mem_cons.mpr ⟨wt_478, List.forall_mem_cons.mpr ⟨wt_479, fun _ h => absurd h List.not_mem_nil⟩⟩⟩⟩⟩⟩⟩⟩⟩⟩⟩⟩⟩⟩⟩⟩⟩⟩⟩⟩⟩⟩⟩⟩⟩⟩⟩⟩⟩⟩⟩⟩⟩⟩⟩⟩⟩⟩⟩⟩
theorem wA_t12 : ∀ w ∈ wA_12, w ∈ lw_tbl := List.forall_mem_cons.mpr ⟨wt_480, List.forall_mem_cons.mpr ⟨wt_481, List.forall_mem_cons.mpr ⟨wt_482, List.forall_mem_cons.mpr ⟨wt_483, List.forall_mem_cons.mpr ⟨wt_484, List.forall_mem_cons.mpr ⟨wt_485, List.forall_mem_cons.mpr ⟨wt_486, List.forall_mem_cons.mpr ⟨wt_487, List.forall_mem_cons.mpr ⟨wt_488, List.forall_mem_cons.mpr ⟨wt_489, List.forall_mem_cons.mpr ⟨wt_490, List.forall_mem_cons.mpr ⟨wt_491, List.forall_mem_cons.mpr ⟨wt_492, List.forall_mem_cons.mpr ⟨wt_493, List.forall_mem_cons.mpr ⟨wt_494, List.forall_mem_cons.mpr ⟨wt_495, List.forall_mem_cons.mpr ⟨wt_496, List.forall_mem_cons.mpr ⟨wt_497, List.forall_mem_cons.mpr ⟨wt_498, List.forall_mem_cons.mpr ⟨wt_499, List.forall_mem_cons.mpr ⟨wt_500, List.forall_mem_cons.mpr ⟨wt_501, List.forall_mem_cons.mpr ⟨wt_502, List.forall_mem_cons.mpr ⟨wt_503, List.forall_mem_cons.mpr ⟨wt_504, List.forall_mem_cons.mpr ⟨wt_505, List.forall_mem_cons.mpr ⟨wt_506, List.forall_mem_cons.mpr ⟨wt_507, List.forall_mem_cons.mpr ⟨wt_508, List.forall_mem_cons.mpr ⟨wt_509, List.forall_mem_cons.mpr ⟨wt_510, List.forall_mem_cons.mpr ⟨wt_511, List.forall_mem_cons.mpr ⟨wt_512, List.forall_mem_cons.mpr ⟨wt_513, List.forall_mem_cons.mpr ⟨wt_514, List.forall_mem_cons.mpr ⟨wt_515, List.forall_mem_cons.mpr ⟨wt_516, List.forall_mem_cons.mpr ⟨wt_517, List.forall_mem_cons.mpr ⟨wt_518, List.forall_mem_cons.mpr ⟨wt_519, fun _ h => absurd h List.not_mem_nil⟩⟩⟩⟩⟩⟩⟩⟩⟩⟩⟩⟩⟩⟩⟩⟩⟩⟩⟩⟩⟩⟩⟩⟩⟩⟩⟩⟩⟩⟩⟩⟩⟩⟩⟩⟩⟩⟩⟩⟩
theorem wA_t13 : ∀ w ∈ wA_13, w ∈ lw_tbl := List.forall_mem_cons.mpr ⟨wt_520, List.forall_mem_cons.mpr ⟨wt_521, List.forall_mem_cons.mpr ⟨wt_522, List.forall_mem_cons.mpr ⟨wt_523, List.forall_mem_cons.mpr ⟨wt_524, List.forall_mem_cons.mpr ⟨wt_525, List.forall_mem_cons.mpr ⟨wt_526, List.forall_mem_cons.mpr ⟨wt_527, List.forall_mem_cons.mpr ⟨wt_528, List.forall_mem_cons.mpr ⟨wt_529, List.forall_mem_cons.mpr ⟨wt_530, List.forall_mem_cons.mpr ⟨wt_531, List.forall_mem_cons.mpr ⟨wt_532, List.forall_mem_cons.mpr ⟨wt_533, List.forall_mem_cons.mpr ⟨wt_534, List.forall_mem_cons.mpr ⟨wt_535, List.forall_mem_cons.mpr ⟨wt_536, List.forall_mem_cons.mpr ⟨wt_537, List.forall_mem_cons.mpr ⟨wt_538, List.forall_mem_cons.mpr ⟨wt_539, List.forall_mem_cons.mpr ⟨wt_540, List.forall_mem_cons.mpr ⟨wt_541, List.forall_mem_cons.mpr ⟨wt_542, List.forall_mem_cons.mpr ⟨wt_543, List.forall_mem_cons.mpr ⟨wt_544, List.forall_mem_cons.mpr ⟨wt_545, List.forall_mem_cons.mpr ⟨wt_546, List.forall_mem_cons.mpr ⟨wt_547, List.forall_mem_cons.mpr ⟨wt_548, List.forall_mem_cons.mpr ⟨wt_549, List.forall_mem_cons.mpr ⟨wt_550, List.forall_mem_cons.mpr ⟨wt_551, List.forall_mem_cons.mpr ⟨wt_552, List.forall_mem_cons.mpr ⟨wt_553, List.forall_mem_cons.mpr ⟨wt_554, List.forall_mem_cons.mpr ⟨wt_555, List.forall_mem_cons.mpr ⟨wt_556, List.forall_mem_cons.mpr ⟨wt_557, List.forall_mem_cons.mpr ⟨wt_558, List.forall_mem_cons.mpr ⟨wt_559, fun _ h => absurd h List.not_mem_nil⟩⟩⟩⟩⟩⟩⟩⟩⟩⟩⟩⟩⟩⟩⟩⟩⟩⟩⟩⟩⟩⟩⟩⟩⟩⟩⟩⟩⟩⟩⟩⟩⟩⟩⟩⟩⟩⟩⟩⟩
theorem wA_t14 : ∀ w ∈ wA_14, w ∈ lw_tbl := List.forall_mem_cons.mpr ⟨wt_560, List.forall_mem_cons.mpr ⟨wt_561, List.forall_mem_cons.mpr ⟨wt_562, List.forall_mem_cons.mpr ⟨wt_563, List.forall_mem_cons.mpr ⟨wt_564, List.forall_mem_cons.mpr ⟨wt_565, List.forall_mem_cons.mpr ⟨wt_566, List.forall_mem_cons.mpr ⟨wt_567, List.forall_mem_cons.mpr ⟨wt_568, List.forall_mem_cons.mpr ⟨wt_569, List.forall_mem_cons.mpr ⟨wt_570, List.forall_mem_cons.mpr ⟨wt_571, List.forall_mem_cons.mpr ⟨wt_572, List.forall_mem_cons.mpr ⟨wt_573, List.forall_mem_cons.mpr ⟨wt_574, List.forall_mem_cons.mpr ⟨wt_575, List.forall_mem_cons.mpr ⟨wt_576, List.forall_mem_cons.mpr ⟨wt_577, List.forall_mem_cons.mpr ⟨wt_578, List.forall_mem_cons.mpr ⟨wt_579, List.forall_mem_cons.mpr ⟨wt_580, List.forall_mem_cons.mpr ⟨wt_581, List.forall_mem_cons.mpr ⟨wt_582, List.forall_mem_cons.mpr ⟨wt_583, List.forall_mem_cons.mpr ⟨wt_584, List.forall_mem_cons.mpr ⟨wt_585, List.forall_mem_cons.mpr ⟨wt_586, List.forall_mem_cons.mpr ⟨wt_587, List.forall_mem_cons.mpr ⟨wt_588, List.forall_mem_cons.mpr ⟨wt_589, List.forall_mem_cons.mpr ⟨wt_590, List.forall_mem_cons.mpr ⟨wt_591, List.forall_mem_cons.mpr ⟨wt_592, List.forall_mem_cons.mpr ⟨wt_593, List.forall_mem_cons.mpr ⟨wt_594, List.forall_mem_cons.mpr ⟨wt_595, List.forall_mem_cons.mpr ⟨wt_596, List.forall_mem_cons.mpr ⟨wt_597, List.forall_mem_cons.mpr ⟨wt_598, List.forall_mem_cons.mpr ⟨wt_599, fun _ h => absurd h List.not_mem_nil⟩⟩⟩⟩⟩⟩⟩⟩⟩⟩⟩⟩⟩⟩⟩⟩⟩⟩⟩⟩⟩⟩⟩⟩⟩⟩⟩⟩⟩⟩⟩⟩⟩⟩⟩⟩⟩⟩⟩⟩
theorem wA_t15 : ∀ w ∈ wA_15, w ∈ lw_tbl := List.forall_mem_cons.mpr ⟨wt_600, List.forall_mem_cons.mpr ⟨wt_601, List.forall_mem_cons.mpr ⟨wt_602, List.forall_mem_cons.mpr ⟨wt_603, List.forall_mem_cons.mpr ⟨wt_604, List.forall_mem_cons.mpr ⟨wt_605, List.forall_mem_cons.mpr ⟨wt_606, List.forall_mem_cons.mpr ⟨wt_607, List.forall_mem_cons.mpr ⟨wt_608, List.forall_mem_cons.mpr ⟨wt_609, List.forall_mem_cons.mpr ⟨wt_610, List.forall_mem_cons.mpr ⟨wt_611, List.forall_mem_cons.mpr ⟨wt_612, List.forall_mem_cons.mpr ⟨wt_613, List.forall_mem_cons.mpr ⟨wt_614, List.forall_mem_cons.mpr ⟨wt_615, List.forall_mem_cons.mpr ⟨wt_616, List.forall_mem_cons.mpr ⟨wt_617, List.forall_mem_cons.mpr ⟨wt_618, List.forall_mem_cons.mpr ⟨wt_619, List.forall_mem_cons.mpr ⟨wt_620, List.forall_mem_cons.mpr ⟨wt_621, List.forall_mem_cons.mpr ⟨wt_622, List.forall_mem_cons.mpr ⟨wt_623, List.forall_mem_cons.mpr ⟨wt_624, List.forall_mem_cons.mpr ⟨wt_625, List.forall_mem_cons.mpr ⟨wt_626, List.forall_mem_cons.mpr ⟨wt_627, List.forall_mem_cons.mpr ⟨wt_628, List.forall_mem_cons.mpr ⟨wt_629, List.forall_mem_cons.mpr ⟨wt_630, List.forall_mem_cons.mpr ⟨wt_631, List.forall_mem_cons.mpr ⟨wt_632, List.forall_mem_cons.mpr ⟨wt_633, List.forall_mem_cons.mpr ⟨wt_634, List.forall_mem_cons.mpr ⟨wt_635, List.forall_mem_cons.mpr ⟨wt_636, List.forall_mem_cons.mpr ⟨wt_637, List.forall_mem_cons.mpr ⟨wt_638, List.forall_mem_cons.mpr ⟨wt_639, fun _ h => absurd h List.not_mem_nil⟩⟩⟩⟩⟩⟩⟩⟩⟩⟩⟩⟩⟩⟩⟩⟩⟩⟩⟩⟩⟩⟩⟩⟩⟩⟩⟩⟩⟩⟩⟩⟩⟩⟩⟩⟩⟩⟩⟩⟩
theorem wA_t16 : ∀ w ∈ wA_16, w ∈ lw_tbl := List.forall_mem_cons.mpr ⟨wt_640, List.forall_mem_cons.mpr ⟨wt_641, List.forall_mem_cons.mpr ⟨wt_642, List.forall_mem_cons.mpr ⟨wt_643, List.forall_mem_cons.mpr ⟨wt_644, List.forall_mem_cons.mpr ⟨wt_645, List.forall_mem_cons.mpr ⟨wt_646, List.forall_mem_cons.mpr ⟨wt_647, List.forall_mem_cons.mpr ⟨wt_648, List.forall_mem_cons.mpr ⟨wt_649, List.forall_mem_cons.mpr ⟨wt_650, List.forall_mem_cons.mpr ⟨wt_651, List.forall_mem_cons.mpr ⟨wt_652, List.forall_mem_cons.mpr ⟨wt_653, List.forall_mem_cons.mpr ⟨wt_654, List.forall_mem_cons.mpr ⟨wt_655, List.forall_mem_cons.mpr ⟨wt_656, List.forall_mem_cons.mpr ⟨wt_657, List.forall_mem_cons.mpr ⟨wt_658, List.forall_mem_cons.mpr ⟨wt_659, List.forall_mem_cons.mpr ⟨wt_660, List.forall_mem_cons.mpr ⟨wt_661, List.forall_mem_cons.mpr ⟨wt_662, List.forall_mem_cons.mpr ⟨wt_663, List.forall_mem_cons.mpr ⟨wt_664, List.forall_mem_cons.mpr ⟨wt_665, List.forall_mem_cons.mpr ⟨wt_666, List.forall_mem_cons.mpr ⟨wt_667, List.forall_mem_cons.mpr ⟨wt_668, List.forall_mem_cons.mpr ⟨wt_669, List.forall_mem_cons.mpr ⟨wt_670, List.forall_mem_cons.mpr ⟨wt_671, List.forall_mem_cons.mpr ⟨wt_672, List.forall_mem_cons.mpr ⟨wt_673, List.forall_mem_cons.mpr ⟨wt_674, List.forall_mem_cons.mpr ⟨wt_675, List.forall_mem_cons.mpr ⟨wt_676, List.forall_mem_cons.mpr ⟨wt_677, List.forall_mem_cons.mpr ⟨wt_678, List.forall_mem_cons.mpr ⟨wt_679, fun _ h => absurd h List.not_mem_nil⟩⟩⟩⟩⟩⟩⟩⟩⟩⟩⟩⟩⟩⟩⟩⟩⟩⟩⟩⟩⟩⟩⟩⟩⟩⟩⟩⟩⟩⟩⟩⟩⟩⟩⟩⟩⟩⟩⟩⟩
theorem wA_t17 : ∀ w ∈ wA_17, w ∈ lw_tbl := List.forall_mem_cons.mpr ⟨wt_680, List.forall_mem_cons.mpr ⟨wt_681, List.forall_mem_cons.mpr ⟨wt_682, List.forall_mem_cons.mpr ⟨wt_683, List.forall_mem_cons.mpr ⟨wt_684, List.forall_mem_cons.mpr ⟨wt_685, List.forall_mem_cons.mpr ⟨wt_686, List.forall_mem_cons.mpr ⟨wt_687, List.forall_mem_cons.mpr ⟨wt_688, List.forall_mem_cons.mpr ⟨wt_689, List.forall_mem_cons.mpr ⟨wt_690, List.forall_mem_cons.mpr ⟨wt_691, List.forall_mem_cons.mpr ⟨wt_692, List.forall_mem_cons.mpr ⟨wt_693, List.forall_mem_cons.mpr ⟨wt_694, List.forall_mem_cons.mpr ⟨wt_695, fun _ h => absurd h List.not_mem_nil⟩⟩⟩⟩⟩⟩⟩⟩⟩⟩⟩⟩⟩⟩⟩⟩
theorem wA_tbl : ∀ w ∈ wA, w ∈ lw_tbl := (List.forall_mem_append.mpr ⟨wA_t0, (List.forall_mem_append.mpr ⟨wA_t1, (List.forall_mem_append.mpr ⟨wA_t2, (List.forall_mem_append.mpr ⟨wA_t3, (List.forall_mem_append.mpr ⟨wA_t4, (List.forall_mem_append.mpr ⟨wA_t5, (List.forall_mem_append.mpr ⟨wA_t6, (List.forall_mem_append.mpr ⟨wA_t7, (List.forall_mem_append.mpr ⟨wA_t8, (List.forall_mem_append.mpr ⟨wA_t9, (List.forall_mem_append.mpr ⟨wA_t10, (List.forall_mem_append.mpr ⟨wA_t11, (List.forall_mem_append.mpr ⟨wA_t12, (List.forall_mem_append.mpr ⟨wA_t13, (List.forall_mem_append.mpr ⟨wA_t14, (List.forall_mem_append.mpr ⟨wA_t15, (List.forall_mem_append.mpr ⟨wA_t16, wA_t17⟩)⟩)⟩)⟩)⟩)⟩)⟩)⟩)⟩)⟩)⟩)⟩)⟩)⟩)⟩)⟩)⟩)
theorem wA_good : wA.all goodWord = true := by decide +kernel
theorem inP : ∀ w ∈ u_ws rP tP 3, w ∈ wA := by
  intro w h
  obtain ⟨k, hk, rfl⟩ := List.mem_map.mp h
  have hk := List.mem_range.mp hk
  match k, hk with
  | 0, _ => exact wi_35
  | 1, _ => exact wi_37
  | 2, _ => exact wi_39
  | n + 3, h => exact absurd h (by omega)
theorem inA : ∀ w ∈ u_ws rA tA 3, w ∈ wA := by
  intro w h
  obtain ⟨k, hk, rfl⟩ := List.mem_map.mp h
  have hk := List.mem_range.mp hk
  match k, hk with
  | 0, _ => exact wi_262
  | 1, _ => exact wi_264
  | 2, _ => exact wi_266
  | n + 3, h => exact absurd h (by omega)
theorem inM : ∀ w ∈ u_ws rM tM 2, w ∈ wA := by
  intro w h
  obtain ⟨k, hk, rfl⟩ := List.mem_map.mp h
  have hk := List.mem_range.mp hk
  match k, hk with
  | 0, _ => exact wi_51
  | 1, _ => exact wi_53
  | n + 2, h => exact absurd h (by omega)
theorem inW : ∀ w ∈ u_ws rW tW 8, w ∈ wA := by
  intro w h
  obtain ⟨k, hk, rfl⟩ := List.mem_map.mp h
  have hk := List.mem_range.mp hk
  match k, hk with
  | 0, _ => exact wi_69
  | 1, _ => exact wi_71
  | 2, _ => exact wi_73
  | 3, _ => exact wi_75
  | 4, _ => exact wi_77
  | 5, _ => exact wi_79
  | 6, _ => exact wi_81
  | 7, _ => exact wi_83
  | n + 8, h => exact absurd h (by omega)
theorem inS : ∀ w ∈ u_ws rS tS 11, w ∈ wA := by
  intro w h
  obtain ⟨k, hk, rfl⟩ := List.mem_map.mp h
  have hk := List.mem_range.mp hk
  match k, hk with
  | 0, _ => exact wi_97
  | 1, _ => exact wi_99
  | 2, _ => exact wi_101
  | 3, _ => exact wi_103
  | 4, _ => exact wi_105
  | 5, _ => exact wi_107
  | 6, _ => exact wi_109
  | 7, _ => exact wi_111
  | 8, _ => exact wi_113
  | 9, _ => exact wi_115
  | 10, _ => exact wi_117
  | n + 11, h => exact absurd h (by omega)
theorem inD : ∀ w ∈ u_ws rD tD 27, w ∈ wA := by
  intro w h
  obtain ⟨k, hk, rfl⟩ := List.mem_map.mp h
  have hk := List.mem_range.mp hk
  match k, hk with
  | 0, _ => exact wi_515
  | 1, _ => exact wi_517
  | 2, _ => exact wi_519
  | 3, _ => exact wi_521
  | 4, _ => exact wi_523
  | 5, _ => exact wi_525
  | 6, _ => exact wi_527
  | 7, _ => exact wi_529
  | 8, _ => exact wi_531
  | 9, _ => exact wi_533
  | 10, _ => exact wi_535
  | 11, _ => exact wi_537
  | 12, _ => exact wi_539
  | 13, _ => exact wi_541
  | 14, _ => exact wi_543
  | 15, _ => exact wi_545
  | 16, _ => exact wi_547
  | 17, _ => exact wi_549
  | 18, _ => exact wi_551
  | 19, _ => exact wi_553
  | 20, _ => exact wi_555
  | 21, _ => exact wi_557
  | 22, _ => exact wi_559
  | 23, _ => exact wi_561
  | 24, _ => exact wi_563
  | 25, _ => exact wi_565
  | 26, _ => exact wi_567
  | n + 27, h => exact absurd h (by omega)
end
section
-- decode rows, a row an instruction (by wip/gen/names.py)
theorem dP_init_0 : decode cP_init 0 = .ok (.aload_n 0, 1) := by decide +kernel
theorem dP_init_1 : decode cP_init 1 = .ok (.invokespecial 3, 3) := by decide +kernel
theorem dP_init_4 : decode cP_init 4 = .ok (.aload_n 0, 1) := by decide +kernel
theorem dP_init_5 : decode cP_init 5 = .ok (.bipush 48, 2) := by decide +kernel
theorem dP_init_7 : decode cP_init 7 = .ok (.newarray .int, 2) := by decide +kernel
theorem dP_init_9 : decode cP_init 9 = .ok (.putfield 9, 3) := by decide +kernel
theorem dP_init_12 : decode cP_init 12 = .ok (.aload_n 0, 1) := by decide +kernel
theorem dP_init_13 : decode cP_init 13 = .ok (.bipush 48, 2) := by decide +kernel
theorem dP_init_15 : decode cP_init 15 = .ok (.newarray .int, 2) := by decide +kernel
theorem dP_init_17 : decode cP_init 17 = .ok (.putfield 15, 3) := by decide +kernel
theorem dP_init_20 : decode cP_init 20 = .ok (.return_, 1) := by decide +kernel
theorem dP_length_0 : decode cP_length 0 = .ok (.aload_n 0, 1) := by decide +kernel
theorem dP_length_1 : decode cP_length 1 = .ok (.getfield 18, 3) := by decide +kernel
theorem dP_length_4 : decode cP_length 4 = .ok (.ireturn, 1) := by decide +kernel
theorem dP_isFull_0 : decode cP_isFull 0 = .ok (.aload_n 0, 1) := by decide +kernel
theorem dP_isFull_1 : decode cP_isFull 1 = .ok (.getfield 18, 3) := by decide +kernel
theorem dP_isFull_4 : decode cP_isFull 4 = .ok (.bipush 48, 2) := by decide +kernel
theorem dP_isFull_6 : decode cP_isFull 6 = .ok (.if_icmp .lt 7, 3) := by decide +kernel
theorem dP_isFull_9 : decode cP_isFull 9 = .ok (.iconst 1, 1) := by decide +kernel
theorem dP_isFull_10 : decode cP_isFull 10 = .ok (.goto 4, 3) := by decide +kernel
theorem dP_isFull_13 : decode cP_isFull 13 = .ok (.iconst 0, 1) := by decide +kernel
theorem dP_isFull_14 : decode cP_isFull 14 = .ok (.ireturn, 1) := by decide +kernel
theorem dP_has_0 : decode cP_has 0 = .ok (.iload_n 1, 1) := by decide +kernel
theorem dP_has_1 : decode cP_has 1 = .ok (.ifCond .lt 21, 3) := by decide +kernel
theorem dP_has_4 : decode cP_has 4 = .ok (.iload_n 1, 1) := by decide +kernel
theorem dP_has_5 : decode cP_has 5 = .ok (.aload_n 0, 1) := by decide +kernel
theorem dP_has_6 : decode cP_has 6 = .ok (.getfield 18, 3) := by decide +kernel
theorem dP_has_9 : decode cP_has 9 = .ok (.if_icmp .ge 13, 3) := by decide +kernel
theorem dP_has_12 : decode cP_has 12 = .ok (.iload_n 1, 1) := by decide +kernel
theorem dP_has_13 : decode cP_has 13 = .ok (.bipush 48, 2) := by decide +kernel
theorem dP_has_15 : decode cP_has 15 = .ok (.if_icmp .ge 7, 3) := by decide +kernel
theorem dP_has_18 : decode cP_has 18 = .ok (.iconst 1, 1) := by decide +kernel
theorem dP_has_19 : decode cP_has 19 = .ok (.goto 4, 3) := by decide +kernel
theorem dP_has_22 : decode cP_has 22 = .ok (.iconst 0, 1) := by decide +kernel
theorem dP_has_23 : decode cP_has 23 = .ok (.ireturn, 1) := by decide +kernel
theorem dP_word_0 : decode cP_word 0 = .ok (.aload_n 0, 1) := by decide +kernel
theorem dP_word_1 : decode cP_word 1 = .ok (.iload_n 1, 1) := by decide +kernel
theorem dP_word_2 : decode cP_word 2 = .ok (.invokevirtual 22, 3) := by decide +kernel
theorem dP_word_5 : decode cP_word 5 = .ok (.ifCond .eq 12, 3) := by decide +kernel
theorem dP_word_8 : decode cP_word 8 = .ok (.aload_n 0, 1) := by decide +kernel
theorem dP_word_9 : decode cP_word 9 = .ok (.getfield 9, 3) := by decide +kernel
theorem dP_word_12 : decode cP_word 12 = .ok (.iload_n 1, 1) := by decide +kernel
theorem dP_word_13 : decode cP_word 13 = .ok (.iaload, 1) := by decide +kernel
theorem dP_word_14 : decode cP_word 14 = .ok (.goto 4, 3) := by decide +kernel
theorem dP_word_17 : decode cP_word 17 = .ok (.iconst 0, 1) := by decide +kernel
theorem dP_word_18 : decode cP_word 18 = .ok (.ireturn, 1) := by decide +kernel
theorem dP_origin_0 : decode cP_origin 0 = .ok (.aload_n 0, 1) := by decide +kernel
theorem dP_origin_1 : decode cP_origin 1 = .ok (.iload_n 1, 1) := by decide +kernel
theorem dP_origin_2 : decode cP_origin 2 = .ok (.invokevirtual 22, 3) := by decide +kernel
theorem dP_origin_5 : decode cP_origin 5 = .ok (.ifCond .eq 12, 3) := by decide +kernel
theorem dP_origin_8 : decode cP_origin 8 = .ok (.aload_n 0, 1) := by decide +kernel
theorem dP_origin_9 : decode cP_origin 9 = .ok (.getfield 15, 3) := by decide +kernel
theorem dP_origin_12 : decode cP_origin 12 = .ok (.iload_n 1, 1) := by decide +kernel
theorem dP_origin_13 : decode cP_origin 13 = .ok (.iaload, 1) := by decide +kernel
theorem dP_origin_14 : decode cP_origin 14 = .ok (.goto 4, 3) := by decide +kernel
theorem dP_origin_17 : decode cP_origin 17 = .ok (.iconst (-1), 1) := by decide +kernel
theorem dP_origin_18 : decode cP_origin 18 = .ok (.ireturn, 1) := by decide +kernel
theorem dP_clear_0 : decode cP_clear 0 = .ok (.aload_n 0, 1) := by decide +kernel
theorem dP_clear_1 : decode cP_clear 1 = .ok (.iconst 0, 1) := by decide +kernel
theorem dP_clear_2 : decode cP_clear 2 = .ok (.putfield 18, 3) := by decide +kernel
theorem dP_clear_5 : decode cP_clear 5 = .ok (.return_, 1) := by decide +kernel
theorem dP_append_0 : decode cP_append 0 = .ok (.aload_n 0, 1) := by decide +kernel
theorem dP_append_1 : decode cP_append 1 = .ok (.getfield 18, 3) := by decide +kernel
theorem dP_append_4 : decode cP_append 4 = .ok (.ifCond .lt 45, 3) := by decide +kernel
theorem dP_append_7 : decode cP_append 7 = .ok (.aload_n 0, 1) := by decide +kernel
theorem dP_append_8 : decode cP_append 8 = .ok (.getfield 18, 3) := by decide +kernel
theorem dP_append_11 : decode cP_append 11 = .ok (.bipush 48, 2) := by decide +kernel
theorem dP_append_13 : decode cP_append 13 = .ok (.if_icmp .ge 36, 3) := by decide +kernel
theorem dP_append_16 : decode cP_append 16 = .ok (.aload_n 0, 1) := by decide +kernel
theorem dP_append_17 : decode cP_append 17 = .ok (.getfield 9, 3) := by decide +kernel
theorem dP_append_20 : decode cP_append 20 = .ok (.aload_n 0, 1) := by decide +kernel
theorem dP_append_21 : decode cP_append 21 = .ok (.getfield 18, 3) := by decide +kernel
theorem dP_append_24 : decode cP_append 24 = .ok (.iload_n 1, 1) := by decide +kernel
theorem dP_append_25 : decode cP_append 25 = .ok (.iastore, 1) := by decide +kernel
theorem dP_append_26 : decode cP_append 26 = .ok (.aload_n 0, 1) := by decide +kernel
theorem dP_append_27 : decode cP_append 27 = .ok (.getfield 15, 3) := by decide +kernel
theorem dP_append_30 : decode cP_append 30 = .ok (.aload_n 0, 1) := by decide +kernel
theorem dP_append_31 : decode cP_append 31 = .ok (.getfield 18, 3) := by decide +kernel
theorem dP_append_34 : decode cP_append 34 = .ok (.aload_n 0, 1) := by decide +kernel
theorem dP_append_35 : decode cP_append 35 = .ok (.getfield 18, 3) := by decide +kernel
theorem dP_append_38 : decode cP_append 38 = .ok (.iastore, 1) := by decide +kernel
theorem dP_append_39 : decode cP_append 39 = .ok (.aload_n 0, 1) := by decide +kernel
theorem dP_append_40 : decode cP_append 40 = .ok (.dup, 1) := by decide +kernel
theorem dP_append_41 : decode cP_append 41 = .ok (.getfield 18, 3) := by decide +kernel
theorem dP_append_44 : decode cP_append 44 = .ok (.iconst 1, 1) := by decide +kernel
theorem dP_append_45 : decode cP_append 45 = .ok (.iadd, 1) := by decide +kernel
theorem dP_append_46 : decode cP_append 46 = .ok (.putfield 18, 3) := by decide +kernel
theorem dP_append_49 : decode cP_append 49 = .ok (.return_, 1) := by decide +kernel
theorem dP_copy_0 : decode cP_copy 0 = .ok (.aload_n 1, 1) := by decide +kernel
theorem dP_copy_1 : decode cP_copy 1 = .ok (.getfield 18, 3) := by decide +kernel
theorem dP_copy_4 : decode cP_copy 4 = .ok (.bipush 48, 2) := by decide +kernel
theorem dP_copy_6 : decode cP_copy 6 = .ok (.invokestatic 26, 3) := by decide +kernel
theorem dP_copy_9 : decode cP_copy 9 = .ok (.istore_n 2, 1) := by decide +kernel
theorem dP_copy_10 : decode cP_copy 10 = .ok (.iconst 0, 1) := by decide +kernel
theorem dP_copy_11 : decode cP_copy 11 = .ok (.istore_n 3, 1) := by decide +kernel
theorem dP_copy_12 : decode cP_copy 12 = .ok (.iload_n 3, 1) := by decide +kernel
theorem dP_copy_13 : decode cP_copy 13 = .ok (.iload_n 2, 1) := by decide +kernel
theorem dP_copy_14 : decode cP_copy 14 = .ok (.if_icmp .ge 33, 3) := by decide +kernel
theorem dP_copy_17 : decode cP_copy 17 = .ok (.aload_n 0, 1) := by decide +kernel
theorem dP_copy_18 : decode cP_copy 18 = .ok (.getfield 9, 3) := by decide +kernel
theorem dP_copy_21 : decode cP_copy 21 = .ok (.iload_n 3, 1) := by decide +kernel
theorem dP_copy_22 : decode cP_copy 22 = .ok (.aload_n 1, 1) := by decide +kernel
theorem dP_copy_23 : decode cP_copy 23 = .ok (.getfield 9, 3) := by decide +kernel
theorem dP_copy_26 : decode cP_copy 26 = .ok (.iload_n 3, 1) := by decide +kernel
theorem dP_copy_27 : decode cP_copy 27 = .ok (.iaload, 1) := by decide +kernel
theorem dP_copy_28 : decode cP_copy 28 = .ok (.iastore, 1) := by decide +kernel
theorem dP_copy_29 : decode cP_copy 29 = .ok (.aload_n 0, 1) := by decide +kernel
theorem dP_copy_30 : decode cP_copy 30 = .ok (.getfield 15, 3) := by decide +kernel
theorem dP_copy_33 : decode cP_copy 33 = .ok (.iload_n 3, 1) := by decide +kernel
theorem dP_copy_34 : decode cP_copy 34 = .ok (.aload_n 1, 1) := by decide +kernel
theorem dP_copy_35 : decode cP_copy 35 = .ok (.getfield 15, 3) := by decide +kernel
theorem dP_copy_38 : decode cP_copy 38 = .ok (.iload_n 3, 1) := by decide +kernel
theorem dP_copy_39 : decode cP_copy 39 = .ok (.iaload, 1) := by decide +kernel
theorem dP_copy_40 : decode cP_copy 40 = .ok (.iastore, 1) := by decide +kernel
theorem dP_copy_41 : decode cP_copy 41 = .ok (.iinc 3 1, 3) := by decide +kernel
theorem dP_copy_44 : decode cP_copy 44 = .ok (.goto (-32), 3) := by decide +kernel
theorem dP_copy_47 : decode cP_copy 47 = .ok (.aload_n 0, 1) := by decide +kernel
theorem dP_copy_48 : decode cP_copy 48 = .ok (.iload_n 2, 1) := by decide +kernel
theorem dP_copy_49 : decode cP_copy 49 = .ok (.putfield 18, 3) := by decide +kernel
theorem dP_copy_52 : decode cP_copy 52 = .ok (.return_, 1) := by decide +kernel
theorem dP_leaveOut_0 : decode cP_leaveOut 0 = .ok (.aload_n 0, 1) := by decide +kernel
theorem dP_leaveOut_1 : decode cP_leaveOut 1 = .ok (.iload_n 1, 1) := by decide +kernel
theorem dP_leaveOut_2 : decode cP_leaveOut 2 = .ok (.invokevirtual 22, 3) := by decide +kernel
theorem dP_leaveOut_5 : decode cP_leaveOut 5 = .ok (.ifCond .eq 8, 3) := by decide +kernel
theorem dP_leaveOut_8 : decode cP_leaveOut 8 = .ok (.iload_n 2, 1) := by decide +kernel
theorem dP_leaveOut_9 : decode cP_leaveOut 9 = .ok (.iconst 1, 1) := by decide +kernel
theorem dP_leaveOut_10 : decode cP_leaveOut 10 = .ok (.if_icmp .ge 4, 3) := by decide +kernel
theorem dP_leaveOut_13 : decode cP_leaveOut 13 = .ok (.return_, 1) := by decide +kernel
theorem dP_leaveOut_14 : decode cP_leaveOut 14 = .ok (.iload_n 1, 1) := by decide +kernel
theorem dP_leaveOut_15 : decode cP_leaveOut 15 = .ok (.istore_n 3, 1) := by decide +kernel
theorem dP_leaveOut_16 : decode cP_leaveOut 16 = .ok (.iload_n 1, 1) := by decide +kernel
theorem dP_leaveOut_17 : decode cP_leaveOut 17 = .ok (.istore 4, 2) := by decide +kernel
theorem dP_leaveOut_19 : decode cP_leaveOut 19 = .ok (.iload 4, 2) := by decide +kernel
theorem dP_leaveOut_21 : decode cP_leaveOut 21 = .ok (.aload_n 0, 1) := by decide +kernel
theorem dP_leaveOut_22 : decode cP_leaveOut 22 = .ok (.getfield 18, 3) := by decide +kernel
theorem dP_leaveOut_25 : decode cP_leaveOut 25 = .ok (.if_icmp .ge 53, 3) := by decide +kernel
theorem dP_leaveOut_28 : decode cP_leaveOut 28 = .ok (.iload 4, 2) := by decide +kernel
theorem dP_leaveOut_30 : decode cP_leaveOut 30 = .ok (.bipush 48, 2) := by decide +kernel
theorem dP_leaveOut_32 : decode cP_leaveOut 32 = .ok (.if_icmp .ge 46, 3) := by decide +kernel
theorem dP_leaveOut_35 : decode cP_leaveOut 35 = .ok (.iload 4, 2) := by decide +kernel
theorem dP_leaveOut_37 : decode cP_leaveOut 37 = .ok (.iload_n 1, 1) := by decide +kernel
theorem dP_leaveOut_38 : decode cP_leaveOut 38 = .ok (.isub, 1) := by decide +kernel
theorem dP_leaveOut_39 : decode cP_leaveOut 39 = .ok (.iload_n 2, 1) := by decide +kernel
theorem dP_leaveOut_40 : decode cP_leaveOut 40 = .ok (.if_icmp .lt 32, 3) := by decide +kernel
theorem dP_leaveOut_43 : decode cP_leaveOut 43 = .ok (.aload_n 0, 1) := by decide +kernel
theorem dP_leaveOut_44 : decode cP_leaveOut 44 = .ok (.getfield 9, 3) := by decide +kernel
theorem dP_leaveOut_47 : decode cP_leaveOut 47 = .ok (.iload_n 3, 1) := by decide +kernel
theorem dP_leaveOut_48 : decode cP_leaveOut 48 = .ok (.aload_n 0, 1) := by decide +kernel
theorem dP_leaveOut_49 : decode cP_leaveOut 49 = .ok (.getfield 9, 3) := by decide +kernel
theorem dP_leaveOut_52 : decode cP_leaveOut 52 = .ok (.iload 4, 2) := by decide +kernel
theorem dP_leaveOut_54 : decode cP_leaveOut 54 = .ok (.iaload, 1) := by decide +kernel
theorem dP_leaveOut_55 : decode cP_leaveOut 55 = .ok (.iastore, 1) := by decide +kernel
theorem dP_leaveOut_56 : decode cP_leaveOut 56 = .ok (.aload_n 0, 1) := by decide +kernel
theorem dP_leaveOut_57 : decode cP_leaveOut 57 = .ok (.getfield 15, 3) := by decide +kernel
theorem dP_leaveOut_60 : decode cP_leaveOut 60 = .ok (.iload_n 3, 1) := by decide +kernel
theorem dP_leaveOut_61 : decode cP_leaveOut 61 = .ok (.aload_n 0, 1) := by decide +kernel
theorem dP_leaveOut_62 : decode cP_leaveOut 62 = .ok (.getfield 15, 3) := by decide +kernel
theorem dP_leaveOut_65 : decode cP_leaveOut 65 = .ok (.iload 4, 2) := by decide +kernel
theorem dP_leaveOut_67 : decode cP_leaveOut 67 = .ok (.iaload, 1) := by decide +kernel
theorem dP_leaveOut_68 : decode cP_leaveOut 68 = .ok (.iastore, 1) := by decide +kernel
theorem dP_leaveOut_69 : decode cP_leaveOut 69 = .ok (.iinc 3 1, 3) := by decide +kernel
theorem dP_leaveOut_72 : decode cP_leaveOut 72 = .ok (.iinc 4 1, 3) := by decide +kernel
theorem dP_leaveOut_75 : decode cP_leaveOut 75 = .ok (.goto (-56), 3) := by decide +kernel
theorem dP_leaveOut_78 : decode cP_leaveOut 78 = .ok (.aload_n 0, 1) := by decide +kernel
theorem dP_leaveOut_79 : decode cP_leaveOut 79 = .ok (.iload_n 3, 1) := by decide +kernel
theorem dP_leaveOut_80 : decode cP_leaveOut 80 = .ok (.putfield 18, 3) := by decide +kernel
theorem dP_leaveOut_83 : decode cP_leaveOut 83 = .ok (.return_, 1) := by decide +kernel
theorem dP_byteOf_0 : decode cP_byteOf 0 = .ok (.aload_n 0, 1) := by decide +kernel
theorem dP_byteOf_1 : decode cP_byteOf 1 = .ok (.iload_n 1, 1) := by decide +kernel
theorem dP_byteOf_2 : decode cP_byteOf 2 = .ok (.invokevirtual 32, 3) := by decide +kernel
theorem dP_byteOf_5 : decode cP_byteOf 5 = .ok (.iload_n 2, 1) := by decide +kernel
theorem dP_byteOf_6 : decode cP_byteOf 6 = .ok (.invokestatic 36, 3) := by decide +kernel
theorem dP_byteOf_9 : decode cP_byteOf 9 = .ok (.iushr, 1) := by decide +kernel
theorem dP_byteOf_10 : decode cP_byteOf 10 = .ok (.sipush 255, 3) := by decide +kernel
theorem dP_byteOf_13 : decode cP_byteOf 13 = .ok (.iand, 1) := by decide +kernel
theorem dP_byteOf_14 : decode cP_byteOf 14 = .ok (.ireturn, 1) := by decide +kernel
theorem dP_setByte_0 : decode cP_setByte 0 = .ok (.aload_n 0, 1) := by decide +kernel
theorem dP_setByte_1 : decode cP_setByte 1 = .ok (.iload_n 1, 1) := by decide +kernel
theorem dP_setByte_2 : decode cP_setByte 2 = .ok (.invokevirtual 22, 3) := by decide +kernel
theorem dP_setByte_5 : decode cP_setByte 5 = .ok (.ifCond .eq 41, 3) := by decide +kernel
theorem dP_setByte_8 : decode cP_setByte 8 = .ok (.aload_n 0, 1) := by decide +kernel
theorem dP_setByte_9 : decode cP_setByte 9 = .ok (.getfield 9, 3) := by decide +kernel
theorem dP_setByte_12 : decode cP_setByte 12 = .ok (.iload_n 1, 1) := by decide +kernel
theorem dP_setByte_13 : decode cP_setByte 13 = .ok (.iaload, 1) := by decide +kernel
theorem dP_setByte_14 : decode cP_setByte 14 = .ok (.sipush 255, 3) := by decide +kernel
theorem dP_setByte_17 : decode cP_setByte 17 = .ok (.iload_n 2, 1) := by decide +kernel
theorem dP_setByte_18 : decode cP_setByte 18 = .ok (.invokestatic 36, 3) := by decide +kernel
theorem dP_setByte_21 : decode cP_setByte 21 = .ok (.ishl, 1) := by decide +kernel
theorem dP_setByte_22 : decode cP_setByte 22 = .ok (.iconst (-1), 1) := by decide +kernel
theorem dP_setByte_23 : decode cP_setByte 23 = .ok (.ixor, 1) := by decide +kernel
theorem dP_setByte_24 : decode cP_setByte 24 = .ok (.iand, 1) := by decide +kernel
theorem dP_setByte_25 : decode cP_setByte 25 = .ok (.istore 4, 2) := by decide +kernel
theorem dP_setByte_27 : decode cP_setByte 27 = .ok (.aload_n 0, 1) := by decide +kernel
theorem dP_setByte_28 : decode cP_setByte 28 = .ok (.getfield 9, 3) := by decide +kernel
theorem dP_setByte_31 : decode cP_setByte 31 = .ok (.iload_n 1, 1) := by decide +kernel
theorem dP_setByte_32 : decode cP_setByte 32 = .ok (.iload 4, 2) := by decide +kernel
theorem dP_setByte_34 : decode cP_setByte 34 = .ok (.iload_n 3, 1) := by decide +kernel
theorem dP_setByte_35 : decode cP_setByte 35 = .ok (.sipush 255, 3) := by decide +kernel
theorem dP_setByte_38 : decode cP_setByte 38 = .ok (.iand, 1) := by decide +kernel
theorem dP_setByte_39 : decode cP_setByte 39 = .ok (.iload_n 2, 1) := by decide +kernel
theorem dP_setByte_40 : decode cP_setByte 40 = .ok (.invokestatic 36, 3) := by decide +kernel
theorem dP_setByte_43 : decode cP_setByte 43 = .ok (.ishl, 1) := by decide +kernel
theorem dP_setByte_44 : decode cP_setByte 44 = .ok (.ior, 1) := by decide +kernel
theorem dP_setByte_45 : decode cP_setByte 45 = .ok (.iastore, 1) := by decide +kernel
theorem dP_setByte_46 : decode cP_setByte 46 = .ok (.return_, 1) := by decide +kernel
theorem dP_shift_0 : decode cP_shift 0 = .ok (.bipush 8, 2) := by decide +kernel
theorem dP_shift_2 : decode cP_shift 2 = .ok (.iconst 3, 1) := by decide +kernel
theorem dP_shift_3 : decode cP_shift 3 = .ok (.iload_n 0, 1) := by decide +kernel
theorem dP_shift_4 : decode cP_shift 4 = .ok (.isub, 1) := by decide +kernel
theorem dP_shift_5 : decode cP_shift 5 = .ok (.imul, 1) := by decide +kernel
theorem dP_shift_6 : decode cP_shift 6 = .ok (.ireturn, 1) := by decide +kernel
theorem dP_hasSameWords_0 : decode cP_hasSameWords 0 = .ok (.aload_n 0, 1) := by decide +kernel
theorem dP_hasSameWords_1 : decode cP_hasSameWords 1 = .ok (.getfield 18, 3) := by decide +kernel
theorem dP_hasSameWords_4 : decode cP_hasSameWords 4 = .ok (.aload_n 1, 1) := by decide +kernel
theorem dP_hasSameWords_5 : decode cP_hasSameWords 5 = .ok (.getfield 18, 3) := by decide +kernel
theorem dP_hasSameWords_8 : decode cP_hasSameWords 8 = .ok (.if_icmp .eq 5, 3) := by decide +kernel
theorem dP_hasSameWords_11 : decode cP_hasSameWords 11 = .ok (.iconst 0, 1) := by decide +kernel
theorem dP_hasSameWords_12 : decode cP_hasSameWords 12 = .ok (.ireturn, 1) := by decide +kernel
theorem dP_hasSameWords_13 : decode cP_hasSameWords 13 = .ok (.iconst 0, 1) := by decide +kernel
theorem dP_hasSameWords_14 : decode cP_hasSameWords 14 = .ok (.istore_n 2, 1) := by decide +kernel
theorem dP_hasSameWords_15 : decode cP_hasSameWords 15 = .ok (.iload_n 2, 1) := by decide +kernel
theorem dP_hasSameWords_16 : decode cP_hasSameWords 16 = .ok (.aload_n 0, 1) := by decide +kernel
theorem dP_hasSameWords_17 : decode cP_hasSameWords 17 = .ok (.getfield 18, 3) := by decide +kernel
theorem dP_hasSameWords_20 : decode cP_hasSameWords 20 = .ok (.if_icmp .ge 32, 3) := by decide +kernel
theorem dP_hasSameWords_23 : decode cP_hasSameWords 23 = .ok (.iload_n 2, 1) := by decide +kernel
theorem dP_hasSameWords_24 : decode cP_hasSameWords 24 = .ok (.bipush 48, 2) := by decide +kernel
theorem dP_hasSameWords_26 : decode cP_hasSameWords 26 = .ok (.if_icmp .ge 26, 3) := by decide +kernel
theorem dP_hasSameWords_29 : decode cP_hasSameWords 29 = .ok (.aload_n 0, 1) := by decide +kernel
theorem dP_hasSameWords_30 : decode cP_hasSameWords 30 = .ok (.getfield 9, 3) := by decide +kernel
theorem dP_hasSameWords_33 : decode cP_hasSameWords 33 = .ok (.iload_n 2, 1) := by decide +kernel
theorem dP_hasSameWords_34 : decode cP_hasSameWords 34 = .ok (.iaload, 1) := by decide +kernel
theorem dP_hasSameWords_35 : decode cP_hasSameWords 35 = .ok (.aload_n 1, 1) := by decide +kernel
theorem dP_hasSameWords_36 : decode cP_hasSameWords 36 = .ok (.getfield 9, 3) := by decide +kernel
theorem dP_hasSameWords_39 : decode cP_hasSameWords 39 = .ok (.iload_n 2, 1) := by decide +kernel
theorem dP_hasSameWords_40 : decode cP_hasSameWords 40 = .ok (.iaload, 1) := by decide +kernel
theorem dP_hasSameWords_41 : decode cP_hasSameWords 41 = .ok (.if_icmp .eq 5, 3) := by decide +kernel
theorem dP_hasSameWords_44 : decode cP_hasSameWords 44 = .ok (.iconst 0, 1) := by decide +kernel
theorem dP_hasSameWords_45 : decode cP_hasSameWords 45 = .ok (.ireturn, 1) := by decide +kernel
theorem dP_hasSameWords_46 : decode cP_hasSameWords 46 = .ok (.iinc 2 1, 3) := by decide +kernel
theorem dP_hasSameWords_49 : decode cP_hasSameWords 49 = .ok (.goto (-34), 3) := by decide +kernel
theorem dP_hasSameWords_52 : decode cP_hasSameWords 52 = .ok (.iconst 1, 1) := by decide +kernel
theorem dP_hasSameWords_53 : decode cP_hasSameWords 53 = .ok (.ireturn, 1) := by decide +kernel
theorem dP_mark_0 : decode cP_mark 0 = .ok (.aload_n 0, 1) := by decide +kernel
theorem dP_mark_1 : decode cP_mark 1 = .ok (.getfield 18, 3) := by decide +kernel
theorem dP_mark_4 : decode cP_mark 4 = .ok (.istore_n 1, 1) := by decide +kernel
theorem dP_mark_5 : decode cP_mark 5 = .ok (.iconst 0, 1) := by decide +kernel
theorem dP_mark_6 : decode cP_mark 6 = .ok (.istore_n 2, 1) := by decide +kernel
theorem dP_mark_7 : decode cP_mark 7 = .ok (.iload_n 2, 1) := by decide +kernel
theorem dP_mark_8 : decode cP_mark 8 = .ok (.aload_n 0, 1) := by decide +kernel
theorem dP_mark_9 : decode cP_mark 9 = .ok (.getfield 18, 3) := by decide +kernel
theorem dP_mark_12 : decode cP_mark 12 = .ok (.if_icmp .ge 27, 3) := by decide +kernel
theorem dP_mark_15 : decode cP_mark 15 = .ok (.iload_n 2, 1) := by decide +kernel
theorem dP_mark_16 : decode cP_mark 16 = .ok (.bipush 48, 2) := by decide +kernel
theorem dP_mark_18 : decode cP_mark 18 = .ok (.if_icmp .ge 21, 3) := by decide +kernel
theorem dP_mark_21 : decode cP_mark 21 = .ok (.bipush 31, 2) := by decide +kernel
theorem dP_mark_23 : decode cP_mark 23 = .ok (.iload_n 1, 1) := by decide +kernel
theorem dP_mark_24 : decode cP_mark 24 = .ok (.imul, 1) := by decide +kernel
theorem dP_mark_25 : decode cP_mark 25 = .ok (.aload_n 0, 1) := by decide +kernel
theorem dP_mark_26 : decode cP_mark 26 = .ok (.getfield 9, 3) := by decide +kernel
theorem dP_mark_29 : decode cP_mark 29 = .ok (.iload_n 2, 1) := by decide +kernel
theorem dP_mark_30 : decode cP_mark 30 = .ok (.iaload, 1) := by decide +kernel
theorem dP_mark_31 : decode cP_mark 31 = .ok (.iadd, 1) := by decide +kernel
theorem dP_mark_32 : decode cP_mark 32 = .ok (.istore_n 1, 1) := by decide +kernel
theorem dP_mark_33 : decode cP_mark 33 = .ok (.iinc 2 1, 3) := by decide +kernel
theorem dP_mark_36 : decode cP_mark 36 = .ok (.goto (-29), 3) := by decide +kernel
theorem dP_mark_39 : decode cP_mark 39 = .ok (.iload_n 1, 1) := by decide +kernel
theorem dP_mark_40 : decode cP_mark 40 = .ok (.ireturn, 1) := by decide +kernel
theorem dA_init_0 : decode cA_init 0 = .ok (.aload_n 0, 1) := by decide +kernel
theorem dA_init_1 : decode cA_init 1 = .ok (.invokespecial 3, 3) := by decide +kernel
theorem dA_init_4 : decode cA_init 4 = .ok (.aload_n 0, 1) := by decide +kernel
theorem dA_init_5 : decode cA_init 5 = .ok (.new 9, 3) := by decide +kernel
theorem dA_init_8 : decode cA_init 8 = .ok (.dup, 1) := by decide +kernel
theorem dA_init_9 : decode cA_init 9 = .ok (.invokespecial 11, 3) := by decide +kernel
theorem dA_init_12 : decode cA_init 12 = .ok (.putfield 12, 3) := by decide +kernel
theorem dA_init_15 : decode cA_init 15 = .ok (.return_, 1) := by decide +kernel
theorem dA_program_0 : decode cA_program 0 = .ok (.aload_n 0, 1) := by decide +kernel
theorem dA_program_1 : decode cA_program 1 = .ok (.getfield 12, 3) := by decide +kernel
theorem dA_program_4 : decode cA_program 4 = .ok (.areturn, 1) := by decide +kernel
theorem dA_answer_0 : decode cA_answer 0 = .ok (.aload_n 0, 1) := by decide +kernel
theorem dA_answer_1 : decode cA_answer 1 = .ok (.getfield 18, 3) := by decide +kernel
theorem dA_answer_4 : decode cA_answer 4 = .ok (.ireturn, 1) := by decide +kernel
theorem dA_setAnswer_0 : decode cA_setAnswer 0 = .ok (.aload_n 0, 1) := by decide +kernel
theorem dA_setAnswer_1 : decode cA_setAnswer 1 = .ok (.iload_n 1, 1) := by decide +kernel
theorem dA_setAnswer_2 : decode cA_setAnswer 2 = .ok (.putfield 18, 3) := by decide +kernel
theorem dA_setAnswer_5 : decode cA_setAnswer 5 = .ok (.return_, 1) := by decide +kernel
theorem dA_open_0 : decode cA_open 0 = .ok (.aload_n 0, 1) := by decide +kernel
theorem dA_open_1 : decode cA_open 1 = .ok (.getfield 12, 3) := by decide +kernel
theorem dA_open_4 : decode cA_open 4 = .ok (.aload_n 1, 1) := by decide +kernel
theorem dA_open_5 : decode cA_open 5 = .ok (.invokevirtual 22, 3) := by decide +kernel
theorem dA_open_8 : decode cA_open 8 = .ok (.aload_n 0, 1) := by decide +kernel
theorem dA_open_9 : decode cA_open 9 = .ok (.aload_n 0, 1) := by decide +kernel
theorem dA_open_10 : decode cA_open 10 = .ok (.getfield 12, 3) := by decide +kernel
theorem dA_open_13 : decode cA_open 13 = .ok (.invokevirtual 26, 3) := by decide +kernel
theorem dA_open_16 : decode cA_open 16 = .ok (.putfield 30, 3) := by decide +kernel
theorem dA_open_19 : decode cA_open 19 = .ok (.aload_n 0, 1) := by decide +kernel
theorem dA_open_20 : decode cA_open 20 = .ok (.bipush (-2), 2) := by decide +kernel
theorem dA_open_22 : decode cA_open 22 = .ok (.putfield 18, 3) := by decide +kernel
theorem dA_open_25 : decode cA_open 25 = .ok (.return_, 1) := by decide +kernel
theorem dA_isOf_0 : decode cA_isOf 0 = .ok (.aload_n 0, 1) := by decide +kernel
theorem dA_isOf_1 : decode cA_isOf 1 = .ok (.getfield 30, 3) := by decide +kernel
theorem dA_isOf_4 : decode cA_isOf 4 = .ok (.iload_n 2, 1) := by decide +kernel
theorem dA_isOf_5 : decode cA_isOf 5 = .ok (.if_icmp .ne 18, 3) := by decide +kernel
theorem dA_isOf_8 : decode cA_isOf 8 = .ok (.aload_n 0, 1) := by decide +kernel
theorem dA_isOf_9 : decode cA_isOf 9 = .ok (.getfield 12, 3) := by decide +kernel
theorem dA_isOf_12 : decode cA_isOf 12 = .ok (.aload_n 1, 1) := by decide +kernel
theorem dA_isOf_13 : decode cA_isOf 13 = .ok (.invokevirtual 32, 3) := by decide +kernel
theorem dA_isOf_16 : decode cA_isOf 16 = .ok (.ifCond .eq 7, 3) := by decide +kernel
theorem dA_isOf_19 : decode cA_isOf 19 = .ok (.iconst 1, 1) := by decide +kernel
theorem dA_isOf_20 : decode cA_isOf 20 = .ok (.goto 4, 3) := by decide +kernel
theorem dA_isOf_23 : decode cA_isOf 23 = .ok (.iconst 0, 1) := by decide +kernel
theorem dA_isOf_24 : decode cA_isOf 24 = .ok (.ireturn, 1) := by decide +kernel
theorem dM_init_0 : decode cM_init 0 = .ok (.aload_n 0, 1) := by decide +kernel
theorem dM_init_1 : decode cM_init 1 = .ok (.invokespecial 3, 3) := by decide +kernel
theorem dM_init_4 : decode cM_init 4 = .ok (.aload_n 0, 1) := by decide +kernel
theorem dM_init_5 : decode cM_init 5 = .ok (.sipush 600, 3) := by decide +kernel
theorem dM_init_8 : decode cM_init 8 = .ok (.anewarray 9, 3) := by decide +kernel
theorem dM_init_11 : decode cM_init 11 = .ok (.putfield 11, 3) := by decide +kernel
theorem dM_init_14 : decode cM_init 14 = .ok (.return_, 1) := by decide +kernel
theorem dM_filled_0 : decode cM_filled 0 = .ok (.aload_n 0, 1) := by decide +kernel
theorem dM_filled_1 : decode cM_filled 1 = .ok (.getfield 17, 3) := by decide +kernel
theorem dM_filled_4 : decode cM_filled 4 = .ok (.ireturn, 1) := by decide +kernel
theorem dM_clear_0 : decode cM_clear 0 = .ok (.aload_n 0, 1) := by decide +kernel
theorem dM_clear_1 : decode cM_clear 1 = .ok (.iconst 0, 1) := by decide +kernel
theorem dM_clear_2 : decode cM_clear 2 = .ok (.putfield 17, 3) := by decide +kernel
theorem dM_clear_5 : decode cM_clear 5 = .ok (.return_, 1) := by decide +kernel
theorem dM_keep_0 : decode cM_keep 0 = .ok (.aload_n 0, 1) := by decide +kernel
theorem dM_keep_1 : decode cM_keep 1 = .ok (.getfield 17, 3) := by decide +kernel
theorem dM_keep_4 : decode cM_keep 4 = .ok (.ifCond .lt 13, 3) := by decide +kernel
theorem dM_keep_7 : decode cM_keep 7 = .ok (.aload_n 0, 1) := by decide +kernel
theorem dM_keep_8 : decode cM_keep 8 = .ok (.getfield 17, 3) := by decide +kernel
theorem dM_keep_11 : decode cM_keep 11 = .ok (.sipush 600, 3) := by decide +kernel
theorem dM_keep_14 : decode cM_keep 14 = .ok (.if_icmp .lt 4, 3) := by decide +kernel
theorem dM_keep_17 : decode cM_keep 17 = .ok (.return_, 1) := by decide +kernel
theorem dM_keep_18 : decode cM_keep 18 = .ok (.aload_n 0, 1) := by decide +kernel
theorem dM_keep_19 : decode cM_keep 19 = .ok (.getfield 11, 3) := by decide +kernel
theorem dM_keep_22 : decode cM_keep 22 = .ok (.aload_n 0, 1) := by decide +kernel
theorem dM_keep_23 : decode cM_keep 23 = .ok (.getfield 17, 3) := by decide +kernel
theorem dM_keep_26 : decode cM_keep 26 = .ok (.aaload, 1) := by decide +kernel
theorem dM_keep_27 : decode cM_keep 27 = .ok (.astore_n 2, 1) := by decide +kernel
theorem dM_keep_28 : decode cM_keep 28 = .ok (.aload_n 2, 1) := by decide +kernel
theorem dM_keep_29 : decode cM_keep 29 = .ok (.ifnonnull 21, 3) := by decide +kernel
theorem dM_keep_32 : decode cM_keep 32 = .ok (.new 9, 3) := by decide +kernel
theorem dM_keep_35 : decode cM_keep 35 = .ok (.dup, 1) := by decide +kernel
theorem dM_keep_36 : decode cM_keep 36 = .ok (.invokespecial 21, 3) := by decide +kernel
theorem dM_keep_39 : decode cM_keep 39 = .ok (.astore_n 2, 1) := by decide +kernel
theorem dM_keep_40 : decode cM_keep 40 = .ok (.aload_n 0, 1) := by decide +kernel
theorem dM_keep_41 : decode cM_keep 41 = .ok (.getfield 11, 3) := by decide +kernel
theorem dM_keep_44 : decode cM_keep 44 = .ok (.aload_n 0, 1) := by decide +kernel
theorem dM_keep_45 : decode cM_keep 45 = .ok (.getfield 17, 3) := by decide +kernel
theorem dM_keep_48 : decode cM_keep 48 = .ok (.aload_n 2, 1) := by decide +kernel
theorem dM_keep_49 : decode cM_keep 49 = .ok (.aastore, 1) := by decide +kernel
theorem dM_keep_50 : decode cM_keep 50 = .ok (.aload_n 2, 1) := by decide +kernel
theorem dM_keep_51 : decode cM_keep 51 = .ok (.aload_n 1, 1) := by decide +kernel
theorem dM_keep_52 : decode cM_keep 52 = .ok (.invokevirtual 22, 3) := by decide +kernel
theorem dM_keep_55 : decode cM_keep 55 = .ok (.aload_n 0, 1) := by decide +kernel
theorem dM_keep_56 : decode cM_keep 56 = .ok (.dup, 1) := by decide +kernel
theorem dM_keep_57 : decode cM_keep 57 = .ok (.getfield 17, 3) := by decide +kernel
theorem dM_keep_60 : decode cM_keep 60 = .ok (.iconst 1, 1) := by decide +kernel
theorem dM_keep_61 : decode cM_keep 61 = .ok (.iadd, 1) := by decide +kernel
theorem dM_keep_62 : decode cM_keep 62 = .ok (.putfield 17, 3) := by decide +kernel
theorem dM_keep_65 : decode cM_keep 65 = .ok (.return_, 1) := by decide +kernel
theorem dM_last_0 : decode cM_last 0 = .ok (.aload_n 0, 1) := by decide +kernel
theorem dM_last_1 : decode cM_last 1 = .ok (.getfield 17, 3) := by decide +kernel
theorem dM_last_4 : decode cM_last 4 = .ok (.ifCond .le 27, 3) := by decide +kernel
theorem dM_last_7 : decode cM_last 7 = .ok (.aload_n 0, 1) := by decide +kernel
theorem dM_last_8 : decode cM_last 8 = .ok (.getfield 17, 3) := by decide +kernel
theorem dM_last_11 : decode cM_last 11 = .ok (.sipush 600, 3) := by decide +kernel
theorem dM_last_14 : decode cM_last 14 = .ok (.if_icmp .gt 17, 3) := by decide +kernel
theorem dM_last_17 : decode cM_last 17 = .ok (.aload_n 0, 1) := by decide +kernel
theorem dM_last_18 : decode cM_last 18 = .ok (.getfield 11, 3) := by decide +kernel
theorem dM_last_21 : decode cM_last 21 = .ok (.aload_n 0, 1) := by decide +kernel
theorem dM_last_22 : decode cM_last 22 = .ok (.getfield 17, 3) := by decide +kernel
theorem dM_last_25 : decode cM_last 25 = .ok (.iconst 1, 1) := by decide +kernel
theorem dM_last_26 : decode cM_last 26 = .ok (.isub, 1) := by decide +kernel
theorem dM_last_27 : decode cM_last 27 = .ok (.aaload, 1) := by decide +kernel
theorem dM_last_28 : decode cM_last 28 = .ok (.goto 4, 3) := by decide +kernel
theorem dM_last_31 : decode cM_last 31 = .ok (.aconst_null, 1) := by decide +kernel
theorem dM_last_32 : decode cM_last 32 = .ok (.areturn, 1) := by decide +kernel
theorem dM_find_0 : decode cM_find 0 = .ok (.aload_n 1, 1) := by decide +kernel
theorem dM_find_1 : decode cM_find 1 = .ok (.invokevirtual 26, 3) := by decide +kernel
theorem dM_find_4 : decode cM_find 4 = .ok (.istore_n 2, 1) := by decide +kernel
theorem dM_find_5 : decode cM_find 5 = .ok (.iconst 0, 1) := by decide +kernel
theorem dM_find_6 : decode cM_find 6 = .ok (.istore_n 3, 1) := by decide +kernel
theorem dM_find_7 : decode cM_find 7 = .ok (.iload_n 3, 1) := by decide +kernel
theorem dM_find_8 : decode cM_find 8 = .ok (.aload_n 0, 1) := by decide +kernel
theorem dM_find_9 : decode cM_find 9 = .ok (.getfield 17, 3) := by decide +kernel
theorem dM_find_12 : decode cM_find 12 = .ok (.if_icmp .ge 42, 3) := by decide +kernel
theorem dM_find_15 : decode cM_find 15 = .ok (.iload_n 3, 1) := by decide +kernel
theorem dM_find_16 : decode cM_find 16 = .ok (.sipush 600, 3) := by decide +kernel
theorem dM_find_19 : decode cM_find 19 = .ok (.if_icmp .ge 35, 3) := by decide +kernel
theorem dM_find_22 : decode cM_find 22 = .ok (.aload_n 0, 1) := by decide +kernel
theorem dM_find_23 : decode cM_find 23 = .ok (.getfield 11, 3) := by decide +kernel
theorem dM_find_26 : decode cM_find 26 = .ok (.iload_n 3, 1) := by decide +kernel
theorem dM_find_27 : decode cM_find 27 = .ok (.aaload, 1) := by decide +kernel
theorem dM_find_28 : decode cM_find 28 = .ok (.astore 4, 2) := by decide +kernel
theorem dM_find_30 : decode cM_find 30 = .ok (.aload 4, 2) := by decide +kernel
theorem dM_find_32 : decode cM_find 32 = .ok (.ifnull 16, 3) := by decide +kernel
theorem dM_find_35 : decode cM_find 35 = .ok (.aload 4, 2) := by decide +kernel
theorem dM_find_37 : decode cM_find 37 = .ok (.aload_n 1, 1) := by decide +kernel
theorem dM_find_38 : decode cM_find 38 = .ok (.iload_n 2, 1) := by decide +kernel
theorem dM_find_39 : decode cM_find 39 = .ok (.invokevirtual 32, 3) := by decide +kernel
theorem dM_find_42 : decode cM_find 42 = .ok (.ifCond .eq 6, 3) := by decide +kernel
theorem dM_find_45 : decode cM_find 45 = .ok (.aload 4, 2) := by decide +kernel
theorem dM_find_47 : decode cM_find 47 = .ok (.areturn, 1) := by decide +kernel
theorem dM_find_48 : decode cM_find 48 = .ok (.iinc 3 1, 3) := by decide +kernel
theorem dM_find_51 : decode cM_find 51 = .ok (.goto (-44), 3) := by decide +kernel
theorem dM_find_54 : decode cM_find 54 = .ok (.aconst_null, 1) := by decide +kernel
theorem dM_find_55 : decode cM_find 55 = .ok (.areturn, 1) := by decide +kernel
theorem dW_init_0 : decode cW_init 0 = .ok (.aload_n 0, 1) := by decide +kernel
theorem dW_init_1 : decode cW_init 1 = .ok (.invokespecial 3, 3) := by decide +kernel
theorem dW_init_4 : decode cW_init 4 = .ok (.return_, 1) := by decide +kernel
theorem dW_timesLeaving_0 : decode cW_timesLeaving 0 = .ok (.aload_n 0, 1) := by decide +kernel
theorem dW_timesLeaving_1 : decode cW_timesLeaving 1 = .ok (.getfield 9, 3) := by decide +kernel
theorem dW_timesLeaving_4 : decode cW_timesLeaving 4 = .ok (.ireturn, 1) := by decide +kernel
theorem dW_isLowering_0 : decode cW_isLowering 0 = .ok (.aload_n 0, 1) := by decide +kernel
theorem dW_isLowering_1 : decode cW_isLowering 1 = .ok (.getfield 15, 3) := by decide +kernel
theorem dW_isLowering_4 : decode cW_isLowering 4 = .ok (.ifCond .eq 7, 3) := by decide +kernel
theorem dW_isLowering_7 : decode cW_isLowering 7 = .ok (.iconst 1, 1) := by decide +kernel
theorem dW_isLowering_8 : decode cW_isLowering 8 = .ok (.goto 4, 3) := by decide +kernel
theorem dW_isLowering_11 : decode cW_isLowering 11 = .ok (.iconst 0, 1) := by decide +kernel
theorem dW_isLowering_12 : decode cW_isLowering 12 = .ok (.ireturn, 1) := by decide +kernel
theorem dW_clear_0 : decode cW_clear 0 = .ok (.aload_n 0, 1) := by decide +kernel
theorem dW_clear_1 : decode cW_clear 1 = .ok (.iconst 0, 1) := by decide +kernel
theorem dW_clear_2 : decode cW_clear 2 = .ok (.putfield 15, 3) := by decide +kernel
theorem dW_clear_5 : decode cW_clear 5 = .ok (.aload_n 0, 1) := by decide +kernel
theorem dW_clear_6 : decode cW_clear 6 = .ok (.iconst 0, 1) := by decide +kernel
theorem dW_clear_7 : decode cW_clear 7 = .ok (.putfield 9, 3) := by decide +kernel
theorem dW_clear_10 : decode cW_clear 10 = .ok (.return_, 1) := by decide +kernel
theorem dW_startLeaving_0 : decode cW_startLeaving 0 = .ok (.aload_n 0, 1) := by decide +kernel
theorem dW_startLeaving_1 : decode cW_startLeaving 1 = .ok (.dup, 1) := by decide +kernel
theorem dW_startLeaving_2 : decode cW_startLeaving 2 = .ok (.getfield 9, 3) := by decide +kernel
theorem dW_startLeaving_5 : decode cW_startLeaving 5 = .ok (.iconst 1, 1) := by decide +kernel
theorem dW_startLeaving_6 : decode cW_startLeaving 6 = .ok (.iadd, 1) := by decide +kernel
theorem dW_startLeaving_7 : decode cW_startLeaving 7 = .ok (.putfield 9, 3) := by decide +kernel
theorem dW_startLeaving_10 : decode cW_startLeaving 10 = .ok (.aload_n 0, 1) := by decide +kernel
theorem dW_startLeaving_11 : decode cW_startLeaving 11 = .ok (.iconst 0, 1) := by decide +kernel
theorem dW_startLeaving_12 : decode cW_startLeaving 12 = .ok (.putfield 15, 3) := by decide +kernel
theorem dW_startLeaving_15 : decode cW_startLeaving 15 = .ok (.aload_n 0, 1) := by decide +kernel
theorem dW_startLeaving_16 : decode cW_startLeaving 16 = .ok (.iload_n 1, 1) := by decide +kernel
theorem dW_startLeaving_17 : decode cW_startLeaving 17 = .ok (.invokevirtual 18, 3) := by decide +kernel
theorem dW_startLeaving_20 : decode cW_startLeaving 20 = .ok (.return_, 1) := by decide +kernel
theorem dW_startGoingThrough_0 : decode cW_startGoingThrough 0 = .ok (.aload_n 0, 1) := by decide +kernel
theorem dW_startGoingThrough_1 : decode cW_startGoingThrough 1 = .ok (.iload_n 1, 1) := by decide +kernel
theorem dW_startGoingThrough_2 : decode cW_startGoingThrough 2 = .ok (.putfield 22, 3) := by decide +kernel
theorem dW_startGoingThrough_5 : decode cW_startGoingThrough 5 = .ok (.aload_n 0, 1) := by decide +kernel
theorem dW_startGoingThrough_6 : decode cW_startGoingThrough 6 = .ok (.iconst 0, 1) := by decide +kernel
theorem dW_startGoingThrough_7 : decode cW_startGoingThrough 7 = .ok (.putfield 25, 3) := by decide +kernel
theorem dW_startGoingThrough_10 : decode cW_startGoingThrough 10 = .ok (.aload_n 0, 1) := by decide +kernel
theorem dW_startGoingThrough_11 : decode cW_startGoingThrough 11 = .ok (.iconst 0, 1) := by decide +kernel
theorem dW_startGoingThrough_12 : decode cW_startGoingThrough 12 = .ok (.putfield 28, 3) := by decide +kernel
theorem dW_startGoingThrough_15 : decode cW_startGoingThrough 15 = .ok (.return_, 1) := by decide +kernel
theorem dW_startLowering_0 : decode cW_startLowering 0 = .ok (.aload_n 0, 1) := by decide +kernel
theorem dW_startLowering_1 : decode cW_startLowering 1 = .ok (.iconst 1, 1) := by decide +kernel
theorem dW_startLowering_2 : decode cW_startLowering 2 = .ok (.putfield 15, 3) := by decide +kernel
theorem dW_startLowering_5 : decode cW_startLowering 5 = .ok (.aload_n 0, 1) := by decide +kernel
theorem dW_startLowering_6 : decode cW_startLowering 6 = .ok (.iconst 0, 1) := by decide +kernel
theorem dW_startLowering_7 : decode cW_startLowering 7 = .ok (.putfield 32, 3) := by decide +kernel
theorem dW_startLowering_10 : decode cW_startLowering 10 = .ok (.aload_n 0, 1) := by decide +kernel
theorem dW_startLowering_11 : decode cW_startLowering 11 = .ok (.iconst 0, 1) := by decide +kernel
theorem dW_startLowering_12 : decode cW_startLowering 12 = .ok (.putfield 35, 3) := by decide +kernel
theorem dW_startLowering_15 : decode cW_startLowering 15 = .ok (.aload_n 0, 1) := by decide +kernel
theorem dW_startLowering_16 : decode cW_startLowering 16 = .ok (.iconst 0, 1) := by decide +kernel
theorem dW_startLowering_17 : decode cW_startLowering 17 = .ok (.putfield 38, 3) := by decide +kernel
theorem dW_startLowering_20 : decode cW_startLowering 20 = .ok (.return_, 1) := by decide +kernel
theorem dW_findChange_0 : decode cW_findChange 0 = .ok (.iconst 0, 1) := by decide +kernel
theorem dW_findChange_1 : decode cW_findChange 1 = .ok (.istore_n 2, 1) := by decide +kernel
theorem dW_findChange_2 : decode cW_findChange 2 = .ok (.iload_n 2, 1) := by decide +kernel
theorem dW_findChange_3 : decode cW_findChange 3 = .ok (.ldc 41, 2) := by decide +kernel
theorem dW_findChange_5 : decode cW_findChange 5 = .ok (.if_icmp .ge 92, 3) := by decide +kernel
theorem dW_findChange_8 : decode cW_findChange 8 = .ok (.aload_n 0, 1) := by decide +kernel
theorem dW_findChange_9 : decode cW_findChange 9 = .ok (.getfield 15, 3) := by decide +kernel
theorem dW_findChange_12 : decode cW_findChange 12 = .ok (.ifCond .ne 23, 3) := by decide +kernel
theorem dW_findChange_15 : decode cW_findChange 15 = .ok (.aload_n 1, 1) := by decide +kernel
theorem dW_findChange_16 : decode cW_findChange 16 = .ok (.aload_n 0, 1) := by decide +kernel
theorem dW_findChange_17 : decode cW_findChange 17 = .ok (.getfield 25, 3) := by decide +kernel
theorem dW_findChange_20 : decode cW_findChange 20 = .ok (.invokevirtual 42, 3) := by decide +kernel
theorem dW_findChange_23 : decode cW_findChange 23 = .ok (.ifCond .eq 5, 3) := by decide +kernel
theorem dW_findChange_26 : decode cW_findChange 26 = .ok (.iconst 1, 1) := by decide +kernel
theorem dW_findChange_27 : decode cW_findChange 27 = .ok (.ireturn, 1) := by decide +kernel
theorem dW_findChange_28 : decode cW_findChange 28 = .ok (.aload_n 0, 1) := by decide +kernel
theorem dW_findChange_29 : decode cW_findChange 29 = .ok (.invokevirtual 48, 3) := by decide +kernel
theorem dW_findChange_32 : decode cW_findChange 32 = .ok (.goto 59, 3) := by decide +kernel
theorem dW_findChange_35 : decode cW_findChange 35 = .ok (.aload_n 1, 1) := by decide +kernel
theorem dW_findChange_36 : decode cW_findChange 36 = .ok (.aload_n 0, 1) := by decide +kernel
theorem dW_findChange_37 : decode cW_findChange 37 = .ok (.getfield 32, 3) := by decide +kernel
theorem dW_findChange_40 : decode cW_findChange 40 = .ok (.invokevirtual 42, 3) := by decide +kernel
theorem dW_findChange_43 : decode cW_findChange 43 = .ok (.ifCond .eq 31, 3) := by decide +kernel
theorem dW_findChange_46 : decode cW_findChange 46 = .ok (.aload_n 0, 1) := by decide +kernel
theorem dW_findChange_47 : decode cW_findChange 47 = .ok (.aload_n 1, 1) := by decide +kernel
theorem dW_findChange_48 : decode cW_findChange 48 = .ok (.aload_n 0, 1) := by decide +kernel
theorem dW_findChange_49 : decode cW_findChange 49 = .ok (.getfield 32, 3) := by decide +kernel
theorem dW_findChange_52 : decode cW_findChange 52 = .ok (.aload_n 0, 1) := by decide +kernel
theorem dW_findChange_53 : decode cW_findChange 53 = .ok (.getfield 35, 3) := by decide +kernel
theorem dW_findChange_56 : decode cW_findChange 56 = .ok (.invokevirtual 51, 3) := by decide +kernel
theorem dW_findChange_59 : decode cW_findChange 59 = .ok (.invokevirtual 55, 3) := by decide +kernel
theorem dW_findChange_62 : decode cW_findChange 62 = .ok (.ifCond .eq 5, 3) := by decide +kernel
theorem dW_findChange_65 : decode cW_findChange 65 = .ok (.iconst 1, 1) := by decide +kernel
theorem dW_findChange_66 : decode cW_findChange 66 = .ok (.ireturn, 1) := by decide +kernel
theorem dW_findChange_67 : decode cW_findChange 67 = .ok (.aload_n 0, 1) := by decide +kernel
theorem dW_findChange_68 : decode cW_findChange 68 = .ok (.invokevirtual 58, 3) := by decide +kernel
theorem dW_findChange_71 : decode cW_findChange 71 = .ok (.goto 20, 3) := by decide +kernel
theorem dW_findChange_74 : decode cW_findChange 74 = .ok (.aload_n 0, 1) := by decide +kernel
theorem dW_findChange_75 : decode cW_findChange 75 = .ok (.getfield 38, 3) := by decide +kernel
theorem dW_findChange_78 : decode cW_findChange 78 = .ok (.ifCond .eq 11, 3) := by decide +kernel
theorem dW_findChange_81 : decode cW_findChange 81 = .ok (.aload_n 0, 1) := by decide +kernel
theorem dW_findChange_82 : decode cW_findChange 82 = .ok (.iconst 1, 1) := by decide +kernel
theorem dW_findChange_83 : decode cW_findChange 83 = .ok (.invokevirtual 61, 3) := by decide +kernel
theorem dW_findChange_86 : decode cW_findChange 86 = .ok (.goto 5, 3) := by decide +kernel
theorem dW_findChange_89 : decode cW_findChange 89 = .ok (.iconst 0, 1) := by decide +kernel
theorem dW_findChange_90 : decode cW_findChange 90 = .ok (.ireturn, 1) := by decide +kernel
theorem dW_findChange_91 : decode cW_findChange 91 = .ok (.iinc 2 1, 3) := by decide +kernel
theorem dW_findChange_94 : decode cW_findChange 94 = .ok (.goto (-92), 3) := by decide +kernel
theorem dW_findChange_97 : decode cW_findChange 97 = .ok (.iconst 0, 1) := by decide +kernel
theorem dW_findChange_98 : decode cW_findChange 98 = .ok (.ireturn, 1) := by decide +kernel
theorem dW_endGoingThrough_0 : decode cW_endGoingThrough 0 = .ok (.aload_n 0, 1) := by decide +kernel
theorem dW_endGoingThrough_1 : decode cW_endGoingThrough 1 = .ok (.getfield 22, 3) := by decide +kernel
theorem dW_endGoingThrough_4 : decode cW_endGoingThrough 4 = .ok (.iconst 1, 1) := by decide +kernel
theorem dW_endGoingThrough_5 : decode cW_endGoingThrough 5 = .ok (.if_icmp .le 16, 3) := by decide +kernel
theorem dW_endGoingThrough_8 : decode cW_endGoingThrough 8 = .ok (.aload_n 0, 1) := by decide +kernel
theorem dW_endGoingThrough_9 : decode cW_endGoingThrough 9 = .ok (.aload_n 0, 1) := by decide +kernel
theorem dW_endGoingThrough_10 : decode cW_endGoingThrough 10 = .ok (.getfield 22, 3) := by decide +kernel
theorem dW_endGoingThrough_13 : decode cW_endGoingThrough 13 = .ok (.iconst 2, 1) := by decide +kernel
theorem dW_endGoingThrough_14 : decode cW_endGoingThrough 14 = .ok (.idiv, 1) := by decide +kernel
theorem dW_endGoingThrough_15 : decode cW_endGoingThrough 15 = .ok (.invokevirtual 18, 3) := by decide +kernel
theorem dW_endGoingThrough_18 : decode cW_endGoingThrough 18 = .ok (.goto 22, 3) := by decide +kernel
theorem dW_endGoingThrough_21 : decode cW_endGoingThrough 21 = .ok (.aload_n 0, 1) := by decide +kernel
theorem dW_endGoingThrough_22 : decode cW_endGoingThrough 22 = .ok (.getfield 28, 3) := by decide +kernel
theorem dW_endGoingThrough_25 : decode cW_endGoingThrough 25 = .ok (.ifCond .eq 11, 3) := by decide +kernel
theorem dW_endGoingThrough_28 : decode cW_endGoingThrough 28 = .ok (.aload_n 0, 1) := by decide +kernel
theorem dW_endGoingThrough_29 : decode cW_endGoingThrough 29 = .ok (.iconst 1, 1) := by decide +kernel
theorem dW_endGoingThrough_30 : decode cW_endGoingThrough 30 = .ok (.invokevirtual 18, 3) := by decide +kernel
theorem dW_endGoingThrough_33 : decode cW_endGoingThrough 33 = .ok (.goto 7, 3) := by decide +kernel
theorem dW_endGoingThrough_36 : decode cW_endGoingThrough 36 = .ok (.aload_n 0, 1) := by decide +kernel
theorem dW_endGoingThrough_37 : decode cW_endGoingThrough 37 = .ok (.invokevirtual 64, 3) := by decide +kernel
theorem dW_endGoingThrough_40 : decode cW_endGoingThrough 40 = .ok (.return_, 1) := by decide +kernel
theorem dW_canLower_0 : decode cW_canLower 0 = .ok (.aload_n 0, 1) := by decide +kernel
theorem dW_canLower_1 : decode cW_canLower 1 = .ok (.getfield 15, 3) := by decide +kernel
theorem dW_canLower_4 : decode cW_canLower 4 = .ok (.iconst 1, 1) := by decide +kernel
theorem dW_canLower_5 : decode cW_canLower 5 = .ok (.if_icmp .ne 15, 3) := by decide +kernel
theorem dW_canLower_8 : decode cW_canLower 8 = .ok (.iload_n 1, 1) := by decide +kernel
theorem dW_canLower_9 : decode cW_canLower 9 = .ok (.ifCond .le 7, 3) := by decide +kernel
theorem dW_canLower_12 : decode cW_canLower 12 = .ok (.iconst 1, 1) := by decide +kernel
theorem dW_canLower_13 : decode cW_canLower 13 = .ok (.goto 20, 3) := by decide +kernel
theorem dW_canLower_16 : decode cW_canLower 16 = .ok (.iconst 0, 1) := by decide +kernel
theorem dW_canLower_17 : decode cW_canLower 17 = .ok (.goto 16, 3) := by decide +kernel
theorem dW_canLower_20 : decode cW_canLower 20 = .ok (.aload_n 0, 1) := by decide +kernel
theorem dW_canLower_21 : decode cW_canLower 21 = .ok (.iload_n 1, 1) := by decide +kernel
theorem dW_canLower_22 : decode cW_canLower 22 = .ok (.invokevirtual 67, 3) := by decide +kernel
theorem dW_canLower_25 : decode cW_canLower 25 = .ok (.ifCond .le 7, 3) := by decide +kernel
theorem dW_canLower_28 : decode cW_canLower 28 = .ok (.iconst 1, 1) := by decide +kernel
theorem dW_canLower_29 : decode cW_canLower 29 = .ok (.goto 4, 3) := by decide +kernel
theorem dW_canLower_32 : decode cW_canLower 32 = .ok (.iconst 0, 1) := by decide +kernel
theorem dW_canLower_33 : decode cW_canLower 33 = .ok (.ireturn, 1) := by decide +kernel
theorem dW_lowerValue_0 : decode cW_lowerValue 0 = .ok (.aload_n 0, 1) := by decide +kernel
theorem dW_lowerValue_1 : decode cW_lowerValue 1 = .ok (.getfield 15, 3) := by decide +kernel
theorem dW_lowerValue_4 : decode cW_lowerValue 4 = .ok (.iconst 1, 1) := by decide +kernel
theorem dW_lowerValue_5 : decode cW_lowerValue 5 = .ok (.if_icmp .ne 5, 3) := by decide +kernel
theorem dW_lowerValue_8 : decode cW_lowerValue 8 = .ok (.iconst 0, 1) := by decide +kernel
theorem dW_lowerValue_9 : decode cW_lowerValue 9 = .ok (.ireturn, 1) := by decide +kernel
theorem dW_lowerValue_10 : decode cW_lowerValue 10 = .ok (.aload_n 0, 1) := by decide +kernel
theorem dW_lowerValue_11 : decode cW_lowerValue 11 = .ok (.getfield 15, 3) := by decide +kernel
theorem dW_lowerValue_14 : decode cW_lowerValue 14 = .ok (.iconst 2, 1) := by decide +kernel
theorem dW_lowerValue_15 : decode cW_lowerValue 15 = .ok (.if_icmp .ne 9, 3) := by decide +kernel
theorem dW_lowerValue_18 : decode cW_lowerValue 18 = .ok (.iload_n 1, 1) := by decide +kernel
theorem dW_lowerValue_19 : decode cW_lowerValue 19 = .ok (.iconst 2, 1) := by decide +kernel
theorem dW_lowerValue_20 : decode cW_lowerValue 20 = .ok (.idiv, 1) := by decide +kernel
theorem dW_lowerValue_21 : decode cW_lowerValue 21 = .ok (.goto 6, 3) := by decide +kernel
theorem dW_lowerValue_24 : decode cW_lowerValue 24 = .ok (.iload_n 1, 1) := by decide +kernel
theorem dW_lowerValue_25 : decode cW_lowerValue 25 = .ok (.iconst 1, 1) := by decide +kernel
theorem dW_lowerValue_26 : decode cW_lowerValue 26 = .ok (.isub, 1) := by decide +kernel
theorem dW_lowerValue_27 : decode cW_lowerValue 27 = .ok (.ireturn, 1) := by decide +kernel
theorem dW_change_0 : decode cW_change 0 = .ok (.aload_n 0, 1) := by decide +kernel
theorem dW_change_1 : decode cW_change 1 = .ok (.getfield 15, 3) := by decide +kernel
theorem dW_change_4 : decode cW_change 4 = .ok (.ifCond .ne 18, 3) := by decide +kernel
theorem dW_change_7 : decode cW_change 7 = .ok (.aload_n 1, 1) := by decide +kernel
theorem dW_change_8 : decode cW_change 8 = .ok (.aload_n 0, 1) := by decide +kernel
theorem dW_change_9 : decode cW_change 9 = .ok (.getfield 25, 3) := by decide +kernel
theorem dW_change_12 : decode cW_change 12 = .ok (.aload_n 0, 1) := by decide +kernel
theorem dW_change_13 : decode cW_change 13 = .ok (.getfield 22, 3) := by decide +kernel
theorem dW_change_16 : decode cW_change 16 = .ok (.invokevirtual 71, 3) := by decide +kernel
theorem dW_change_19 : decode cW_change 19 = .ok (.goto 33, 3) := by decide +kernel
theorem dW_change_22 : decode cW_change 22 = .ok (.aload_n 1, 1) := by decide +kernel
theorem dW_change_23 : decode cW_change 23 = .ok (.aload_n 0, 1) := by decide +kernel
theorem dW_change_24 : decode cW_change 24 = .ok (.getfield 32, 3) := by decide +kernel
theorem dW_change_27 : decode cW_change 27 = .ok (.aload_n 0, 1) := by decide +kernel
theorem dW_change_28 : decode cW_change 28 = .ok (.getfield 35, 3) := by decide +kernel
theorem dW_change_31 : decode cW_change 31 = .ok (.invokevirtual 51, 3) := by decide +kernel
theorem dW_change_34 : decode cW_change 34 = .ok (.istore_n 2, 1) := by decide +kernel
theorem dW_change_35 : decode cW_change 35 = .ok (.aload_n 1, 1) := by decide +kernel
theorem dW_change_36 : decode cW_change 36 = .ok (.aload_n 0, 1) := by decide +kernel
theorem dW_change_37 : decode cW_change 37 = .ok (.getfield 32, 3) := by decide +kernel
theorem dW_change_40 : decode cW_change 40 = .ok (.aload_n 0, 1) := by decide +kernel
theorem dW_change_41 : decode cW_change 41 = .ok (.getfield 35, 3) := by decide +kernel
theorem dW_change_44 : decode cW_change 44 = .ok (.aload_n 0, 1) := by decide +kernel
theorem dW_change_45 : decode cW_change 45 = .ok (.iload_n 2, 1) := by decide +kernel
theorem dW_change_46 : decode cW_change 46 = .ok (.invokevirtual 67, 3) := by decide +kernel
theorem dW_change_49 : decode cW_change 49 = .ok (.invokevirtual 75, 3) := by decide +kernel
theorem dW_change_52 : decode cW_change 52 = .ok (.return_, 1) := by decide +kernel
theorem dW_goOn_0 : decode cW_goOn 0 = .ok (.aload_n 0, 1) := by decide +kernel
theorem dW_goOn_1 : decode cW_goOn 1 = .ok (.getfield 15, 3) := by decide +kernel
theorem dW_goOn_4 : decode cW_goOn 4 = .ok (.ifCond .ne 9, 3) := by decide +kernel
theorem dW_goOn_7 : decode cW_goOn 7 = .ok (.aload_n 0, 1) := by decide +kernel
theorem dW_goOn_8 : decode cW_goOn 8 = .ok (.iconst 1, 1) := by decide +kernel
theorem dW_goOn_9 : decode cW_goOn 9 = .ok (.putfield 28, 3) := by decide +kernel
theorem dW_goOn_12 : decode cW_goOn 12 = .ok (.return_, 1) := by decide +kernel
theorem dW_goOn_13 : decode cW_goOn 13 = .ok (.aload_n 0, 1) := by decide +kernel
theorem dW_goOn_14 : decode cW_goOn 14 = .ok (.iconst 1, 1) := by decide +kernel
theorem dW_goOn_15 : decode cW_goOn 15 = .ok (.putfield 38, 3) := by decide +kernel
theorem dW_goOn_18 : decode cW_goOn 18 = .ok (.aload_n 0, 1) := by decide +kernel
theorem dW_goOn_19 : decode cW_goOn 19 = .ok (.getfield 15, 3) := by decide +kernel
theorem dW_goOn_22 : decode cW_goOn 22 = .ok (.iconst 1, 1) := by decide +kernel
theorem dW_goOn_23 : decode cW_goOn 23 = .ok (.if_icmp .ne 7, 3) := by decide +kernel
theorem dW_goOn_26 : decode cW_goOn 26 = .ok (.aload_n 0, 1) := by decide +kernel
theorem dW_goOn_27 : decode cW_goOn 27 = .ok (.invokevirtual 79, 3) := by decide +kernel
theorem dW_goOn_30 : decode cW_goOn 30 = .ok (.return_, 1) := by decide +kernel
theorem dW_passOver_0 : decode cW_passOver 0 = .ok (.aload_n 0, 1) := by decide +kernel
theorem dW_passOver_1 : decode cW_passOver 1 = .ok (.getfield 15, 3) := by decide +kernel
theorem dW_passOver_4 : decode cW_passOver 4 = .ok (.ifCond .ne 19, 3) := by decide +kernel
theorem dW_passOver_7 : decode cW_passOver 7 = .ok (.aload_n 0, 1) := by decide +kernel
theorem dW_passOver_8 : decode cW_passOver 8 = .ok (.dup, 1) := by decide +kernel
theorem dW_passOver_9 : decode cW_passOver 9 = .ok (.getfield 25, 3) := by decide +kernel
theorem dW_passOver_12 : decode cW_passOver 12 = .ok (.aload_n 0, 1) := by decide +kernel
theorem dW_passOver_13 : decode cW_passOver 13 = .ok (.getfield 22, 3) := by decide +kernel
theorem dW_passOver_16 : decode cW_passOver 16 = .ok (.iadd, 1) := by decide +kernel
theorem dW_passOver_17 : decode cW_passOver 17 = .ok (.putfield 25, 3) := by decide +kernel
theorem dW_passOver_20 : decode cW_passOver 20 = .ok (.goto 39, 3) := by decide +kernel
theorem dW_passOver_23 : decode cW_passOver 23 = .ok (.aload_n 0, 1) := by decide +kernel
theorem dW_passOver_24 : decode cW_passOver 24 = .ok (.getfield 15, 3) := by decide +kernel
theorem dW_passOver_27 : decode cW_passOver 27 = .ok (.iconst 1, 1) := by decide +kernel
theorem dW_passOver_28 : decode cW_passOver 28 = .ok (.if_icmp .ne 11, 3) := by decide +kernel
theorem dW_passOver_31 : decode cW_passOver 31 = .ok (.aload_n 0, 1) := by decide +kernel
theorem dW_passOver_32 : decode cW_passOver 32 = .ok (.iconst 2, 1) := by decide +kernel
theorem dW_passOver_33 : decode cW_passOver 33 = .ok (.putfield 15, 3) := by decide +kernel
theorem dW_passOver_36 : decode cW_passOver 36 = .ok (.goto 23, 3) := by decide +kernel
theorem dW_passOver_39 : decode cW_passOver 39 = .ok (.aload_n 0, 1) := by decide +kernel
theorem dW_passOver_40 : decode cW_passOver 40 = .ok (.getfield 15, 3) := by decide +kernel
theorem dW_passOver_43 : decode cW_passOver 43 = .ok (.iconst 2, 1) := by decide +kernel
theorem dW_passOver_44 : decode cW_passOver 44 = .ok (.if_icmp .ne 11, 3) := by decide +kernel
theorem dW_passOver_47 : decode cW_passOver 47 = .ok (.aload_n 0, 1) := by decide +kernel
theorem dW_passOver_48 : decode cW_passOver 48 = .ok (.iconst 3, 1) := by decide +kernel
theorem dW_passOver_49 : decode cW_passOver 49 = .ok (.putfield 15, 3) := by decide +kernel
theorem dW_passOver_52 : decode cW_passOver 52 = .ok (.goto 7, 3) := by decide +kernel
theorem dW_passOver_55 : decode cW_passOver 55 = .ok (.aload_n 0, 1) := by decide +kernel
theorem dW_passOver_56 : decode cW_passOver 56 = .ok (.invokevirtual 79, 3) := by decide +kernel
theorem dW_passOver_59 : decode cW_passOver 59 = .ok (.return_, 1) := by decide +kernel
theorem dW_nextByte_0 : decode cW_nextByte 0 = .ok (.aload_n 0, 1) := by decide +kernel
theorem dW_nextByte_1 : decode cW_nextByte 1 = .ok (.iconst 1, 1) := by decide +kernel
theorem dW_nextByte_2 : decode cW_nextByte 2 = .ok (.putfield 15, 3) := by decide +kernel
theorem dW_nextByte_5 : decode cW_nextByte 5 = .ok (.aload_n 0, 1) := by decide +kernel
theorem dW_nextByte_6 : decode cW_nextByte 6 = .ok (.dup, 1) := by decide +kernel
theorem dW_nextByte_7 : decode cW_nextByte 7 = .ok (.getfield 35, 3) := by decide +kernel
theorem dW_nextByte_10 : decode cW_nextByte 10 = .ok (.iconst 1, 1) := by decide +kernel
theorem dW_nextByte_11 : decode cW_nextByte 11 = .ok (.iadd, 1) := by decide +kernel
theorem dW_nextByte_12 : decode cW_nextByte 12 = .ok (.putfield 35, 3) := by decide +kernel
theorem dW_nextByte_15 : decode cW_nextByte 15 = .ok (.aload_n 0, 1) := by decide +kernel
theorem dW_nextByte_16 : decode cW_nextByte 16 = .ok (.getfield 35, 3) := by decide +kernel
theorem dW_nextByte_19 : decode cW_nextByte 19 = .ok (.iconst 4, 1) := by decide +kernel
theorem dW_nextByte_20 : decode cW_nextByte 20 = .ok (.if_icmp .lt 18, 3) := by decide +kernel
theorem dW_nextByte_23 : decode cW_nextByte 23 = .ok (.aload_n 0, 1) := by decide +kernel
theorem dW_nextByte_24 : decode cW_nextByte 24 = .ok (.iconst 0, 1) := by decide +kernel
theorem dW_nextByte_25 : decode cW_nextByte 25 = .ok (.putfield 35, 3) := by decide +kernel
theorem dW_nextByte_28 : decode cW_nextByte 28 = .ok (.aload_n 0, 1) := by decide +kernel
theorem dW_nextByte_29 : decode cW_nextByte 29 = .ok (.dup, 1) := by decide +kernel
theorem dW_nextByte_30 : decode cW_nextByte 30 = .ok (.getfield 32, 3) := by decide +kernel
theorem dW_nextByte_33 : decode cW_nextByte 33 = .ok (.iconst 1, 1) := by decide +kernel
theorem dW_nextByte_34 : decode cW_nextByte 34 = .ok (.iadd, 1) := by decide +kernel
theorem dW_nextByte_35 : decode cW_nextByte 35 = .ok (.putfield 32, 3) := by decide +kernel
theorem dW_nextByte_38 : decode cW_nextByte 38 = .ok (.return_, 1) := by decide +kernel
end
section
-- decode rows, a row an instruction (by wip/gen/names.py)
theorem dS_init_0 : decode cS_init 0 = .ok (.aload_n 0, 1) := by decide +kernel
theorem dS_init_1 : decode cS_init 1 = .ok (.invokespecial 1, 3) := by decide +kernel
theorem dS_init_4 : decode cS_init 4 = .ok (.aload_n 0, 1) := by decide +kernel
theorem dS_init_5 : decode cS_init 5 = .ok (.iconst 1, 1) := by decide +kernel
theorem dS_init_6 : decode cS_init 6 = .ok (.iload_n 1, 1) := by decide +kernel
theorem dS_init_7 : decode cS_init 7 = .ok (.i2l, 1) := by decide +kernel
theorem dS_init_8 : decode cS_init 8 = .ok (.lconst 1, 1) := by decide +kernel
theorem dS_init_9 : decode cS_init 9 = .ok (.lsub, 1) := by decide +kernel
theorem dS_init_10 : decode cS_init 10 = .ok (.ldc2_w 9, 3) := by decide +kernel
theorem dS_init_13 : decode cS_init 13 = .ok (.invokestatic 11, 3) := by decide +kernel
theorem dS_init_16 : decode cS_init 16 = .ok (.l2i, 1) := by decide +kernel
theorem dS_init_17 : decode cS_init 17 = .ok (.iadd, 1) := by decide +kernel
theorem dS_init_18 : decode cS_init 18 = .ok (.putfield 17, 3) := by decide +kernel
theorem dS_init_21 : decode cS_init 21 = .ok (.aload_n 0, 1) := by decide +kernel
theorem dS_init_22 : decode cS_init 22 = .ok (.new 21, 3) := by decide +kernel
theorem dS_init_25 : decode cS_init 25 = .ok (.dup, 1) := by decide +kernel
theorem dS_init_26 : decode cS_init 26 = .ok (.invokespecial 23, 3) := by decide +kernel
theorem dS_init_29 : decode cS_init 29 = .ok (.putfield 24, 3) := by decide +kernel
theorem dS_init_32 : decode cS_init 32 = .ok (.aload_n 0, 1) := by decide +kernel
theorem dS_init_33 : decode cS_init 33 = .ok (.new 21, 3) := by decide +kernel
theorem dS_init_36 : decode cS_init 36 = .ok (.dup, 1) := by decide +kernel
theorem dS_init_37 : decode cS_init 37 = .ok (.invokespecial 23, 3) := by decide +kernel
theorem dS_init_40 : decode cS_init 40 = .ok (.putfield 28, 3) := by decide +kernel
theorem dS_init_43 : decode cS_init 43 = .ok (.aload_n 0, 1) := by decide +kernel
theorem dS_init_44 : decode cS_init 44 = .ok (.new 31, 3) := by decide +kernel
theorem dS_init_47 : decode cS_init 47 = .ok (.dup, 1) := by decide +kernel
theorem dS_init_48 : decode cS_init 48 = .ok (.invokespecial 33, 3) := by decide +kernel
theorem dS_init_51 : decode cS_init 51 = .ok (.putfield 34, 3) := by decide +kernel
theorem dS_init_54 : decode cS_init 54 = .ok (.aload_n 0, 1) := by decide +kernel
theorem dS_init_55 : decode cS_init 55 = .ok (.new 38, 3) := by decide +kernel
theorem dS_init_58 : decode cS_init 58 = .ok (.dup, 1) := by decide +kernel
theorem dS_init_59 : decode cS_init 59 = .ok (.invokespecial 40, 3) := by decide +kernel
theorem dS_init_62 : decode cS_init 62 = .ok (.putfield 41, 3) := by decide +kernel
theorem dS_init_65 : decode cS_init 65 = .ok (.aload_n 0, 1) := by decide +kernel
theorem dS_init_66 : decode cS_init 66 = .ok (.iconst 0, 1) := by decide +kernel
theorem dS_init_67 : decode cS_init 67 = .ok (.putfield 45, 3) := by decide +kernel
theorem dS_init_70 : decode cS_init 70 = .ok (.aload_n 0, 1) := by decide +kernel
theorem dS_init_71 : decode cS_init 71 = .ok (.iconst (-1), 1) := by decide +kernel
theorem dS_init_72 : decode cS_init 72 = .ok (.putfield 48, 3) := by decide +kernel
theorem dS_init_75 : decode cS_init 75 = .ok (.return_, 1) := by decide +kernel
theorem dS_feed_0 : decode cS_feed 0 = .ok (.aload_n 0, 1) := by decide +kernel
theorem dS_feed_1 : decode cS_feed 1 = .ok (.getfield 45, 3) := by decide +kernel
theorem dS_feed_4 : decode cS_feed 4 = .ok (.ifCond .eq 7, 3) := by decide +kernel
theorem dS_feed_7 : decode cS_feed 7 = .ok (.aload_n 0, 1) := by decide +kernel
theorem dS_feed_8 : decode cS_feed 8 = .ok (.invokevirtual 51, 3) := by decide +kernel
theorem dS_feed_11 : decode cS_feed 11 = .ok (.aload_n 0, 1) := by decide +kernel
theorem dS_feed_12 : decode cS_feed 12 = .ok (.getfield 24, 3) := by decide +kernel
theorem dS_feed_15 : decode cS_feed 15 = .ok (.invokevirtual 54, 3) := by decide +kernel
theorem dS_feed_18 : decode cS_feed 18 = .ok (.ifCond .eq 13, 3) := by decide +kernel
theorem dS_feed_21 : decode cS_feed 21 = .ok (.new 58, 3) := by decide +kernel
theorem dS_feed_24 : decode cS_feed 24 = .ok (.dup, 1) := by decide +kernel
theorem dS_feed_25 : decode cS_feed 25 = .ok (.ldc 60, 2) := by decide +kernel
theorem dS_feed_27 : decode cS_feed 27 = .ok (.invokespecial 62, 3) := by decide +kernel
theorem dS_feed_30 : decode cS_feed 30 = .ok (.athrow, 1) := by decide +kernel
theorem dS_feed_31 : decode cS_feed 31 = .ok (.aload_n 0, 1) := by decide +kernel
theorem dS_feed_32 : decode cS_feed 32 = .ok (.getfield 24, 3) := by decide +kernel
theorem dS_feed_35 : decode cS_feed 35 = .ok (.iload_n 1, 1) := by decide +kernel
theorem dS_feed_36 : decode cS_feed 36 = .ok (.invokevirtual 65, 3) := by decide +kernel
theorem dS_feed_39 : decode cS_feed 39 = .ok (.aload_n 0, 1) := by decide +kernel
theorem dS_feed_40 : decode cS_feed 40 = .ok (.getfield 24, 3) := by decide +kernel
theorem dS_feed_43 : decode cS_feed 43 = .ok (.invokevirtual 69, 3) := by decide +kernel
theorem dS_feed_46 : decode cS_feed 46 = .ok (.ireturn, 1) := by decide +kernel
theorem dS_begin_0 : decode cS_begin 0 = .ok (.aload_n 0, 1) := by decide +kernel
theorem dS_begin_1 : decode cS_begin 1 = .ok (.getfield 45, 3) := by decide +kernel
theorem dS_begin_4 : decode cS_begin 4 = .ok (.ifCond .ne 13, 3) := by decide +kernel
theorem dS_begin_7 : decode cS_begin 7 = .ok (.aload_n 0, 1) := by decide +kernel
theorem dS_begin_8 : decode cS_begin 8 = .ok (.getfield 24, 3) := by decide +kernel
theorem dS_begin_11 : decode cS_begin 11 = .ok (.invokevirtual 69, 3) := by decide +kernel
theorem dS_begin_14 : decode cS_begin 14 = .ok (.ifCond .ne 13, 3) := by decide +kernel
theorem dS_begin_17 : decode cS_begin 17 = .ok (.new 73, 3) := by decide +kernel
theorem dS_begin_20 : decode cS_begin 20 = .ok (.dup, 1) := by decide +kernel
theorem dS_begin_21 : decode cS_begin 21 = .ok (.ldc 75, 2) := by decide +kernel
theorem dS_begin_23 : decode cS_begin 23 = .ok (.invokespecial 77, 3) := by decide +kernel
theorem dS_begin_26 : decode cS_begin 26 = .ok (.athrow, 1) := by decide +kernel
theorem dS_begin_27 : decode cS_begin 27 = .ok (.aload_n 0, 1) := by decide +kernel
theorem dS_begin_28 : decode cS_begin 28 = .ok (.getfield 34, 3) := by decide +kernel
theorem dS_begin_31 : decode cS_begin 31 = .ok (.aload_n 0, 1) := by decide +kernel
theorem dS_begin_32 : decode cS_begin 32 = .ok (.getfield 24, 3) := by decide +kernel
theorem dS_begin_35 : decode cS_begin 35 = .ok (.invokevirtual 78, 3) := by decide +kernel
theorem dS_begin_38 : decode cS_begin 38 = .ok (.aload_n 0, 1) := by decide +kernel
theorem dS_begin_39 : decode cS_begin 39 = .ok (.iconst 1, 1) := by decide +kernel
theorem dS_begin_40 : decode cS_begin 40 = .ok (.putfield 45, 3) := by decide +kernel
theorem dS_begin_43 : decode cS_begin 43 = .ok (.return_, 1) := by decide +kernel
theorem dS_asked_0 : decode cS_asked 0 = .ok (.aload_n 0, 1) := by decide +kernel
theorem dS_asked_1 : decode cS_asked 1 = .ok (.invokevirtual 82, 3) := by decide +kernel
theorem dS_asked_4 : decode cS_asked 4 = .ok (.astore_n 2, 1) := by decide +kernel
theorem dS_asked_5 : decode cS_asked 5 = .ok (.aload_n 2, 1) := by decide +kernel
theorem dS_asked_6 : decode cS_asked 6 = .ok (.ifnonnull 13, 3) := by decide +kernel
theorem dS_asked_9 : decode cS_asked 9 = .ok (.new 73, 3) := by decide +kernel
theorem dS_asked_12 : decode cS_asked 12 = .ok (.dup, 1) := by decide +kernel
theorem dS_asked_13 : decode cS_asked 13 = .ok (.ldc 86, 2) := by decide +kernel
theorem dS_asked_15 : decode cS_asked 15 = .ok (.invokespecial 77, 3) := by decide +kernel
theorem dS_asked_18 : decode cS_asked 18 = .ok (.athrow, 1) := by decide +kernel
theorem dS_asked_19 : decode cS_asked 19 = .ok (.aload_n 2, 1) := by decide +kernel
theorem dS_asked_20 : decode cS_asked 20 = .ok (.invokevirtual 88, 3) := by decide +kernel
theorem dS_asked_23 : decode cS_asked 23 = .ok (.iload_n 1, 1) := by decide +kernel
theorem dS_asked_24 : decode cS_asked 24 = .ok (.invokevirtual 94, 3) := by decide +kernel
theorem dS_asked_27 : decode cS_asked 27 = .ok (.ifCond .ne 13, 3) := by decide +kernel
theorem dS_asked_30 : decode cS_asked 30 = .ok (.new 98, 3) := by decide +kernel
theorem dS_asked_33 : decode cS_asked 33 = .ok (.dup, 1) := by decide +kernel
theorem dS_asked_34 : decode cS_asked 34 = .ok (.ldc 100, 2) := by decide +kernel
theorem dS_asked_36 : decode cS_asked 36 = .ok (.invokespecial 102, 3) := by decide +kernel
theorem dS_asked_39 : decode cS_asked 39 = .ok (.athrow, 1) := by decide +kernel
theorem dS_asked_40 : decode cS_asked 40 = .ok (.aload_n 2, 1) := by decide +kernel
theorem dS_asked_41 : decode cS_asked 41 = .ok (.invokevirtual 88, 3) := by decide +kernel
theorem dS_asked_44 : decode cS_asked 44 = .ok (.iload_n 1, 1) := by decide +kernel
theorem dS_asked_45 : decode cS_asked 45 = .ok (.invokevirtual 103, 3) := by decide +kernel
theorem dS_asked_48 : decode cS_asked 48 = .ok (.ireturn, 1) := by decide +kernel
theorem dS_size_0 : decode cS_size 0 = .ok (.aload_n 0, 1) := by decide +kernel
theorem dS_size_1 : decode cS_size 1 = .ok (.invokevirtual 82, 3) := by decide +kernel
theorem dS_size_4 : decode cS_size 4 = .ok (.astore_n 1, 1) := by decide +kernel
theorem dS_size_5 : decode cS_size 5 = .ok (.aload_n 1, 1) := by decide +kernel
theorem dS_size_6 : decode cS_size 6 = .ok (.ifnonnull 13, 3) := by decide +kernel
theorem dS_size_9 : decode cS_size 9 = .ok (.new 73, 3) := by decide +kernel
theorem dS_size_12 : decode cS_size 12 = .ok (.dup, 1) := by decide +kernel
theorem dS_size_13 : decode cS_size 13 = .ok (.ldc 86, 2) := by decide +kernel
theorem dS_size_15 : decode cS_size 15 = .ok (.invokespecial 77, 3) := by decide +kernel
theorem dS_size_18 : decode cS_size 18 = .ok (.athrow, 1) := by decide +kernel
theorem dS_size_19 : decode cS_size 19 = .ok (.aload_n 1, 1) := by decide +kernel
theorem dS_size_20 : decode cS_size 20 = .ok (.invokevirtual 88, 3) := by decide +kernel
theorem dS_size_23 : decode cS_size 23 = .ok (.invokevirtual 69, 3) := by decide +kernel
theorem dS_size_26 : decode cS_size 26 = .ok (.ireturn, 1) := by decide +kernel
theorem dS_judge_0 : decode cS_judge 0 = .ok (.aload_n 0, 1) := by decide +kernel
theorem dS_judge_1 : decode cS_judge 1 = .ok (.invokevirtual 82, 3) := by decide +kernel
theorem dS_judge_4 : decode cS_judge 4 = .ok (.astore_n 2, 1) := by decide +kernel
theorem dS_judge_5 : decode cS_judge 5 = .ok (.aload_n 2, 1) := by decide +kernel
theorem dS_judge_6 : decode cS_judge 6 = .ok (.ifnonnull 13, 3) := by decide +kernel
theorem dS_judge_9 : decode cS_judge 9 = .ok (.new 73, 3) := by decide +kernel
theorem dS_judge_12 : decode cS_judge 12 = .ok (.dup, 1) := by decide +kernel
theorem dS_judge_13 : decode cS_judge 13 = .ok (.ldc 86, 2) := by decide +kernel
theorem dS_judge_15 : decode cS_judge 15 = .ok (.invokespecial 77, 3) := by decide +kernel
theorem dS_judge_18 : decode cS_judge 18 = .ok (.athrow, 1) := by decide +kernel
theorem dS_judge_19 : decode cS_judge 19 = .ok (.iload_n 1, 1) := by decide +kernel
theorem dS_judge_20 : decode cS_judge 20 = .ok (.iconst (-1), 1) := by decide +kernel
theorem dS_judge_21 : decode cS_judge 21 = .ok (.if_icmp .ge 13, 3) := by decide +kernel
theorem dS_judge_24 : decode cS_judge 24 = .ok (.new 107, 3) := by decide +kernel
theorem dS_judge_27 : decode cS_judge 27 = .ok (.dup, 1) := by decide +kernel
theorem dS_judge_28 : decode cS_judge 28 = .ok (.ldc 109, 2) := by decide +kernel
theorem dS_judge_30 : decode cS_judge 30 = .ok (.invokespecial 111, 3) := by decide +kernel
theorem dS_judge_33 : decode cS_judge 33 = .ok (.athrow, 1) := by decide +kernel
theorem dS_judge_34 : decode cS_judge 34 = .ok (.aload_n 2, 1) := by decide +kernel
theorem dS_judge_35 : decode cS_judge 35 = .ok (.iload_n 1, 1) := by decide +kernel
theorem dS_judge_36 : decode cS_judge 36 = .ok (.invokevirtual 112, 3) := by decide +kernel
theorem dS_judge_39 : decode cS_judge 39 = .ok (.aload_n 0, 1) := by decide +kernel
theorem dS_judge_40 : decode cS_judge 40 = .ok (.getfield 48, 3) := by decide +kernel
theorem dS_judge_43 : decode cS_judge 43 = .ok (.iconst (-1), 1) := by decide +kernel
theorem dS_judge_44 : decode cS_judge 44 = .ok (.if_icmp .ne 11, 3) := by decide +kernel
theorem dS_judge_47 : decode cS_judge 47 = .ok (.aload_n 0, 1) := by decide +kernel
theorem dS_judge_48 : decode cS_judge 48 = .ok (.iload_n 1, 1) := by decide +kernel
theorem dS_judge_49 : decode cS_judge 49 = .ok (.invokevirtual 115, 3) := by decide +kernel
theorem dS_judge_52 : decode cS_judge 52 = .ok (.goto 8, 3) := by decide +kernel
theorem dS_judge_55 : decode cS_judge 55 = .ok (.aload_n 0, 1) := by decide +kernel
theorem dS_judge_56 : decode cS_judge 56 = .ok (.iload_n 1, 1) := by decide +kernel
theorem dS_judge_57 : decode cS_judge 57 = .ok (.invokevirtual 118, 3) := by decide +kernel
theorem dS_judge_60 : decode cS_judge 60 = .ok (.aload_n 0, 1) := by decide +kernel
theorem dS_judge_61 : decode cS_judge 61 = .ok (.getfield 45, 3) := by decide +kernel
theorem dS_judge_64 : decode cS_judge 64 = .ok (.iconst 1, 1) := by decide +kernel
theorem dS_judge_65 : decode cS_judge 65 = .ok (.if_icmp .ne 7, 3) := by decide +kernel
theorem dS_judge_68 : decode cS_judge 68 = .ok (.aload_n 0, 1) := by decide +kernel
theorem dS_judge_69 : decode cS_judge 69 = .ok (.invokevirtual 121, 3) := by decide +kernel
theorem dS_judge_72 : decode cS_judge 72 = .ok (.aload_n 0, 1) := by decide +kernel
theorem dS_judge_73 : decode cS_judge 73 = .ok (.getfield 45, 3) := by decide +kernel
theorem dS_judge_76 : decode cS_judge 76 = .ok (.ireturn, 1) := by decide +kernel
theorem dS_at_0 : decode cS_at 0 = .ok (.aload_n 0, 1) := by decide +kernel
theorem dS_at_1 : decode cS_at 1 = .ok (.getfield 24, 3) := by decide +kernel
theorem dS_at_4 : decode cS_at 4 = .ok (.iload_n 1, 1) := by decide +kernel
theorem dS_at_5 : decode cS_at 5 = .ok (.invokevirtual 94, 3) := by decide +kernel
theorem dS_at_8 : decode cS_at 8 = .ok (.ifCond .ne 13, 3) := by decide +kernel
theorem dS_at_11 : decode cS_at 11 = .ok (.new 98, 3) := by decide +kernel
theorem dS_at_14 : decode cS_at 14 = .ok (.dup, 1) := by decide +kernel
theorem dS_at_15 : decode cS_at 15 = .ok (.ldc 124, 2) := by decide +kernel
theorem dS_at_17 : decode cS_at 17 = .ok (.invokespecial 102, 3) := by decide +kernel
theorem dS_at_20 : decode cS_at 20 = .ok (.athrow, 1) := by decide +kernel
theorem dS_at_21 : decode cS_at 21 = .ok (.aload_n 0, 1) := by decide +kernel
theorem dS_at_22 : decode cS_at 22 = .ok (.getfield 24, 3) := by decide +kernel
theorem dS_at_25 : decode cS_at 25 = .ok (.iload_n 1, 1) := by decide +kernel
theorem dS_at_26 : decode cS_at 26 = .ok (.invokevirtual 103, 3) := by decide +kernel
theorem dS_at_29 : decode cS_at 29 = .ok (.ireturn, 1) := by decide +kernel
theorem dS_from_0 : decode cS_from 0 = .ok (.aload_n 0, 1) := by decide +kernel
theorem dS_from_1 : decode cS_from 1 = .ok (.getfield 24, 3) := by decide +kernel
theorem dS_from_4 : decode cS_from 4 = .ok (.iload_n 1, 1) := by decide +kernel
theorem dS_from_5 : decode cS_from 5 = .ok (.invokevirtual 94, 3) := by decide +kernel
theorem dS_from_8 : decode cS_from 8 = .ok (.ifCond .ne 13, 3) := by decide +kernel
theorem dS_from_11 : decode cS_from 11 = .ok (.new 98, 3) := by decide +kernel
theorem dS_from_14 : decode cS_from 14 = .ok (.dup, 1) := by decide +kernel
theorem dS_from_15 : decode cS_from 15 = .ok (.ldc 124, 2) := by decide +kernel
theorem dS_from_17 : decode cS_from 17 = .ok (.invokespecial 102, 3) := by decide +kernel
theorem dS_from_20 : decode cS_from 20 = .ok (.athrow, 1) := by decide +kernel
theorem dS_from_21 : decode cS_from 21 = .ok (.aload_n 0, 1) := by decide +kernel
theorem dS_from_22 : decode cS_from 22 = .ok (.getfield 24, 3) := by decide +kernel
theorem dS_from_25 : decode cS_from 25 = .ok (.iload_n 1, 1) := by decide +kernel
theorem dS_from_26 : decode cS_from 26 = .ok (.invokevirtual 126, 3) := by decide +kernel
theorem dS_from_29 : decode cS_from 29 = .ok (.ireturn, 1) := by decide +kernel
theorem dS_known_0 : decode cS_known 0 = .ok (.aload_n 0, 1) := by decide +kernel
theorem dS_known_1 : decode cS_known 1 = .ok (.getfield 24, 3) := by decide +kernel
theorem dS_known_4 : decode cS_known 4 = .ok (.iload_n 2, 1) := by decide +kernel
theorem dS_known_5 : decode cS_known 5 = .ok (.invokevirtual 94, 3) := by decide +kernel
theorem dS_known_8 : decode cS_known 8 = .ok (.ifCond .ne 13, 3) := by decide +kernel
theorem dS_known_11 : decode cS_known 11 = .ok (.new 98, 3) := by decide +kernel
theorem dS_known_14 : decode cS_known 14 = .ok (.dup, 1) := by decide +kernel
theorem dS_known_15 : decode cS_known 15 = .ok (.ldc 124, 2) := by decide +kernel
theorem dS_known_17 : decode cS_known 17 = .ok (.invokespecial 102, 3) := by decide +kernel
theorem dS_known_20 : decode cS_known 20 = .ok (.athrow, 1) := by decide +kernel
theorem dS_known_21 : decode cS_known 21 = .ok (.iload_n 1, 1) := by decide +kernel
theorem dS_known_22 : decode cS_known 22 = .ok (.iconst 1, 1) := by decide +kernel
theorem dS_known_23 : decode cS_known 23 = .ok (.if_icmp .ne 22, 3) := by decide +kernel
theorem dS_known_26 : decode cS_known 26 = .ok (.iload_n 3, 1) := by decide +kernel
theorem dS_known_27 : decode cS_known 27 = .ok (.ifCond .lt 8, 3) := by decide +kernel
theorem dS_known_30 : decode cS_known 30 = .ok (.iload_n 3, 1) := by decide +kernel
theorem dS_known_31 : decode cS_known 31 = .ok (.iconst 4, 1) := by decide +kernel
theorem dS_known_32 : decode cS_known 32 = .ok (.if_icmp .lt 13, 3) := by decide +kernel
theorem dS_known_35 : decode cS_known 35 = .ok (.new 98, 3) := by decide +kernel
theorem dS_known_38 : decode cS_known 38 = .ok (.dup, 1) := by decide +kernel
theorem dS_known_39 : decode cS_known 39 = .ok (.ldc 129, 2) := by decide +kernel
theorem dS_known_41 : decode cS_known 41 = .ok (.invokespecial 102, 3) := by decide +kernel
theorem dS_known_44 : decode cS_known 44 = .ok (.athrow, 1) := by decide +kernel
theorem dS_known_45 : decode cS_known 45 = .ok (.iload_n 1, 1) := by decide +kernel
theorem dS_known_46 : decode cS_known 46 = .ok (.ifCond .eq 18, 3) := by decide +kernel
theorem dS_known_49 : decode cS_known 49 = .ok (.iload_n 1, 1) := by decide +kernel
theorem dS_known_50 : decode cS_known 50 = .ok (.iconst 1, 1) := by decide +kernel
theorem dS_known_51 : decode cS_known 51 = .ok (.if_icmp .eq 13, 3) := by decide +kernel
theorem dS_known_54 : decode cS_known 54 = .ok (.new 107, 3) := by decide +kernel
theorem dS_known_57 : decode cS_known 57 = .ok (.dup, 1) := by decide +kernel
theorem dS_known_58 : decode cS_known 58 = .ok (.ldc 131, 2) := by decide +kernel
theorem dS_known_60 : decode cS_known 60 = .ok (.invokespecial 111, 3) := by decide +kernel
theorem dS_known_63 : decode cS_known 63 = .ok (.athrow, 1) := by decide +kernel
theorem dS_known_64 : decode cS_known 64 = .ok (.iload_n 1, 1) := by decide +kernel
theorem dS_known_65 : decode cS_known 65 = .ok (.iconst 1, 1) := by decide +kernel
theorem dS_known_66 : decode cS_known 66 = .ok (.if_icmp .ne 26, 3) := by decide +kernel
theorem dS_known_69 : decode cS_known 69 = .ok (.iload 4, 2) := by decide +kernel
theorem dS_known_71 : decode cS_known 71 = .ok (.ifCond .lt 11, 3) := by decide +kernel
theorem dS_known_74 : decode cS_known 74 = .ok (.iload 4, 2) := by decide +kernel
theorem dS_known_76 : decode cS_known 76 = .ok (.sipush 255, 3) := by decide +kernel
theorem dS_known_79 : decode cS_known 79 = .ok (.if_icmp .le 13, 3) := by decide +kernel
theorem dS_known_82 : decode cS_known 82 = .ok (.new 107, 3) := by decide +kernel
theorem dS_known_85 : decode cS_known 85 = .ok (.dup, 1) := by decide +kernel
theorem dS_known_86 : decode cS_known 86 = .ok (.ldc 133, 2) := by decide +kernel
theorem dS_known_88 : decode cS_known 88 = .ok (.invokespecial 111, 3) := by decide +kernel
theorem dS_known_91 : decode cS_known 91 = .ok (.athrow, 1) := by decide +kernel
theorem dS_known_92 : decode cS_known 92 = .ok (.aload_n 0, 1) := by decide +kernel
theorem dS_known_93 : decode cS_known 93 = .ok (.getfield 28, 3) := by decide +kernel
theorem dS_known_96 : decode cS_known 96 = .ok (.aload_n 0, 1) := by decide +kernel
theorem dS_known_97 : decode cS_known 97 = .ok (.getfield 24, 3) := by decide +kernel
theorem dS_known_100 : decode cS_known 100 = .ok (.invokevirtual 135, 3) := by decide +kernel
theorem dS_known_103 : decode cS_known 103 = .ok (.iload_n 1, 1) := by decide +kernel
theorem dS_known_104 : decode cS_known 104 = .ok (.ifCond .ne 15, 3) := by decide +kernel
theorem dS_known_107 : decode cS_known 107 = .ok (.aload_n 0, 1) := by decide +kernel
theorem dS_known_108 : decode cS_known 108 = .ok (.getfield 28, 3) := by decide +kernel
theorem dS_known_111 : decode cS_known 111 = .ok (.iload_n 2, 1) := by decide +kernel
theorem dS_known_112 : decode cS_known 112 = .ok (.iconst 1, 1) := by decide +kernel
theorem dS_known_113 : decode cS_known 113 = .ok (.invokevirtual 138, 3) := by decide +kernel
theorem dS_known_116 : decode cS_known 116 = .ok (.goto 14, 3) := by decide +kernel
theorem dS_known_119 : decode cS_known 119 = .ok (.aload_n 0, 1) := by decide +kernel
theorem dS_known_120 : decode cS_known 120 = .ok (.getfield 28, 3) := by decide +kernel
theorem dS_known_123 : decode cS_known 123 = .ok (.iload_n 2, 1) := by decide +kernel
theorem dS_known_124 : decode cS_known 124 = .ok (.iload_n 3, 1) := by decide +kernel
theorem dS_known_125 : decode cS_known 125 = .ok (.iload 4, 2) := by decide +kernel
theorem dS_known_127 : decode cS_known 127 = .ok (.invokevirtual 142, 3) := by decide +kernel
theorem dS_known_130 : decode cS_known 130 = .ok (.aload_n 0, 1) := by decide +kernel
theorem dS_known_131 : decode cS_known 131 = .ok (.getfield 34, 3) := by decide +kernel
theorem dS_known_134 : decode cS_known 134 = .ok (.aload_n 0, 1) := by decide +kernel
theorem dS_known_135 : decode cS_known 135 = .ok (.getfield 28, 3) := by decide +kernel
theorem dS_known_138 : decode cS_known 138 = .ok (.invokevirtual 146, 3) := by decide +kernel
theorem dS_known_141 : decode cS_known 141 = .ok (.astore 5, 2) := by decide +kernel
theorem dS_known_143 : decode cS_known 143 = .ok (.aload 5, 2) := by decide +kernel
theorem dS_known_145 : decode cS_known 145 = .ok (.ifnonnull 8, 3) := by decide +kernel
theorem dS_known_148 : decode cS_known 148 = .ok (.bipush (-2), 2) := by decide +kernel
theorem dS_known_150 : decode cS_known 150 = .ok (.goto 8, 3) := by decide +kernel
theorem dS_known_153 : decode cS_known 153 = .ok (.aload 5, 2) := by decide +kernel
theorem dS_known_155 : decode cS_known 155 = .ok (.invokevirtual 150, 3) := by decide +kernel
theorem dS_known_158 : decode cS_known 158 = .ok (.ireturn, 1) := by decide +kernel
theorem dS_count_0 : decode cS_count 0 = .ok (.iload_n 1, 1) := by decide +kernel
theorem dS_count_1 : decode cS_count 1 = .ok (.tableswitch 114 0 9 #[55, 60, 68, 76, 81, 86, 91, 96, 101, 106], 55) := by decide +kernel
theorem dS_count_56 : decode cS_count 56 = .ok (.aload_n 0, 1) := by decide +kernel
theorem dS_count_57 : decode cS_count 57 = .ok (.getfield 45, 3) := by decide +kernel
theorem dS_count_60 : decode cS_count 60 = .ok (.ireturn, 1) := by decide +kernel
theorem dS_count_61 : decode cS_count 61 = .ok (.aload_n 0, 1) := by decide +kernel
theorem dS_count_62 : decode cS_count 62 = .ok (.getfield 24, 3) := by decide +kernel
theorem dS_count_65 : decode cS_count 65 = .ok (.invokevirtual 69, 3) := by decide +kernel
theorem dS_count_68 : decode cS_count 68 = .ok (.ireturn, 1) := by decide +kernel
theorem dS_count_69 : decode cS_count 69 = .ok (.aload_n 0, 1) := by decide +kernel
theorem dS_count_70 : decode cS_count 70 = .ok (.getfield 34, 3) := by decide +kernel
theorem dS_count_73 : decode cS_count 73 = .ok (.invokevirtual 153, 3) := by decide +kernel
theorem dS_count_76 : decode cS_count 76 = .ok (.ireturn, 1) := by decide +kernel
theorem dS_count_77 : decode cS_count 77 = .ok (.aload_n 0, 1) := by decide +kernel
theorem dS_count_78 : decode cS_count 78 = .ok (.getfield 156, 3) := by decide +kernel
theorem dS_count_81 : decode cS_count 81 = .ok (.ireturn, 1) := by decide +kernel
theorem dS_count_82 : decode cS_count 82 = .ok (.aload_n 0, 1) := by decide +kernel
theorem dS_count_83 : decode cS_count 83 = .ok (.getfield 159, 3) := by decide +kernel
theorem dS_count_86 : decode cS_count 86 = .ok (.ireturn, 1) := by decide +kernel
theorem dS_count_87 : decode cS_count 87 = .ok (.aload_n 0, 1) := by decide +kernel
theorem dS_count_88 : decode cS_count 88 = .ok (.getfield 162, 3) := by decide +kernel
theorem dS_count_91 : decode cS_count 91 = .ok (.ireturn, 1) := by decide +kernel
theorem dS_count_92 : decode cS_count 92 = .ok (.aload_n 0, 1) := by decide +kernel
theorem dS_count_93 : decode cS_count 93 = .ok (.getfield 165, 3) := by decide +kernel
theorem dS_count_96 : decode cS_count 96 = .ok (.ireturn, 1) := by decide +kernel
theorem dS_count_97 : decode cS_count 97 = .ok (.aload_n 0, 1) := by decide +kernel
theorem dS_count_98 : decode cS_count 98 = .ok (.getfield 17, 3) := by decide +kernel
theorem dS_count_101 : decode cS_count 101 = .ok (.ireturn, 1) := by decide +kernel
theorem dS_count_102 : decode cS_count 102 = .ok (.aload_n 0, 1) := by decide +kernel
theorem dS_count_103 : decode cS_count 103 = .ok (.getfield 48, 3) := by decide +kernel
theorem dS_count_106 : decode cS_count 106 = .ok (.ireturn, 1) := by decide +kernel
theorem dS_count_107 : decode cS_count 107 = .ok (.aload_n 0, 1) := by decide +kernel
theorem dS_count_108 : decode cS_count 108 = .ok (.getfield 41, 3) := by decide +kernel
theorem dS_count_111 : decode cS_count 111 = .ok (.invokevirtual 168, 3) := by decide +kernel
theorem dS_count_114 : decode cS_count 114 = .ok (.ireturn, 1) := by decide +kernel
theorem dS_count_115 : decode cS_count 115 = .ok (.iconst (-1), 1) := by decide +kernel
theorem dS_count_116 : decode cS_count 116 = .ok (.ireturn, 1) := by decide +kernel
theorem dS_startAfresh_0 : decode cS_startAfresh 0 = .ok (.aload_n 0, 1) := by decide +kernel
theorem dS_startAfresh_1 : decode cS_startAfresh 1 = .ok (.getfield 24, 3) := by decide +kernel
theorem dS_startAfresh_4 : decode cS_startAfresh 4 = .ok (.invokevirtual 171, 3) := by decide +kernel
theorem dS_startAfresh_7 : decode cS_startAfresh 7 = .ok (.aload_n 0, 1) := by decide +kernel
theorem dS_startAfresh_8 : decode cS_startAfresh 8 = .ok (.getfield 34, 3) := by decide +kernel
theorem dS_startAfresh_11 : decode cS_startAfresh 11 = .ok (.invokevirtual 174, 3) := by decide +kernel
theorem dS_startAfresh_14 : decode cS_startAfresh 14 = .ok (.aload_n 0, 1) := by decide +kernel
theorem dS_startAfresh_15 : decode cS_startAfresh 15 = .ok (.getfield 41, 3) := by decide +kernel
theorem dS_startAfresh_18 : decode cS_startAfresh 18 = .ok (.invokevirtual 175, 3) := by decide +kernel
theorem dS_startAfresh_21 : decode cS_startAfresh 21 = .ok (.aload_n 0, 1) := by decide +kernel
theorem dS_startAfresh_22 : decode cS_startAfresh 22 = .ok (.iconst 0, 1) := by decide +kernel
theorem dS_startAfresh_23 : decode cS_startAfresh 23 = .ok (.putfield 45, 3) := by decide +kernel
theorem dS_startAfresh_26 : decode cS_startAfresh 26 = .ok (.aload_n 0, 1) := by decide +kernel
theorem dS_startAfresh_27 : decode cS_startAfresh 27 = .ok (.iconst (-1), 1) := by decide +kernel
theorem dS_startAfresh_28 : decode cS_startAfresh 28 = .ok (.putfield 48, 3) := by decide +kernel
theorem dS_startAfresh_31 : decode cS_startAfresh 31 = .ok (.aload_n 0, 1) := by decide +kernel
theorem dS_startAfresh_32 : decode cS_startAfresh 32 = .ok (.iconst 0, 1) := by decide +kernel
theorem dS_startAfresh_33 : decode cS_startAfresh 33 = .ok (.putfield 156, 3) := by decide +kernel
theorem dS_startAfresh_36 : decode cS_startAfresh 36 = .ok (.aload_n 0, 1) := by decide +kernel
theorem dS_startAfresh_37 : decode cS_startAfresh 37 = .ok (.iconst 0, 1) := by decide +kernel
theorem dS_startAfresh_38 : decode cS_startAfresh 38 = .ok (.putfield 159, 3) := by decide +kernel
theorem dS_startAfresh_41 : decode cS_startAfresh 41 = .ok (.aload_n 0, 1) := by decide +kernel
theorem dS_startAfresh_42 : decode cS_startAfresh 42 = .ok (.iconst 0, 1) := by decide +kernel
theorem dS_startAfresh_43 : decode cS_startAfresh 43 = .ok (.putfield 162, 3) := by decide +kernel
theorem dS_startAfresh_46 : decode cS_startAfresh 46 = .ok (.aload_n 0, 1) := by decide +kernel
theorem dS_startAfresh_47 : decode cS_startAfresh 47 = .ok (.iconst 0, 1) := by decide +kernel
theorem dS_startAfresh_48 : decode cS_startAfresh 48 = .ok (.putfield 165, 3) := by decide +kernel
theorem dS_startAfresh_51 : decode cS_startAfresh 51 = .ok (.return_, 1) := by decide +kernel
theorem dS_openAsk_0 : decode cS_openAsk 0 = .ok (.aload_n 0, 1) := by decide +kernel
theorem dS_openAsk_1 : decode cS_openAsk 1 = .ok (.getfield 45, 3) := by decide +kernel
theorem dS_openAsk_4 : decode cS_openAsk 4 = .ok (.iconst 1, 1) := by decide +kernel
theorem dS_openAsk_5 : decode cS_openAsk 5 = .ok (.if_icmp .ne 13, 3) := by decide +kernel
theorem dS_openAsk_8 : decode cS_openAsk 8 = .ok (.aload_n 0, 1) := by decide +kernel
theorem dS_openAsk_9 : decode cS_openAsk 9 = .ok (.getfield 34, 3) := by decide +kernel
theorem dS_openAsk_12 : decode cS_openAsk 12 = .ok (.invokevirtual 176, 3) := by decide +kernel
theorem dS_openAsk_15 : decode cS_openAsk 15 = .ok (.goto 4, 3) := by decide +kernel
theorem dS_openAsk_18 : decode cS_openAsk 18 = .ok (.aconst_null, 1) := by decide +kernel
theorem dS_openAsk_19 : decode cS_openAsk 19 = .ok (.areturn, 1) := by decide +kernel
theorem dS_takeFirst_0 : decode cS_takeFirst 0 = .ok (.iload_n 1, 1) := by decide +kernel
theorem dS_takeFirst_1 : decode cS_takeFirst 1 = .ok (.iconst (-1), 1) := by decide +kernel
theorem dS_takeFirst_2 : decode cS_takeFirst 2 = .ok (.if_icmp .ne 9, 3) := by decide +kernel
theorem dS_takeFirst_5 : decode cS_takeFirst 5 = .ok (.aload_n 0, 1) := by decide +kernel
theorem dS_takeFirst_6 : decode cS_takeFirst 6 = .ok (.iconst 4, 1) := by decide +kernel
theorem dS_takeFirst_7 : decode cS_takeFirst 7 = .ok (.putfield 45, 3) := by decide +kernel
theorem dS_takeFirst_10 : decode cS_takeFirst 10 = .ok (.return_, 1) := by decide +kernel
theorem dS_takeFirst_11 : decode cS_takeFirst 11 = .ok (.aload_n 0, 1) := by decide +kernel
theorem dS_takeFirst_12 : decode cS_takeFirst 12 = .ok (.iload_n 1, 1) := by decide +kernel
theorem dS_takeFirst_13 : decode cS_takeFirst 13 = .ok (.putfield 48, 3) := by decide +kernel
theorem dS_takeFirst_16 : decode cS_takeFirst 16 = .ok (.aload_n 0, 1) := by decide +kernel
theorem dS_takeFirst_17 : decode cS_takeFirst 17 = .ok (.getfield 41, 3) := by decide +kernel
theorem dS_takeFirst_20 : decode cS_takeFirst 20 = .ok (.iconst 1, 1) := by decide +kernel
theorem dS_takeFirst_21 : decode cS_takeFirst 21 = .ok (.aload_n 0, 1) := by decide +kernel
theorem dS_takeFirst_22 : decode cS_takeFirst 22 = .ok (.getfield 24, 3) := by decide +kernel
theorem dS_takeFirst_25 : decode cS_takeFirst 25 = .ok (.invokevirtual 69, 3) := by decide +kernel
theorem dS_takeFirst_28 : decode cS_takeFirst 28 = .ok (.iconst 2, 1) := by decide +kernel
theorem dS_takeFirst_29 : decode cS_takeFirst 29 = .ok (.idiv, 1) := by decide +kernel
theorem dS_takeFirst_30 : decode cS_takeFirst 30 = .ok (.invokestatic 179, 3) := by decide +kernel
theorem dS_takeFirst_33 : decode cS_takeFirst 33 = .ok (.invokevirtual 183, 3) := by decide +kernel
theorem dS_takeFirst_36 : decode cS_takeFirst 36 = .ok (.return_, 1) := by decide +kernel
theorem dS_take_0 : decode cS_take 0 = .ok (.iload_n 1, 1) := by decide +kernel
theorem dS_take_1 : decode cS_take 1 = .ok (.aload_n 0, 1) := by decide +kernel
theorem dS_take_2 : decode cS_take 2 = .ok (.getfield 48, 3) := by decide +kernel
theorem dS_take_5 : decode cS_take 5 = .ok (.if_icmp .eq 11, 3) := by decide +kernel
theorem dS_take_8 : decode cS_take 8 = .ok (.aload_n 0, 1) := by decide +kernel
theorem dS_take_9 : decode cS_take 9 = .ok (.getfield 41, 3) := by decide +kernel
theorem dS_take_12 : decode cS_take 12 = .ok (.invokevirtual 186, 3) := by decide +kernel
theorem dS_take_15 : decode cS_take 15 = .ok (.return_, 1) := by decide +kernel
theorem dS_take_16 : decode cS_take 16 = .ok (.aload_n 0, 1) := by decide +kernel
theorem dS_take_17 : decode cS_take 17 = .ok (.getfield 24, 3) := by decide +kernel
theorem dS_take_20 : decode cS_take 20 = .ok (.invokevirtual 69, 3) := by decide +kernel
theorem dS_take_23 : decode cS_take 23 = .ok (.istore_n 2, 1) := by decide +kernel
theorem dS_take_24 : decode cS_take 24 = .ok (.aload_n 0, 1) := by decide +kernel
theorem dS_take_25 : decode cS_take 25 = .ok (.getfield 41, 3) := by decide +kernel
theorem dS_take_28 : decode cS_take 28 = .ok (.aload_n 0, 1) := by decide +kernel
theorem dS_take_29 : decode cS_take 29 = .ok (.getfield 24, 3) := by decide +kernel
theorem dS_take_32 : decode cS_take 32 = .ok (.invokevirtual 189, 3) := by decide +kernel
theorem dS_take_35 : decode cS_take 35 = .ok (.aload_n 0, 1) := by decide +kernel
theorem dS_take_36 : decode cS_take 36 = .ok (.dup, 1) := by decide +kernel
theorem dS_take_37 : decode cS_take 37 = .ok (.getfield 159, 3) := by decide +kernel
theorem dS_take_40 : decode cS_take 40 = .ok (.iconst 1, 1) := by decide +kernel
theorem dS_take_41 : decode cS_take 41 = .ok (.iadd, 1) := by decide +kernel
theorem dS_take_42 : decode cS_take 42 = .ok (.putfield 159, 3) := by decide +kernel
theorem dS_take_45 : decode cS_take 45 = .ok (.aload_n 0, 1) := by decide +kernel
theorem dS_take_46 : decode cS_take 46 = .ok (.dup, 1) := by decide +kernel
theorem dS_take_47 : decode cS_take 47 = .ok (.getfield 162, 3) := by decide +kernel
theorem dS_take_50 : decode cS_take 50 = .ok (.iload_n 2, 1) := by decide +kernel
theorem dS_take_51 : decode cS_take 51 = .ok (.aload_n 0, 1) := by decide +kernel
theorem dS_take_52 : decode cS_take 52 = .ok (.getfield 24, 3) := by decide +kernel
theorem dS_take_55 : decode cS_take 55 = .ok (.invokevirtual 69, 3) := by decide +kernel
theorem dS_take_58 : decode cS_take 58 = .ok (.isub, 1) := by decide +kernel
theorem dS_take_59 : decode cS_take 59 = .ok (.iadd, 1) := by decide +kernel
theorem dS_take_60 : decode cS_take 60 = .ok (.putfield 162, 3) := by decide +kernel
theorem dS_take_63 : decode cS_take 63 = .ok (.aload_n 0, 1) := by decide +kernel
theorem dS_take_64 : decode cS_take 64 = .ok (.getfield 41, 3) := by decide +kernel
theorem dS_take_67 : decode cS_take 67 = .ok (.invokevirtual 192, 3) := by decide +kernel
theorem dS_take_70 : decode cS_take 70 = .ok (.ifCond .eq 13, 3) := by decide +kernel
theorem dS_take_73 : decode cS_take 73 = .ok (.aload_n 0, 1) := by decide +kernel
theorem dS_take_74 : decode cS_take 74 = .ok (.dup, 1) := by decide +kernel
theorem dS_take_75 : decode cS_take 75 = .ok (.getfield 165, 3) := by decide +kernel
theorem dS_take_78 : decode cS_take 78 = .ok (.iconst 1, 1) := by decide +kernel
theorem dS_take_79 : decode cS_take 79 = .ok (.iadd, 1) := by decide +kernel
theorem dS_take_80 : decode cS_take 80 = .ok (.putfield 165, 3) := by decide +kernel
theorem dS_take_83 : decode cS_take 83 = .ok (.aload_n 0, 1) := by decide +kernel
theorem dS_take_84 : decode cS_take 84 = .ok (.getfield 41, 3) := by decide +kernel
theorem dS_take_87 : decode cS_take 87 = .ok (.invokevirtual 195, 3) := by decide +kernel
theorem dS_take_90 : decode cS_take 90 = .ok (.return_, 1) := by decide +kernel
theorem dS_askNext_0 : decode cS_askNext 0 = .ok (.iconst 0, 1) := by decide +kernel
theorem dS_askNext_1 : decode cS_askNext 1 = .ok (.istore_n 1, 1) := by decide +kernel
theorem dS_askNext_2 : decode cS_askNext 2 = .ok (.iload_n 1, 1) := by decide +kernel
theorem dS_askNext_3 : decode cS_askNext 3 = .ok (.ldc 198, 2) := by decide +kernel
theorem dS_askNext_5 : decode cS_askNext 5 = .ok (.if_icmp .ge 90, 3) := by decide +kernel
theorem dS_askNext_8 : decode cS_askNext 8 = .ok (.aload_n 0, 1) := by decide +kernel
theorem dS_askNext_9 : decode cS_askNext 9 = .ok (.getfield 41, 3) := by decide +kernel
theorem dS_askNext_12 : decode cS_askNext 12 = .ok (.aload_n 0, 1) := by decide +kernel
theorem dS_askNext_13 : decode cS_askNext 13 = .ok (.getfield 24, 3) := by decide +kernel
theorem dS_askNext_16 : decode cS_askNext 16 = .ok (.invokevirtual 199, 3) := by decide +kernel
theorem dS_askNext_19 : decode cS_askNext 19 = .ok (.ifCond .ne 9, 3) := by decide +kernel
theorem dS_askNext_22 : decode cS_askNext 22 = .ok (.aload_n 0, 1) := by decide +kernel
theorem dS_askNext_23 : decode cS_askNext 23 = .ok (.iconst 2, 1) := by decide +kernel
theorem dS_askNext_24 : decode cS_askNext 24 = .ok (.putfield 45, 3) := by decide +kernel
theorem dS_askNext_27 : decode cS_askNext 27 = .ok (.return_, 1) := by decide +kernel
theorem dS_askNext_28 : decode cS_askNext 28 = .ok (.aload_n 0, 1) := by decide +kernel
theorem dS_askNext_29 : decode cS_askNext 29 = .ok (.getfield 28, 3) := by decide +kernel
theorem dS_askNext_32 : decode cS_askNext 32 = .ok (.aload_n 0, 1) := by decide +kernel
theorem dS_askNext_33 : decode cS_askNext 33 = .ok (.getfield 24, 3) := by decide +kernel
theorem dS_askNext_36 : decode cS_askNext 36 = .ok (.invokevirtual 135, 3) := by decide +kernel
theorem dS_askNext_39 : decode cS_askNext 39 = .ok (.aload_n 0, 1) := by decide +kernel
theorem dS_askNext_40 : decode cS_askNext 40 = .ok (.getfield 41, 3) := by decide +kernel
theorem dS_askNext_43 : decode cS_askNext 43 = .ok (.aload_n 0, 1) := by decide +kernel
theorem dS_askNext_44 : decode cS_askNext 44 = .ok (.getfield 28, 3) := by decide +kernel
theorem dS_askNext_47 : decode cS_askNext 47 = .ok (.invokevirtual 189, 3) := by decide +kernel
theorem dS_askNext_50 : decode cS_askNext 50 = .ok (.aload_n 0, 1) := by decide +kernel
theorem dS_askNext_51 : decode cS_askNext 51 = .ok (.getfield 34, 3) := by decide +kernel
theorem dS_askNext_54 : decode cS_askNext 54 = .ok (.aload_n 0, 1) := by decide +kernel
theorem dS_askNext_55 : decode cS_askNext 55 = .ok (.getfield 28, 3) := by decide +kernel
theorem dS_askNext_58 : decode cS_askNext 58 = .ok (.invokevirtual 146, 3) := by decide +kernel
theorem dS_askNext_61 : decode cS_askNext 61 = .ok (.astore_n 2, 1) := by decide +kernel
theorem dS_askNext_62 : decode cS_askNext 62 = .ok (.aload_n 2, 1) := by decide +kernel
theorem dS_askNext_63 : decode cS_askNext 63 = .ok (.ifnonnull 8, 3) := by decide +kernel
theorem dS_askNext_66 : decode cS_askNext 66 = .ok (.aload_n 0, 1) := by decide +kernel
theorem dS_askNext_67 : decode cS_askNext 67 = .ok (.invokevirtual 203, 3) := by decide +kernel
theorem dS_askNext_70 : decode cS_askNext 70 = .ok (.return_, 1) := by decide +kernel
theorem dS_askNext_71 : decode cS_askNext 71 = .ok (.aload_n 0, 1) := by decide +kernel
theorem dS_askNext_72 : decode cS_askNext 72 = .ok (.dup, 1) := by decide +kernel
theorem dS_askNext_73 : decode cS_askNext 73 = .ok (.getfield 156, 3) := by decide +kernel
theorem dS_askNext_76 : decode cS_askNext 76 = .ok (.iconst 1, 1) := by decide +kernel
theorem dS_askNext_77 : decode cS_askNext 77 = .ok (.iadd, 1) := by decide +kernel
theorem dS_askNext_78 : decode cS_askNext 78 = .ok (.putfield 156, 3) := by decide +kernel
theorem dS_askNext_81 : decode cS_askNext 81 = .ok (.aload_n 0, 1) := by decide +kernel
theorem dS_askNext_82 : decode cS_askNext 82 = .ok (.aload_n 2, 1) := by decide +kernel
theorem dS_askNext_83 : decode cS_askNext 83 = .ok (.invokevirtual 150, 3) := by decide +kernel
theorem dS_askNext_86 : decode cS_askNext 86 = .ok (.invokevirtual 118, 3) := by decide +kernel
theorem dS_askNext_89 : decode cS_askNext 89 = .ok (.iinc 1 1, 3) := by decide +kernel
theorem dS_askNext_92 : decode cS_askNext 92 = .ok (.goto (-90), 3) := by decide +kernel
theorem dS_askNext_95 : decode cS_askNext 95 = .ok (.aload_n 0, 1) := by decide +kernel
theorem dS_askNext_96 : decode cS_askNext 96 = .ok (.iconst 2, 1) := by decide +kernel
theorem dS_askNext_97 : decode cS_askNext 97 = .ok (.putfield 45, 3) := by decide +kernel
theorem dS_askNext_100 : decode cS_askNext 100 = .ok (.return_, 1) := by decide +kernel
theorem dS_ask_0 : decode cS_ask 0 = .ok (.aload_n 0, 1) := by decide +kernel
theorem dS_ask_1 : decode cS_ask 1 = .ok (.getfield 34, 3) := by decide +kernel
theorem dS_ask_4 : decode cS_ask 4 = .ok (.invokevirtual 153, 3) := by decide +kernel
theorem dS_ask_7 : decode cS_ask 7 = .ok (.aload_n 0, 1) := by decide +kernel
theorem dS_ask_8 : decode cS_ask 8 = .ok (.getfield 17, 3) := by decide +kernel
theorem dS_ask_11 : decode cS_ask 11 = .ok (.if_icmp .lt 11, 3) := by decide +kernel
theorem dS_ask_14 : decode cS_ask 14 = .ok (.aload_n 0, 1) := by decide +kernel
theorem dS_ask_15 : decode cS_ask 15 = .ok (.iconst 3, 1) := by decide +kernel
theorem dS_ask_16 : decode cS_ask 16 = .ok (.putfield 45, 3) := by decide +kernel
theorem dS_ask_19 : decode cS_ask 19 = .ok (.goto 14, 3) := by decide +kernel
theorem dS_ask_22 : decode cS_ask 22 = .ok (.aload_n 0, 1) := by decide +kernel
theorem dS_ask_23 : decode cS_ask 23 = .ok (.getfield 34, 3) := by decide +kernel
theorem dS_ask_26 : decode cS_ask 26 = .ok (.aload_n 0, 1) := by decide +kernel
theorem dS_ask_27 : decode cS_ask 27 = .ok (.getfield 28, 3) := by decide +kernel
theorem dS_ask_30 : decode cS_ask 30 = .ok (.invokevirtual 78, 3) := by decide +kernel
theorem dS_ask_33 : decode cS_ask 33 = .ok (.return_, 1) := by decide +kernel
theorem dD_init_0 : decode cD_init 0 = .ok (.aload_n 0, 1) := by decide +kernel
theorem dD_init_1 : decode cD_init 1 = .ok (.invokespecial 1, 3) := by decide +kernel
theorem dD_init_4 : decode cD_init 4 = .ok (.aload_n 0, 1) := by decide +kernel
theorem dD_init_5 : decode cD_init 5 = .ok (.bipush 48, 2) := by decide +kernel
theorem dD_init_7 : decode cD_init 7 = .ok (.newarray .int, 2) := by decide +kernel
theorem dD_init_9 : decode cD_init 9 = .ok (.putfield 7, 3) := by decide +kernel
theorem dD_init_12 : decode cD_init 12 = .ok (.aload_n 0, 1) := by decide +kernel
theorem dD_init_13 : decode cD_init 13 = .ok (.bipush 48, 2) := by decide +kernel
theorem dD_init_15 : decode cD_init 15 = .ok (.newarray .int, 2) := by decide +kernel
theorem dD_init_17 : decode cD_init 17 = .ok (.putfield 13, 3) := by decide +kernel
theorem dD_init_20 : decode cD_init 20 = .ok (.aload_n 0, 1) := by decide +kernel
theorem dD_init_21 : decode cD_init 21 = .ok (.bipush 48, 2) := by decide +kernel
theorem dD_init_23 : decode cD_init 23 = .ok (.newarray .int, 2) := by decide +kernel
theorem dD_init_25 : decode cD_init 25 = .ok (.putfield 16, 3) := by decide +kernel
theorem dD_init_28 : decode cD_init 28 = .ok (.aload_n 0, 1) := by decide +kernel
theorem dD_init_29 : decode cD_init 29 = .ok (.iconst (-1), 1) := by decide +kernel
theorem dD_init_30 : decode cD_init 30 = .ok (.putfield 19, 3) := by decide +kernel
theorem dD_init_33 : decode cD_init 33 = .ok (.aload_n 0, 1) := by decide +kernel
theorem dD_init_34 : decode cD_init 34 = .ok (.sipush 600, 3) := by decide +kernel
theorem dD_init_37 : decode cD_init 37 = .ok (.newarray .int, 2) := by decide +kernel
theorem dD_init_39 : decode cD_init 39 = .ok (.putfield 23, 3) := by decide +kernel
theorem dD_init_42 : decode cD_init 42 = .ok (.aload_n 0, 1) := by decide +kernel
theorem dD_init_43 : decode cD_init 43 = .ok (.sipush 28800, 3) := by decide +kernel
theorem dD_init_46 : decode cD_init 46 = .ok (.newarray .int, 2) := by decide +kernel
theorem dD_init_48 : decode cD_init 48 = .ok (.putfield 26, 3) := by decide +kernel
theorem dD_init_51 : decode cD_init 51 = .ok (.aload_n 0, 1) := by decide +kernel
theorem dD_init_52 : decode cD_init 52 = .ok (.sipush 600, 3) := by decide +kernel
theorem dD_init_55 : decode cD_init 55 = .ok (.newarray .int, 2) := by decide +kernel
theorem dD_init_57 : decode cD_init 57 = .ok (.putfield 29, 3) := by decide +kernel
theorem dD_init_60 : decode cD_init 60 = .ok (.iload_n 1, 1) := by decide +kernel
theorem dD_init_61 : decode cD_init 61 = .ok (.sipush 600, 3) := by decide +kernel
theorem dD_init_64 : decode cD_init 64 = .ok (.irem, 1) := by decide +kernel
theorem dD_init_65 : decode cD_init 65 = .ok (.sipush 600, 3) := by decide +kernel
theorem dD_init_68 : decode cD_init 68 = .ok (.iadd, 1) := by decide +kernel
theorem dD_init_69 : decode cD_init 69 = .ok (.sipush 600, 3) := by decide +kernel
theorem dD_init_72 : decode cD_init 72 = .ok (.irem, 1) := by decide +kernel
theorem dD_init_73 : decode cD_init 73 = .ok (.istore_n 2, 1) := by decide +kernel
theorem dD_init_74 : decode cD_init 74 = .ok (.aload_n 0, 1) := by decide +kernel
theorem dD_init_75 : decode cD_init 75 = .ok (.iload_n 2, 1) := by decide +kernel
theorem dD_init_76 : decode cD_init 76 = .ok (.ifCond .ne 9, 3) := by decide +kernel
theorem dD_init_79 : decode cD_init 79 = .ok (.sipush 600, 3) := by decide +kernel
theorem dD_init_82 : decode cD_init 82 = .ok (.goto 4, 3) := by decide +kernel
theorem dD_init_85 : decode cD_init 85 = .ok (.iload_n 2, 1) := by decide +kernel
theorem dD_init_86 : decode cD_init 86 = .ok (.putfield 32, 3) := by decide +kernel
theorem dD_init_89 : decode cD_init 89 = .ok (.return_, 1) := by decide +kernel
theorem dD_thrown_0 : decode cD_thrown 0 = .ok (.aload_n 0, 1) := by decide +kernel
theorem dD_thrown_1 : decode cD_thrown 1 = .ok (.getfield 35, 3) := by decide +kernel
theorem dD_thrown_4 : decode cD_thrown 4 = .ok (.ireturn, 1) := by decide +kernel
theorem dD_fail_0 : decode cD_fail 0 = .ok (.aload_n 0, 1) := by decide +kernel
theorem dD_fail_1 : decode cD_fail 1 = .ok (.iload_n 1, 1) := by decide +kernel
theorem dD_fail_2 : decode cD_fail 2 = .ok (.putfield 35, 3) := by decide +kernel
theorem dD_fail_5 : decode cD_fail 5 = .ok (.iconst 0, 1) := by decide +kernel
theorem dD_fail_6 : decode cD_fail 6 = .ok (.ireturn, 1) := by decide +kernel
theorem dD_within_0 : decode cD_within 0 = .ok (.iload_n 0, 1) := by decide +kernel
theorem dD_within_1 : decode cD_within 1 = .ok (.iload_n 1, 1) := by decide +kernel
theorem dD_within_2 : decode cD_within 2 = .ok (.if_icmp .lt 12, 3) := by decide +kernel
theorem dD_within_5 : decode cD_within 5 = .ok (.iload_n 0, 1) := by decide +kernel
theorem dD_within_6 : decode cD_within 6 = .ok (.iload_n 2, 1) := by decide +kernel
theorem dD_within_7 : decode cD_within 7 = .ok (.if_icmp .gt 7, 3) := by decide +kernel
theorem dD_within_10 : decode cD_within 10 = .ok (.iconst 1, 1) := by decide +kernel
theorem dD_within_11 : decode cD_within 11 = .ok (.goto 4, 3) := by decide +kernel
theorem dD_within_14 : decode cD_within 14 = .ok (.iconst 0, 1) := by decide +kernel
theorem dD_within_15 : decode cD_within 15 = .ok (.ireturn, 1) := by decide +kernel
theorem dD_feed_0 : decode cD_feed 0 = .ok (.aload_n 0, 1) := by decide +kernel
theorem dD_feed_1 : decode cD_feed 1 = .ok (.iconst 0, 1) := by decide +kernel
theorem dD_feed_2 : decode cD_feed 2 = .ok (.putfield 35, 3) := by decide +kernel
theorem dD_feed_5 : decode cD_feed 5 = .ok (.aload_n 0, 1) := by decide +kernel
theorem dD_feed_6 : decode cD_feed 6 = .ok (.getfield 38, 3) := by decide +kernel
theorem dD_feed_9 : decode cD_feed 9 = .ok (.ifCond .ne 18, 3) := by decide +kernel
theorem dD_feed_12 : decode cD_feed 12 = .ok (.aload_n 0, 1) := by decide +kernel
theorem dD_feed_13 : decode cD_feed 13 = .ok (.getfield 41, 3) := by decide +kernel
theorem dD_feed_16 : decode cD_feed 16 = .ok (.bipush 48, 2) := by decide +kernel
theorem dD_feed_18 : decode cD_feed 18 = .ok (.if_icmp .ne 9, 3) := by decide +kernel
theorem dD_feed_21 : decode cD_feed 21 = .ok (.aload_n 0, 1) := by decide +kernel
theorem dD_feed_22 : decode cD_feed 22 = .ok (.iconst 1, 1) := by decide +kernel
theorem dD_feed_23 : decode cD_feed 23 = .ok (.invokevirtual 44, 3) := by decide +kernel
theorem dD_feed_26 : decode cD_feed 26 = .ok (.ireturn, 1) := by decide +kernel
theorem dD_feed_27 : decode cD_feed 27 = .ok (.aload_n 0, 1) := by decide +kernel
theorem dD_feed_28 : decode cD_feed 28 = .ok (.getfield 38, 3) := by decide +kernel
theorem dD_feed_31 : decode cD_feed 31 = .ok (.ifCond .eq 48, 3) := by decide +kernel
theorem dD_feed_34 : decode cD_feed 34 = .ok (.aload_n 0, 1) := by decide +kernel
theorem dD_feed_35 : decode cD_feed 35 = .ok (.iconst 0, 1) := by decide +kernel
theorem dD_feed_36 : decode cD_feed 36 = .ok (.putfield 38, 3) := by decide +kernel
theorem dD_feed_39 : decode cD_feed 39 = .ok (.aload_n 0, 1) := by decide +kernel
theorem dD_feed_40 : decode cD_feed 40 = .ok (.iconst 0, 1) := by decide +kernel
theorem dD_feed_41 : decode cD_feed 41 = .ok (.putfield 41, 3) := by decide +kernel
theorem dD_feed_44 : decode cD_feed 44 = .ok (.aload_n 0, 1) := by decide +kernel
theorem dD_feed_45 : decode cD_feed 45 = .ok (.iconst 0, 1) := by decide +kernel
theorem dD_feed_46 : decode cD_feed 46 = .ok (.putfield 48, 3) := by decide +kernel
theorem dD_feed_49 : decode cD_feed 49 = .ok (.aload_n 0, 1) := by decide +kernel
theorem dD_feed_50 : decode cD_feed 50 = .ok (.iconst 0, 1) := by decide +kernel
theorem dD_feed_51 : decode cD_feed 51 = .ok (.putfield 51, 3) := by decide +kernel
theorem dD_feed_54 : decode cD_feed 54 = .ok (.aload_n 0, 1) := by decide +kernel
theorem dD_feed_55 : decode cD_feed 55 = .ok (.iconst 0, 1) := by decide +kernel
theorem dD_feed_56 : decode cD_feed 56 = .ok (.putfield 54, 3) := by decide +kernel
theorem dD_feed_59 : decode cD_feed 59 = .ok (.aload_n 0, 1) := by decide +kernel
theorem dD_feed_60 : decode cD_feed 60 = .ok (.iconst 0, 1) := by decide +kernel
theorem dD_feed_61 : decode cD_feed 61 = .ok (.putfield 57, 3) := by decide +kernel
theorem dD_feed_64 : decode cD_feed 64 = .ok (.aload_n 0, 1) := by decide +kernel
theorem dD_feed_65 : decode cD_feed 65 = .ok (.iconst 0, 1) := by decide +kernel
theorem dD_feed_66 : decode cD_feed 66 = .ok (.putfield 60, 3) := by decide +kernel
theorem dD_feed_69 : decode cD_feed 69 = .ok (.aload_n 0, 1) := by decide +kernel
theorem dD_feed_70 : decode cD_feed 70 = .ok (.iconst 0, 1) := by decide +kernel
theorem dD_feed_71 : decode cD_feed 71 = .ok (.putfield 63, 3) := by decide +kernel
theorem dD_feed_74 : decode cD_feed 74 = .ok (.aload_n 0, 1) := by decide +kernel
theorem dD_feed_75 : decode cD_feed 75 = .ok (.iconst (-1), 1) := by decide +kernel
theorem dD_feed_76 : decode cD_feed 76 = .ok (.putfield 19, 3) := by decide +kernel
theorem dD_feed_79 : decode cD_feed 79 = .ok (.aload_n 0, 1) := by decide +kernel
theorem dD_feed_80 : decode cD_feed 80 = .ok (.getfield 7, 3) := by decide +kernel
theorem dD_feed_83 : decode cD_feed 83 = .ok (.aload_n 0, 1) := by decide +kernel
theorem dD_feed_84 : decode cD_feed 84 = .ok (.getfield 41, 3) := by decide +kernel
theorem dD_feed_87 : decode cD_feed 87 = .ok (.iload_n 1, 1) := by decide +kernel
theorem dD_feed_88 : decode cD_feed 88 = .ok (.iastore, 1) := by decide +kernel
theorem dD_feed_89 : decode cD_feed 89 = .ok (.aload_n 0, 1) := by decide +kernel
theorem dD_feed_90 : decode cD_feed 90 = .ok (.getfield 13, 3) := by decide +kernel
theorem dD_feed_93 : decode cD_feed 93 = .ok (.aload_n 0, 1) := by decide +kernel
theorem dD_feed_94 : decode cD_feed 94 = .ok (.getfield 41, 3) := by decide +kernel
theorem dD_feed_97 : decode cD_feed 97 = .ok (.aload_n 0, 1) := by decide +kernel
theorem dD_feed_98 : decode cD_feed 98 = .ok (.getfield 41, 3) := by decide +kernel
theorem dD_feed_101 : decode cD_feed 101 = .ok (.iastore, 1) := by decide +kernel
theorem dD_feed_102 : decode cD_feed 102 = .ok (.aload_n 0, 1) := by decide +kernel
theorem dD_feed_103 : decode cD_feed 103 = .ok (.dup, 1) := by decide +kernel
theorem dD_feed_104 : decode cD_feed 104 = .ok (.getfield 41, 3) := by decide +kernel
theorem dD_feed_107 : decode cD_feed 107 = .ok (.iconst 1, 1) := by decide +kernel
theorem dD_feed_108 : decode cD_feed 108 = .ok (.iadd, 1) := by decide +kernel
theorem dD_feed_109 : decode cD_feed 109 = .ok (.putfield 41, 3) := by decide +kernel
theorem dD_feed_112 : decode cD_feed 112 = .ok (.aload_n 0, 1) := by decide +kernel
theorem dD_feed_113 : decode cD_feed 113 = .ok (.getfield 41, 3) := by decide +kernel
theorem dD_feed_116 : decode cD_feed 116 = .ok (.ireturn, 1) := by decide +kernel
theorem dD_isAsked_0 : decode cD_isAsked 0 = .ok (.aload_n 0, 1) := by decide +kernel
theorem dD_isAsked_1 : decode cD_isAsked 1 = .ok (.getfield 23, 3) := by decide +kernel
theorem dD_isAsked_4 : decode cD_isAsked 4 = .ok (.iload_n 1, 1) := by decide +kernel
theorem dD_isAsked_5 : decode cD_isAsked 5 = .ok (.iaload, 1) := by decide +kernel
theorem dD_isAsked_6 : decode cD_isAsked 6 = .ok (.aload_n 0, 1) := by decide +kernel
theorem dD_isAsked_7 : decode cD_isAsked 7 = .ok (.getfield 66, 3) := by decide +kernel
theorem dD_isAsked_10 : decode cD_isAsked 10 = .ok (.if_icmp .eq 5, 3) := by decide +kernel
theorem dD_isAsked_13 : decode cD_isAsked 13 = .ok (.iconst 0, 1) := by decide +kernel
theorem dD_isAsked_14 : decode cD_isAsked 14 = .ok (.ireturn, 1) := by decide +kernel
theorem dD_isAsked_15 : decode cD_isAsked 15 = .ok (.iconst 0, 1) := by decide +kernel
theorem dD_isAsked_16 : decode cD_isAsked 16 = .ok (.istore_n 2, 1) := by decide +kernel
theorem dD_isAsked_17 : decode cD_isAsked 17 = .ok (.iload_n 2, 1) := by decide +kernel
theorem dD_isAsked_18 : decode cD_isAsked 18 = .ok (.aload_n 0, 1) := by decide +kernel
theorem dD_isAsked_19 : decode cD_isAsked 19 = .ok (.getfield 66, 3) := by decide +kernel
theorem dD_isAsked_22 : decode cD_isAsked 22 = .ok (.if_icmp .ge 31, 3) := by decide +kernel
theorem dD_isAsked_25 : decode cD_isAsked 25 = .ok (.aload_n 0, 1) := by decide +kernel
theorem dD_isAsked_26 : decode cD_isAsked 26 = .ok (.getfield 26, 3) := by decide +kernel
theorem dD_isAsked_29 : decode cD_isAsked 29 = .ok (.bipush 48, 2) := by decide +kernel
theorem dD_isAsked_31 : decode cD_isAsked 31 = .ok (.iload_n 1, 1) := by decide +kernel
theorem dD_isAsked_32 : decode cD_isAsked 32 = .ok (.imul, 1) := by decide +kernel
theorem dD_isAsked_33 : decode cD_isAsked 33 = .ok (.iload_n 2, 1) := by decide +kernel
theorem dD_isAsked_34 : decode cD_isAsked 34 = .ok (.iadd, 1) := by decide +kernel
theorem dD_isAsked_35 : decode cD_isAsked 35 = .ok (.iaload, 1) := by decide +kernel
theorem dD_isAsked_36 : decode cD_isAsked 36 = .ok (.aload_n 0, 1) := by decide +kernel
theorem dD_isAsked_37 : decode cD_isAsked 37 = .ok (.getfield 16, 3) := by decide +kernel
theorem dD_isAsked_40 : decode cD_isAsked 40 = .ok (.iload_n 2, 1) := by decide +kernel
theorem dD_isAsked_41 : decode cD_isAsked 41 = .ok (.iaload, 1) := by decide +kernel
theorem dD_isAsked_42 : decode cD_isAsked 42 = .ok (.if_icmp .eq 5, 3) := by decide +kernel
theorem dD_isAsked_45 : decode cD_isAsked 45 = .ok (.iconst 0, 1) := by decide +kernel
theorem dD_isAsked_46 : decode cD_isAsked 46 = .ok (.ireturn, 1) := by decide +kernel
theorem dD_isAsked_47 : decode cD_isAsked 47 = .ok (.iinc 2 1, 3) := by decide +kernel
theorem dD_isAsked_50 : decode cD_isAsked 50 = .ok (.goto (-33), 3) := by decide +kernel
theorem dD_isAsked_53 : decode cD_isAsked 53 = .ok (.iconst 1, 1) := by decide +kernel
theorem dD_isAsked_54 : decode cD_isAsked 54 = .ok (.ireturn, 1) := by decide +kernel
theorem dD_find_0 : decode cD_find 0 = .ok (.iconst 0, 1) := by decide +kernel
theorem dD_find_1 : decode cD_find 1 = .ok (.istore_n 1, 1) := by decide +kernel
theorem dD_find_2 : decode cD_find 2 = .ok (.iload_n 1, 1) := by decide +kernel
theorem dD_find_3 : decode cD_find 3 = .ok (.aload_n 0, 1) := by decide +kernel
theorem dD_find_4 : decode cD_find 4 = .ok (.getfield 48, 3) := by decide +kernel
theorem dD_find_7 : decode cD_find 7 = .ok (.if_icmp .ge 19, 3) := by decide +kernel
theorem dD_find_10 : decode cD_find 10 = .ok (.aload_n 0, 1) := by decide +kernel
theorem dD_find_11 : decode cD_find 11 = .ok (.iload_n 1, 1) := by decide +kernel
theorem dD_find_12 : decode cD_find 12 = .ok (.invokevirtual 69, 3) := by decide +kernel
theorem dD_find_15 : decode cD_find 15 = .ok (.ifCond .eq 5, 3) := by decide +kernel
theorem dD_find_18 : decode cD_find 18 = .ok (.iload_n 1, 1) := by decide +kernel
theorem dD_find_19 : decode cD_find 19 = .ok (.ireturn, 1) := by decide +kernel
theorem dD_find_20 : decode cD_find 20 = .ok (.iinc 1 1, 3) := by decide +kernel
theorem dD_find_23 : decode cD_find 23 = .ok (.goto (-21), 3) := by decide +kernel
theorem dD_find_26 : decode cD_find 26 = .ok (.iconst (-1), 1) := by decide +kernel
theorem dD_find_27 : decode cD_find 27 = .ok (.ireturn, 1) := by decide +kernel
end
section
-- decode rows, a row an instruction (by wip/gen/names.py)
theorem dD_without_0 : decode cD_without 0 = .ok (.aload_n 0, 1) := by decide +kernel
theorem dD_without_1 : decode cD_without 1 = .ok (.iconst 0, 1) := by decide +kernel
theorem dD_without_2 : decode cD_without 2 = .ok (.putfield 66, 3) := by decide +kernel
theorem dD_without_5 : decode cD_without 5 = .ok (.iconst 0, 1) := by decide +kernel
theorem dD_without_6 : decode cD_without 6 = .ok (.istore_n 3, 1) := by decide +kernel
theorem dD_without_7 : decode cD_without 7 = .ok (.iload_n 3, 1) := by decide +kernel
theorem dD_without_8 : decode cD_without 8 = .ok (.aload_n 0, 1) := by decide +kernel
theorem dD_without_9 : decode cD_without 9 = .ok (.getfield 41, 3) := by decide +kernel
theorem dD_without_12 : decode cD_without 12 = .ok (.if_icmp .ge 46, 3) := by decide +kernel
theorem dD_without_15 : decode cD_without 15 = .ok (.iload_n 3, 1) := by decide +kernel
theorem dD_without_16 : decode cD_without 16 = .ok (.iload_n 1, 1) := by decide +kernel
theorem dD_without_17 : decode cD_without 17 = .ok (.if_icmp .lt 10, 3) := by decide +kernel
theorem dD_without_20 : decode cD_without 20 = .ok (.iload_n 3, 1) := by decide +kernel
theorem dD_without_21 : decode cD_without 21 = .ok (.iload_n 1, 1) := by decide +kernel
theorem dD_without_22 : decode cD_without 22 = .ok (.iload_n 2, 1) := by decide +kernel
theorem dD_without_23 : decode cD_without 23 = .ok (.iadd, 1) := by decide +kernel
theorem dD_without_24 : decode cD_without 24 = .ok (.if_icmp .lt 28, 3) := by decide +kernel
theorem dD_without_27 : decode cD_without 27 = .ok (.aload_n 0, 1) := by decide +kernel
theorem dD_without_28 : decode cD_without 28 = .ok (.getfield 16, 3) := by decide +kernel
theorem dD_without_31 : decode cD_without 31 = .ok (.aload_n 0, 1) := by decide +kernel
theorem dD_without_32 : decode cD_without 32 = .ok (.getfield 66, 3) := by decide +kernel
theorem dD_without_35 : decode cD_without 35 = .ok (.aload_n 0, 1) := by decide +kernel
theorem dD_without_36 : decode cD_without 36 = .ok (.getfield 7, 3) := by decide +kernel
theorem dD_without_39 : decode cD_without 39 = .ok (.iload_n 3, 1) := by decide +kernel
theorem dD_without_40 : decode cD_without 40 = .ok (.iaload, 1) := by decide +kernel
theorem dD_without_41 : decode cD_without 41 = .ok (.iastore, 1) := by decide +kernel
theorem dD_without_42 : decode cD_without 42 = .ok (.aload_n 0, 1) := by decide +kernel
theorem dD_without_43 : decode cD_without 43 = .ok (.dup, 1) := by decide +kernel
theorem dD_without_44 : decode cD_without 44 = .ok (.getfield 66, 3) := by decide +kernel
theorem dD_without_47 : decode cD_without 47 = .ok (.iconst 1, 1) := by decide +kernel
theorem dD_without_48 : decode cD_without 48 = .ok (.iadd, 1) := by decide +kernel
theorem dD_without_49 : decode cD_without 49 = .ok (.putfield 66, 3) := by decide +kernel
theorem dD_without_52 : decode cD_without 52 = .ok (.iinc 3 1, 3) := by decide +kernel
theorem dD_without_55 : decode cD_without 55 = .ok (.goto (-48), 3) := by decide +kernel
theorem dD_without_58 : decode cD_without 58 = .ok (.return_, 1) := by decide +kernel
theorem dD_withByte_0 : decode cD_withByte 0 = .ok (.iconst 0, 1) := by decide +kernel
theorem dD_withByte_1 : decode cD_withByte 1 = .ok (.istore 4, 2) := by decide +kernel
theorem dD_withByte_3 : decode cD_withByte 3 = .ok (.iload 4, 2) := by decide +kernel
theorem dD_withByte_5 : decode cD_withByte 5 = .ok (.aload_n 0, 1) := by decide +kernel
theorem dD_withByte_6 : decode cD_withByte 6 = .ok (.getfield 41, 3) := by decide +kernel
theorem dD_withByte_9 : decode cD_withByte 9 = .ok (.if_icmp .ge 23, 3) := by decide +kernel
theorem dD_withByte_12 : decode cD_withByte 12 = .ok (.aload_n 0, 1) := by decide +kernel
theorem dD_withByte_13 : decode cD_withByte 13 = .ok (.getfield 16, 3) := by decide +kernel
theorem dD_withByte_16 : decode cD_withByte 16 = .ok (.iload 4, 2) := by decide +kernel
theorem dD_withByte_18 : decode cD_withByte 18 = .ok (.aload_n 0, 1) := by decide +kernel
theorem dD_withByte_19 : decode cD_withByte 19 = .ok (.getfield 7, 3) := by decide +kernel
theorem dD_withByte_22 : decode cD_withByte 22 = .ok (.iload 4, 2) := by decide +kernel
theorem dD_withByte_24 : decode cD_withByte 24 = .ok (.iaload, 1) := by decide +kernel
theorem dD_withByte_25 : decode cD_withByte 25 = .ok (.iastore, 1) := by decide +kernel
theorem dD_withByte_26 : decode cD_withByte 26 = .ok (.iinc 4 1, 3) := by decide +kernel
theorem dD_withByte_29 : decode cD_withByte 29 = .ok (.goto (-26), 3) := by decide +kernel
theorem dD_withByte_32 : decode cD_withByte 32 = .ok (.bipush 24, 2) := by decide +kernel
theorem dD_withByte_34 : decode cD_withByte 34 = .ok (.bipush 8, 2) := by decide +kernel
theorem dD_withByte_36 : decode cD_withByte 36 = .ok (.iload_n 2, 1) := by decide +kernel
theorem dD_withByte_37 : decode cD_withByte 37 = .ok (.imul, 1) := by decide +kernel
theorem dD_withByte_38 : decode cD_withByte 38 = .ok (.isub, 1) := by decide +kernel
theorem dD_withByte_39 : decode cD_withByte 39 = .ok (.istore 4, 2) := by decide +kernel
theorem dD_withByte_41 : decode cD_withByte 41 = .ok (.aload_n 0, 1) := by decide +kernel
theorem dD_withByte_42 : decode cD_withByte 42 = .ok (.getfield 16, 3) := by decide +kernel
theorem dD_withByte_45 : decode cD_withByte 45 = .ok (.iload_n 1, 1) := by decide +kernel
theorem dD_withByte_46 : decode cD_withByte 46 = .ok (.aload_n 0, 1) := by decide +kernel
theorem dD_withByte_47 : decode cD_withByte 47 = .ok (.getfield 7, 3) := by decide +kernel
theorem dD_withByte_50 : decode cD_withByte 50 = .ok (.iload_n 1, 1) := by decide +kernel
theorem dD_withByte_51 : decode cD_withByte 51 = .ok (.iaload, 1) := by decide +kernel
theorem dD_withByte_52 : decode cD_withByte 52 = .ok (.sipush 255, 3) := by decide +kernel
theorem dD_withByte_55 : decode cD_withByte 55 = .ok (.iload 4, 2) := by decide +kernel
theorem dD_withByte_57 : decode cD_withByte 57 = .ok (.ishl, 1) := by decide +kernel
theorem dD_withByte_58 : decode cD_withByte 58 = .ok (.iconst (-1), 1) := by decide +kernel
theorem dD_withByte_59 : decode cD_withByte 59 = .ok (.ixor, 1) := by decide +kernel
theorem dD_withByte_60 : decode cD_withByte 60 = .ok (.iand, 1) := by decide +kernel
theorem dD_withByte_61 : decode cD_withByte 61 = .ok (.iload_n 3, 1) := by decide +kernel
theorem dD_withByte_62 : decode cD_withByte 62 = .ok (.iload 4, 2) := by decide +kernel
theorem dD_withByte_64 : decode cD_withByte 64 = .ok (.ishl, 1) := by decide +kernel
theorem dD_withByte_65 : decode cD_withByte 65 = .ok (.ior, 1) := by decide +kernel
theorem dD_withByte_66 : decode cD_withByte 66 = .ok (.iastore, 1) := by decide +kernel
theorem dD_withByte_67 : decode cD_withByte 67 = .ok (.aload_n 0, 1) := by decide +kernel
theorem dD_withByte_68 : decode cD_withByte 68 = .ok (.aload_n 0, 1) := by decide +kernel
theorem dD_withByte_69 : decode cD_withByte 69 = .ok (.getfield 41, 3) := by decide +kernel
theorem dD_withByte_72 : decode cD_withByte 72 = .ok (.putfield 66, 3) := by decide +kernel
theorem dD_withByte_75 : decode cD_withByte 75 = .ok (.return_, 1) := by decide +kernel
theorem dD_byteOf_0 : decode cD_byteOf 0 = .ok (.aload_n 0, 1) := by decide +kernel
theorem dD_byteOf_1 : decode cD_byteOf 1 = .ok (.getfield 7, 3) := by decide +kernel
theorem dD_byteOf_4 : decode cD_byteOf 4 = .ok (.iload_n 1, 1) := by decide +kernel
theorem dD_byteOf_5 : decode cD_byteOf 5 = .ok (.iaload, 1) := by decide +kernel
theorem dD_byteOf_6 : decode cD_byteOf 6 = .ok (.bipush 24, 2) := by decide +kernel
theorem dD_byteOf_8 : decode cD_byteOf 8 = .ok (.bipush 8, 2) := by decide +kernel
theorem dD_byteOf_10 : decode cD_byteOf 10 = .ok (.iload_n 2, 1) := by decide +kernel
theorem dD_byteOf_11 : decode cD_byteOf 11 = .ok (.imul, 1) := by decide +kernel
theorem dD_byteOf_12 : decode cD_byteOf 12 = .ok (.isub, 1) := by decide +kernel
theorem dD_byteOf_13 : decode cD_byteOf 13 = .ok (.iushr, 1) := by decide +kernel
theorem dD_byteOf_14 : decode cD_byteOf 14 = .ok (.sipush 255, 3) := by decide +kernel
theorem dD_byteOf_17 : decode cD_byteOf 17 = .ok (.iand, 1) := by decide +kernel
theorem dD_byteOf_18 : decode cD_byteOf 18 = .ok (.ireturn, 1) := by decide +kernel
theorem dD_lowerTo_0 : decode cD_lowerTo 0 = .ok (.aload_n 0, 1) := by decide +kernel
theorem dD_lowerTo_1 : decode cD_lowerTo 1 = .ok (.aload_n 0, 1) := by decide +kernel
theorem dD_lowerTo_2 : decode cD_lowerTo 2 = .ok (.getfield 73, 3) := by decide +kernel
theorem dD_lowerTo_5 : decode cD_lowerTo 5 = .ok (.aload_n 0, 1) := by decide +kernel
theorem dD_lowerTo_6 : decode cD_lowerTo 6 = .ok (.getfield 76, 3) := by decide +kernel
theorem dD_lowerTo_9 : decode cD_lowerTo 9 = .ok (.invokevirtual 79, 3) := by decide +kernel
theorem dD_lowerTo_12 : decode cD_lowerTo 12 = .ok (.istore_n 1, 1) := by decide +kernel
theorem dD_lowerTo_13 : decode cD_lowerTo 13 = .ok (.aload_n 0, 1) := by decide +kernel
theorem dD_lowerTo_14 : decode cD_lowerTo 14 = .ok (.getfield 83, 3) := by decide +kernel
theorem dD_lowerTo_17 : decode cD_lowerTo 17 = .ok (.ifCond .ne 15, 3) := by decide +kernel
theorem dD_lowerTo_20 : decode cD_lowerTo 20 = .ok (.iload_n 1, 1) := by decide +kernel
theorem dD_lowerTo_21 : decode cD_lowerTo 21 = .ok (.ifCond .ne 7, 3) := by decide +kernel
theorem dD_lowerTo_24 : decode cD_lowerTo 24 = .ok (.iconst (-1), 1) := by decide +kernel
theorem dD_lowerTo_25 : decode cD_lowerTo 25 = .ok (.goto 24, 3) := by decide +kernel
theorem dD_lowerTo_28 : decode cD_lowerTo 28 = .ok (.iconst 0, 1) := by decide +kernel
theorem dD_lowerTo_29 : decode cD_lowerTo 29 = .ok (.goto 20, 3) := by decide +kernel
theorem dD_lowerTo_32 : decode cD_lowerTo 32 = .ok (.aload_n 0, 1) := by decide +kernel
theorem dD_lowerTo_33 : decode cD_lowerTo 33 = .ok (.getfield 83, 3) := by decide +kernel
theorem dD_lowerTo_36 : decode cD_lowerTo 36 = .ok (.iconst 1, 1) := by decide +kernel
theorem dD_lowerTo_37 : decode cD_lowerTo 37 = .ok (.if_icmp .ne 9, 3) := by decide +kernel
theorem dD_lowerTo_40 : decode cD_lowerTo 40 = .ok (.iload_n 1, 1) := by decide +kernel
theorem dD_lowerTo_41 : decode cD_lowerTo 41 = .ok (.iconst 2, 1) := by decide +kernel
theorem dD_lowerTo_42 : decode cD_lowerTo 42 = .ok (.idiv, 1) := by decide +kernel
theorem dD_lowerTo_43 : decode cD_lowerTo 43 = .ok (.goto 6, 3) := by decide +kernel
theorem dD_lowerTo_46 : decode cD_lowerTo 46 = .ok (.iload_n 1, 1) := by decide +kernel
theorem dD_lowerTo_47 : decode cD_lowerTo 47 = .ok (.iconst 1, 1) := by decide +kernel
theorem dD_lowerTo_48 : decode cD_lowerTo 48 = .ok (.isub, 1) := by decide +kernel
theorem dD_lowerTo_49 : decode cD_lowerTo 49 = .ok (.istore_n 2, 1) := by decide +kernel
theorem dD_lowerTo_50 : decode cD_lowerTo 50 = .ok (.aload_n 0, 1) := by decide +kernel
theorem dD_lowerTo_51 : decode cD_lowerTo 51 = .ok (.getfield 83, 3) := by decide +kernel
theorem dD_lowerTo_54 : decode cD_lowerTo 54 = .ok (.ifCond .eq 7, 3) := by decide +kernel
theorem dD_lowerTo_57 : decode cD_lowerTo 57 = .ok (.iload_n 2, 1) := by decide +kernel
theorem dD_lowerTo_58 : decode cD_lowerTo 58 = .ok (.ifCond .le 7, 3) := by decide +kernel
theorem dD_lowerTo_61 : decode cD_lowerTo 61 = .ok (.iload_n 2, 1) := by decide +kernel
theorem dD_lowerTo_62 : decode cD_lowerTo 62 = .ok (.goto 4, 3) := by decide +kernel
theorem dD_lowerTo_65 : decode cD_lowerTo 65 = .ok (.iconst (-1), 1) := by decide +kernel
theorem dD_lowerTo_66 : decode cD_lowerTo 66 = .ok (.ireturn, 1) := by decide +kernel
theorem dD_beginLeaving_0 : decode cD_beginLeaving 0 = .ok (.aload_n 0, 1) := by decide +kernel
theorem dD_beginLeaving_1 : decode cD_beginLeaving 1 = .ok (.iconst 0, 1) := by decide +kernel
theorem dD_beginLeaving_2 : decode cD_beginLeaving 2 = .ok (.putfield 86, 3) := by decide +kernel
theorem dD_beginLeaving_5 : decode cD_beginLeaving 5 = .ok (.aload_n 0, 1) := by decide +kernel
theorem dD_beginLeaving_6 : decode cD_beginLeaving 6 = .ok (.iload_n 1, 1) := by decide +kernel
theorem dD_beginLeaving_7 : decode cD_beginLeaving 7 = .ok (.putfield 90, 3) := by decide +kernel
theorem dD_beginLeaving_10 : decode cD_beginLeaving 10 = .ok (.aload_n 0, 1) := by decide +kernel
theorem dD_beginLeaving_11 : decode cD_beginLeaving 11 = .ok (.iconst 0, 1) := by decide +kernel
theorem dD_beginLeaving_12 : decode cD_beginLeaving 12 = .ok (.putfield 93, 3) := by decide +kernel
theorem dD_beginLeaving_15 : decode cD_beginLeaving 15 = .ok (.aload_n 0, 1) := by decide +kernel
theorem dD_beginLeaving_16 : decode cD_beginLeaving 16 = .ok (.iconst 0, 1) := by decide +kernel
theorem dD_beginLeaving_17 : decode cD_beginLeaving 17 = .ok (.putfield 96, 3) := by decide +kernel
theorem dD_beginLeaving_20 : decode cD_beginLeaving 20 = .ok (.aload_n 0, 1) := by decide +kernel
theorem dD_beginLeaving_21 : decode cD_beginLeaving 21 = .ok (.dup, 1) := by decide +kernel
theorem dD_beginLeaving_22 : decode cD_beginLeaving 22 = .ok (.getfield 63, 3) := by decide +kernel
theorem dD_beginLeaving_25 : decode cD_beginLeaving 25 = .ok (.iconst 1, 1) := by decide +kernel
theorem dD_beginLeaving_26 : decode cD_beginLeaving 26 = .ok (.iadd, 1) := by decide +kernel
theorem dD_beginLeaving_27 : decode cD_beginLeaving 27 = .ok (.putfield 63, 3) := by decide +kernel
theorem dD_beginLeaving_30 : decode cD_beginLeaving 30 = .ok (.return_, 1) := by decide +kernel
theorem dD_beginLowering_0 : decode cD_beginLowering 0 = .ok (.aload_n 0, 1) := by decide +kernel
theorem dD_beginLowering_1 : decode cD_beginLowering 1 = .ok (.iconst 1, 1) := by decide +kernel
theorem dD_beginLowering_2 : decode cD_beginLowering 2 = .ok (.putfield 86, 3) := by decide +kernel
theorem dD_beginLowering_5 : decode cD_beginLowering 5 = .ok (.aload_n 0, 1) := by decide +kernel
theorem dD_beginLowering_6 : decode cD_beginLowering 6 = .ok (.iconst 0, 1) := by decide +kernel
theorem dD_beginLowering_7 : decode cD_beginLowering 7 = .ok (.putfield 99, 3) := by decide +kernel
theorem dD_beginLowering_10 : decode cD_beginLowering 10 = .ok (.aload_n 0, 1) := by decide +kernel
theorem dD_beginLowering_11 : decode cD_beginLowering 11 = .ok (.iconst 0, 1) := by decide +kernel
theorem dD_beginLowering_12 : decode cD_beginLowering 12 = .ok (.putfield 73, 3) := by decide +kernel
theorem dD_beginLowering_15 : decode cD_beginLowering 15 = .ok (.aload_n 0, 1) := by decide +kernel
theorem dD_beginLowering_16 : decode cD_beginLowering 16 = .ok (.iconst 0, 1) := by decide +kernel
theorem dD_beginLowering_17 : decode cD_beginLowering 17 = .ok (.putfield 76, 3) := by decide +kernel
theorem dD_beginLowering_20 : decode cD_beginLowering 20 = .ok (.aload_n 0, 1) := by decide +kernel
theorem dD_beginLowering_21 : decode cD_beginLowering 21 = .ok (.iconst 0, 1) := by decide +kernel
theorem dD_beginLowering_22 : decode cD_beginLowering 22 = .ok (.putfield 83, 3) := by decide +kernel
theorem dD_beginLowering_25 : decode cD_beginLowering 25 = .ok (.return_, 1) := by decide +kernel
theorem dD_nextByte_0 : decode cD_nextByte 0 = .ok (.aload_n 0, 1) := by decide +kernel
theorem dD_nextByte_1 : decode cD_nextByte 1 = .ok (.iconst 0, 1) := by decide +kernel
theorem dD_nextByte_2 : decode cD_nextByte 2 = .ok (.putfield 83, 3) := by decide +kernel
theorem dD_nextByte_5 : decode cD_nextByte 5 = .ok (.aload_n 0, 1) := by decide +kernel
theorem dD_nextByte_6 : decode cD_nextByte 6 = .ok (.dup, 1) := by decide +kernel
theorem dD_nextByte_7 : decode cD_nextByte 7 = .ok (.getfield 76, 3) := by decide +kernel
theorem dD_nextByte_10 : decode cD_nextByte 10 = .ok (.iconst 1, 1) := by decide +kernel
theorem dD_nextByte_11 : decode cD_nextByte 11 = .ok (.iadd, 1) := by decide +kernel
theorem dD_nextByte_12 : decode cD_nextByte 12 = .ok (.putfield 76, 3) := by decide +kernel
theorem dD_nextByte_15 : decode cD_nextByte 15 = .ok (.aload_n 0, 1) := by decide +kernel
theorem dD_nextByte_16 : decode cD_nextByte 16 = .ok (.getfield 76, 3) := by decide +kernel
theorem dD_nextByte_19 : decode cD_nextByte 19 = .ok (.iconst 4, 1) := by decide +kernel
theorem dD_nextByte_20 : decode cD_nextByte 20 = .ok (.if_icmp .ge 4, 3) := by decide +kernel
theorem dD_nextByte_23 : decode cD_nextByte 23 = .ok (.return_, 1) := by decide +kernel
theorem dD_nextByte_24 : decode cD_nextByte 24 = .ok (.aload_n 0, 1) := by decide +kernel
theorem dD_nextByte_25 : decode cD_nextByte 25 = .ok (.iconst 0, 1) := by decide +kernel
theorem dD_nextByte_26 : decode cD_nextByte 26 = .ok (.putfield 76, 3) := by decide +kernel
theorem dD_nextByte_29 : decode cD_nextByte 29 = .ok (.aload_n 0, 1) := by decide +kernel
theorem dD_nextByte_30 : decode cD_nextByte 30 = .ok (.dup, 1) := by decide +kernel
theorem dD_nextByte_31 : decode cD_nextByte 31 = .ok (.getfield 73, 3) := by decide +kernel
theorem dD_nextByte_34 : decode cD_nextByte 34 = .ok (.iconst 1, 1) := by decide +kernel
theorem dD_nextByte_35 : decode cD_nextByte 35 = .ok (.iadd, 1) := by decide +kernel
theorem dD_nextByte_36 : decode cD_nextByte 36 = .ok (.putfield 73, 3) := by decide +kernel
theorem dD_nextByte_39 : decode cD_nextByte 39 = .ok (.return_, 1) := by decide +kernel
theorem dD_endPass_0 : decode cD_endPass 0 = .ok (.aload_n 0, 1) := by decide +kernel
theorem dD_endPass_1 : decode cD_endPass 1 = .ok (.getfield 90, 3) := by decide +kernel
theorem dD_endPass_4 : decode cD_endPass 4 = .ok (.iconst 1, 1) := by decide +kernel
theorem dD_endPass_5 : decode cD_endPass 5 = .ok (.if_icmp .gt 10, 3) := by decide +kernel
theorem dD_endPass_8 : decode cD_endPass 8 = .ok (.aload_n 0, 1) := by decide +kernel
theorem dD_endPass_9 : decode cD_endPass 9 = .ok (.getfield 96, 3) := by decide +kernel
theorem dD_endPass_12 : decode cD_endPass 12 = .ok (.ifCond .eq 7, 3) := by decide +kernel
theorem dD_endPass_15 : decode cD_endPass 15 = .ok (.iconst 1, 1) := by decide +kernel
theorem dD_endPass_16 : decode cD_endPass 16 = .ok (.goto 4, 3) := by decide +kernel
theorem dD_endPass_19 : decode cD_endPass 19 = .ok (.iconst 0, 1) := by decide +kernel
theorem dD_endPass_20 : decode cD_endPass 20 = .ok (.istore_n 1, 1) := by decide +kernel
theorem dD_endPass_21 : decode cD_endPass 21 = .ok (.aload_n 0, 1) := by decide +kernel
theorem dD_endPass_22 : decode cD_endPass 22 = .ok (.aload_n 0, 1) := by decide +kernel
theorem dD_endPass_23 : decode cD_endPass 23 = .ok (.getfield 90, 3) := by decide +kernel
theorem dD_endPass_26 : decode cD_endPass 26 = .ok (.iconst 1, 1) := by decide +kernel
theorem dD_endPass_27 : decode cD_endPass 27 = .ok (.if_icmp .le 12, 3) := by decide +kernel
theorem dD_endPass_30 : decode cD_endPass 30 = .ok (.aload_n 0, 1) := by decide +kernel
theorem dD_endPass_31 : decode cD_endPass 31 = .ok (.getfield 90, 3) := by decide +kernel
theorem dD_endPass_34 : decode cD_endPass 34 = .ok (.iconst 2, 1) := by decide +kernel
theorem dD_endPass_35 : decode cD_endPass 35 = .ok (.idiv, 1) := by decide +kernel
theorem dD_endPass_36 : decode cD_endPass 36 = .ok (.goto 4, 3) := by decide +kernel
theorem dD_endPass_39 : decode cD_endPass 39 = .ok (.iconst 1, 1) := by decide +kernel
theorem dD_endPass_40 : decode cD_endPass 40 = .ok (.putfield 90, 3) := by decide +kernel
theorem dD_endPass_43 : decode cD_endPass 43 = .ok (.aload_n 0, 1) := by decide +kernel
theorem dD_endPass_44 : decode cD_endPass 44 = .ok (.iconst 0, 1) := by decide +kernel
theorem dD_endPass_45 : decode cD_endPass 45 = .ok (.putfield 93, 3) := by decide +kernel
theorem dD_endPass_48 : decode cD_endPass 48 = .ok (.aload_n 0, 1) := by decide +kernel
theorem dD_endPass_49 : decode cD_endPass 49 = .ok (.iconst 0, 1) := by decide +kernel
theorem dD_endPass_50 : decode cD_endPass 50 = .ok (.putfield 96, 3) := by decide +kernel
theorem dD_endPass_53 : decode cD_endPass 53 = .ok (.iload_n 1, 1) := by decide +kernel
theorem dD_endPass_54 : decode cD_endPass 54 = .ok (.ifCond .ne 7, 3) := by decide +kernel
theorem dD_endPass_57 : decode cD_endPass 57 = .ok (.aload_n 0, 1) := by decide +kernel
theorem dD_endPass_58 : decode cD_endPass 58 = .ok (.invokevirtual 102, 3) := by decide +kernel
theorem dD_endPass_61 : decode cD_endPass 61 = .ok (.return_, 1) := by decide +kernel
theorem dD_prepare_0 : decode cD_prepare 0 = .ok (.aload_n 0, 1) := by decide +kernel
theorem dD_prepare_1 : decode cD_prepare 1 = .ok (.getfield 38, 3) := by decide +kernel
theorem dD_prepare_4 : decode cD_prepare 4 = .ok (.iconst 1, 1) := by decide +kernel
theorem dD_prepare_5 : decode cD_prepare 5 = .ok (.if_icmp .ne 137, 3) := by decide +kernel
theorem dD_prepare_8 : decode cD_prepare 8 = .ok (.aload_n 0, 1) := by decide +kernel
theorem dD_prepare_9 : decode cD_prepare 9 = .ok (.getfield 86, 3) := by decide +kernel
theorem dD_prepare_12 : decode cD_prepare 12 = .ok (.ifCond .ne 28, 3) := by decide +kernel
theorem dD_prepare_15 : decode cD_prepare 15 = .ok (.aload_n 0, 1) := by decide +kernel
theorem dD_prepare_16 : decode cD_prepare 16 = .ok (.getfield 93, 3) := by decide +kernel
theorem dD_prepare_19 : decode cD_prepare 19 = .ok (.aload_n 0, 1) := by decide +kernel
theorem dD_prepare_20 : decode cD_prepare 20 = .ok (.getfield 41, 3) := by decide +kernel
theorem dD_prepare_23 : decode cD_prepare 23 = .ok (.if_icmp .ge 17, 3) := by decide +kernel
theorem dD_prepare_26 : decode cD_prepare 26 = .ok (.aload_n 0, 1) := by decide +kernel
theorem dD_prepare_27 : decode cD_prepare 27 = .ok (.aload_n 0, 1) := by decide +kernel
theorem dD_prepare_28 : decode cD_prepare 28 = .ok (.getfield 93, 3) := by decide +kernel
theorem dD_prepare_31 : decode cD_prepare 31 = .ok (.aload_n 0, 1) := by decide +kernel
theorem dD_prepare_32 : decode cD_prepare 32 = .ok (.getfield 90, 3) := by decide +kernel
theorem dD_prepare_35 : decode cD_prepare 35 = .ok (.invokevirtual 105, 3) := by decide +kernel
theorem dD_prepare_38 : decode cD_prepare 38 = .ok (.iconst 1, 1) := by decide +kernel
theorem dD_prepare_39 : decode cD_prepare 39 = .ok (.ireturn, 1) := by decide +kernel
theorem dD_prepare_40 : decode cD_prepare 40 = .ok (.aload_n 0, 1) := by decide +kernel
theorem dD_prepare_41 : decode cD_prepare 41 = .ok (.getfield 86, 3) := by decide +kernel
theorem dD_prepare_44 : decode cD_prepare 44 = .ok (.ifCond .ne 10, 3) := by decide +kernel
theorem dD_prepare_47 : decode cD_prepare 47 = .ok (.aload_n 0, 1) := by decide +kernel
theorem dD_prepare_48 : decode cD_prepare 48 = .ok (.invokevirtual 109, 3) := by decide +kernel
theorem dD_prepare_51 : decode cD_prepare 51 = .ok (.goto (-51), 3) := by decide +kernel
theorem dD_prepare_54 : decode cD_prepare 54 = .ok (.aload_n 0, 1) := by decide +kernel
theorem dD_prepare_55 : decode cD_prepare 55 = .ok (.getfield 73, 3) := by decide +kernel
theorem dD_prepare_58 : decode cD_prepare 58 = .ok (.aload_n 0, 1) := by decide +kernel
theorem dD_prepare_59 : decode cD_prepare 59 = .ok (.getfield 41, 3) := by decide +kernel
theorem dD_prepare_62 : decode cD_prepare 62 = .ok (.if_icmp .lt 33, 3) := by decide +kernel
theorem dD_prepare_65 : decode cD_prepare 65 = .ok (.aload_n 0, 1) := by decide +kernel
theorem dD_prepare_66 : decode cD_prepare 66 = .ok (.getfield 99, 3) := by decide +kernel
theorem dD_prepare_69 : decode cD_prepare 69 = .ok (.ifCond .eq 18, 3) := by decide +kernel
theorem dD_prepare_72 : decode cD_prepare 72 = .ok (.aload_n 0, 1) := by decide +kernel
theorem dD_prepare_73 : decode cD_prepare 73 = .ok (.getfield 41, 3) := by decide +kernel
theorem dD_prepare_76 : decode cD_prepare 76 = .ok (.ifCond .le 11, 3) := by decide +kernel
theorem dD_prepare_79 : decode cD_prepare 79 = .ok (.aload_n 0, 1) := by decide +kernel
theorem dD_prepare_80 : decode cD_prepare 80 = .ok (.iconst 1, 1) := by decide +kernel
theorem dD_prepare_81 : decode cD_prepare 81 = .ok (.invokevirtual 112, 3) := by decide +kernel
theorem dD_prepare_84 : decode cD_prepare 84 = .ok (.goto (-84), 3) := by decide +kernel
theorem dD_prepare_87 : decode cD_prepare 87 = .ok (.aload_n 0, 1) := by decide +kernel
theorem dD_prepare_88 : decode cD_prepare 88 = .ok (.iconst 2, 1) := by decide +kernel
theorem dD_prepare_89 : decode cD_prepare 89 = .ok (.putfield 38, 3) := by decide +kernel
theorem dD_prepare_92 : decode cD_prepare 92 = .ok (.goto (-92), 3) := by decide +kernel
theorem dD_prepare_95 : decode cD_prepare 95 = .ok (.aload_n 0, 1) := by decide +kernel
theorem dD_prepare_96 : decode cD_prepare 96 = .ok (.invokevirtual 116, 3) := by decide +kernel
theorem dD_prepare_99 : decode cD_prepare 99 = .ok (.istore_n 1, 1) := by decide +kernel
theorem dD_prepare_100 : decode cD_prepare 100 = .ok (.iload_n 1, 1) := by decide +kernel
theorem dD_prepare_101 : decode cD_prepare 101 = .ok (.ifCond .lt 18, 3) := by decide +kernel
theorem dD_prepare_104 : decode cD_prepare 104 = .ok (.aload_n 0, 1) := by decide +kernel
theorem dD_prepare_105 : decode cD_prepare 105 = .ok (.aload_n 0, 1) := by decide +kernel
theorem dD_prepare_106 : decode cD_prepare 106 = .ok (.getfield 73, 3) := by decide +kernel
theorem dD_prepare_109 : decode cD_prepare 109 = .ok (.aload_n 0, 1) := by decide +kernel
theorem dD_prepare_110 : decode cD_prepare 110 = .ok (.getfield 76, 3) := by decide +kernel
theorem dD_prepare_113 : decode cD_prepare 113 = .ok (.iload_n 1, 1) := by decide +kernel
theorem dD_prepare_114 : decode cD_prepare 114 = .ok (.invokevirtual 120, 3) := by decide +kernel
theorem dD_prepare_117 : decode cD_prepare 117 = .ok (.iconst 1, 1) := by decide +kernel
theorem dD_prepare_118 : decode cD_prepare 118 = .ok (.ireturn, 1) := by decide +kernel
theorem dD_prepare_119 : decode cD_prepare 119 = .ok (.aload_n 0, 1) := by decide +kernel
theorem dD_prepare_120 : decode cD_prepare 120 = .ok (.getfield 83, 3) := by decide +kernel
theorem dD_prepare_123 : decode cD_prepare 123 = .ok (.iconst 1, 1) := by decide +kernel
theorem dD_prepare_124 : decode cD_prepare 124 = .ok (.if_icmp .ne 11, 3) := by decide +kernel
theorem dD_prepare_127 : decode cD_prepare 127 = .ok (.aload_n 0, 1) := by decide +kernel
theorem dD_prepare_128 : decode cD_prepare 128 = .ok (.iconst 2, 1) := by decide +kernel
theorem dD_prepare_129 : decode cD_prepare 129 = .ok (.putfield 83, 3) := by decide +kernel
theorem dD_prepare_132 : decode cD_prepare 132 = .ok (.goto 7, 3) := by decide +kernel
theorem dD_prepare_135 : decode cD_prepare 135 = .ok (.aload_n 0, 1) := by decide +kernel
theorem dD_prepare_136 : decode cD_prepare 136 = .ok (.invokevirtual 124, 3) := by decide +kernel
theorem dD_prepare_139 : decode cD_prepare 139 = .ok (.goto (-139), 3) := by decide +kernel
theorem dD_prepare_142 : decode cD_prepare 142 = .ok (.iconst 0, 1) := by decide +kernel
theorem dD_prepare_143 : decode cD_prepare 143 = .ok (.ireturn, 1) := by decide +kernel
theorem dD_takeLeaving_0 : decode cD_takeLeaving 0 = .ok (.aload_n 0, 1) := by decide +kernel
theorem dD_takeLeaving_1 : decode cD_takeLeaving 1 = .ok (.getfield 41, 3) := by decide +kernel
theorem dD_takeLeaving_4 : decode cD_takeLeaving 4 = .ok (.aload_n 0, 1) := by decide +kernel
theorem dD_takeLeaving_5 : decode cD_takeLeaving 5 = .ok (.getfield 66, 3) := by decide +kernel
theorem dD_takeLeaving_8 : decode cD_takeLeaving 8 = .ok (.isub, 1) := by decide +kernel
theorem dD_takeLeaving_9 : decode cD_takeLeaving 9 = .ok (.istore_n 1, 1) := by decide +kernel
theorem dD_takeLeaving_10 : decode cD_takeLeaving 10 = .ok (.aload_n 0, 1) := by decide +kernel
theorem dD_takeLeaving_11 : decode cD_takeLeaving 11 = .ok (.getfield 93, 3) := by decide +kernel
theorem dD_takeLeaving_14 : decode cD_takeLeaving 14 = .ok (.istore_n 2, 1) := by decide +kernel
theorem dD_takeLeaving_15 : decode cD_takeLeaving 15 = .ok (.iload_n 2, 1) := by decide +kernel
theorem dD_takeLeaving_16 : decode cD_takeLeaving 16 = .ok (.aload_n 0, 1) := by decide +kernel
theorem dD_takeLeaving_17 : decode cD_takeLeaving 17 = .ok (.getfield 66, 3) := by decide +kernel
theorem dD_takeLeaving_20 : decode cD_takeLeaving 20 = .ok (.if_icmp .ge 23, 3) := by decide +kernel
theorem dD_takeLeaving_23 : decode cD_takeLeaving 23 = .ok (.aload_n 0, 1) := by decide +kernel
theorem dD_takeLeaving_24 : decode cD_takeLeaving 24 = .ok (.getfield 13, 3) := by decide +kernel
theorem dD_takeLeaving_27 : decode cD_takeLeaving 27 = .ok (.iload_n 2, 1) := by decide +kernel
theorem dD_takeLeaving_28 : decode cD_takeLeaving 28 = .ok (.aload_n 0, 1) := by decide +kernel
theorem dD_takeLeaving_29 : decode cD_takeLeaving 29 = .ok (.getfield 13, 3) := by decide +kernel
theorem dD_takeLeaving_32 : decode cD_takeLeaving 32 = .ok (.iload_n 2, 1) := by decide +kernel
theorem dD_takeLeaving_33 : decode cD_takeLeaving 33 = .ok (.iload_n 1, 1) := by decide +kernel
theorem dD_takeLeaving_34 : decode cD_takeLeaving 34 = .ok (.iadd, 1) := by decide +kernel
theorem dD_takeLeaving_35 : decode cD_takeLeaving 35 = .ok (.iaload, 1) := by decide +kernel
theorem dD_takeLeaving_36 : decode cD_takeLeaving 36 = .ok (.iastore, 1) := by decide +kernel
theorem dD_takeLeaving_37 : decode cD_takeLeaving 37 = .ok (.iinc 2 1, 3) := by decide +kernel
theorem dD_takeLeaving_40 : decode cD_takeLeaving 40 = .ok (.goto (-25), 3) := by decide +kernel
theorem dD_takeLeaving_43 : decode cD_takeLeaving 43 = .ok (.iconst 0, 1) := by decide +kernel
theorem dD_takeLeaving_44 : decode cD_takeLeaving 44 = .ok (.istore_n 2, 1) := by decide +kernel
theorem dD_takeLeaving_45 : decode cD_takeLeaving 45 = .ok (.iload_n 2, 1) := by decide +kernel
theorem dD_takeLeaving_46 : decode cD_takeLeaving 46 = .ok (.aload_n 0, 1) := by decide +kernel
theorem dD_takeLeaving_47 : decode cD_takeLeaving 47 = .ok (.getfield 66, 3) := by decide +kernel
theorem dD_takeLeaving_50 : decode cD_takeLeaving 50 = .ok (.if_icmp .ge 21, 3) := by decide +kernel
theorem dD_takeLeaving_53 : decode cD_takeLeaving 53 = .ok (.aload_n 0, 1) := by decide +kernel
theorem dD_takeLeaving_54 : decode cD_takeLeaving 54 = .ok (.getfield 7, 3) := by decide +kernel
theorem dD_takeLeaving_57 : decode cD_takeLeaving 57 = .ok (.iload_n 2, 1) := by decide +kernel
theorem dD_takeLeaving_58 : decode cD_takeLeaving 58 = .ok (.aload_n 0, 1) := by decide +kernel
theorem dD_takeLeaving_59 : decode cD_takeLeaving 59 = .ok (.getfield 16, 3) := by decide +kernel
theorem dD_takeLeaving_62 : decode cD_takeLeaving 62 = .ok (.iload_n 2, 1) := by decide +kernel
theorem dD_takeLeaving_63 : decode cD_takeLeaving 63 = .ok (.iaload, 1) := by decide +kernel
theorem dD_takeLeaving_64 : decode cD_takeLeaving 64 = .ok (.iastore, 1) := by decide +kernel
theorem dD_takeLeaving_65 : decode cD_takeLeaving 65 = .ok (.iinc 2 1, 3) := by decide +kernel
theorem dD_takeLeaving_68 : decode cD_takeLeaving 68 = .ok (.goto (-23), 3) := by decide +kernel
theorem dD_takeLeaving_71 : decode cD_takeLeaving 71 = .ok (.aload_n 0, 1) := by decide +kernel
theorem dD_takeLeaving_72 : decode cD_takeLeaving 72 = .ok (.aload_n 0, 1) := by decide +kernel
theorem dD_takeLeaving_73 : decode cD_takeLeaving 73 = .ok (.getfield 66, 3) := by decide +kernel
theorem dD_takeLeaving_76 : decode cD_takeLeaving 76 = .ok (.putfield 41, 3) := by decide +kernel
theorem dD_takeLeaving_79 : decode cD_takeLeaving 79 = .ok (.aload_n 0, 1) := by decide +kernel
theorem dD_takeLeaving_80 : decode cD_takeLeaving 80 = .ok (.dup, 1) := by decide +kernel
theorem dD_takeLeaving_81 : decode cD_takeLeaving 81 = .ok (.getfield 57, 3) := by decide +kernel
theorem dD_takeLeaving_84 : decode cD_takeLeaving 84 = .ok (.iload_n 1, 1) := by decide +kernel
theorem dD_takeLeaving_85 : decode cD_takeLeaving 85 = .ok (.iadd, 1) := by decide +kernel
theorem dD_takeLeaving_86 : decode cD_takeLeaving 86 = .ok (.putfield 57, 3) := by decide +kernel
theorem dD_takeLeaving_89 : decode cD_takeLeaving 89 = .ok (.aload_n 0, 1) := by decide +kernel
theorem dD_takeLeaving_90 : decode cD_takeLeaving 90 = .ok (.iconst 1, 1) := by decide +kernel
theorem dD_takeLeaving_91 : decode cD_takeLeaving 91 = .ok (.putfield 96, 3) := by decide +kernel
theorem dD_takeLeaving_94 : decode cD_takeLeaving 94 = .ok (.return_, 1) := by decide +kernel
theorem dD_takeLowering_0 : decode cD_takeLowering 0 = .ok (.aload_n 0, 1) := by decide +kernel
theorem dD_takeLowering_1 : decode cD_takeLowering 1 = .ok (.getfield 7, 3) := by decide +kernel
theorem dD_takeLowering_4 : decode cD_takeLowering 4 = .ok (.aload_n 0, 1) := by decide +kernel
theorem dD_takeLowering_5 : decode cD_takeLowering 5 = .ok (.getfield 73, 3) := by decide +kernel
theorem dD_takeLowering_8 : decode cD_takeLowering 8 = .ok (.aload_n 0, 1) := by decide +kernel
theorem dD_takeLowering_9 : decode cD_takeLowering 9 = .ok (.getfield 16, 3) := by decide +kernel
theorem dD_takeLowering_12 : decode cD_takeLowering 12 = .ok (.aload_n 0, 1) := by decide +kernel
theorem dD_takeLowering_13 : decode cD_takeLowering 13 = .ok (.getfield 73, 3) := by decide +kernel
theorem dD_takeLowering_16 : decode cD_takeLowering 16 = .ok (.iaload, 1) := by decide +kernel
theorem dD_takeLowering_17 : decode cD_takeLowering 17 = .ok (.iastore, 1) := by decide +kernel
theorem dD_takeLowering_18 : decode cD_takeLowering 18 = .ok (.aload_n 0, 1) := by decide +kernel
theorem dD_takeLowering_19 : decode cD_takeLowering 19 = .ok (.dup, 1) := by decide +kernel
theorem dD_takeLowering_20 : decode cD_takeLowering 20 = .ok (.getfield 60, 3) := by decide +kernel
theorem dD_takeLowering_23 : decode cD_takeLowering 23 = .ok (.iconst 1, 1) := by decide +kernel
theorem dD_takeLowering_24 : decode cD_takeLowering 24 = .ok (.iadd, 1) := by decide +kernel
theorem dD_takeLowering_25 : decode cD_takeLowering 25 = .ok (.putfield 60, 3) := by decide +kernel
theorem dD_takeLowering_28 : decode cD_takeLowering 28 = .ok (.aload_n 0, 1) := by decide +kernel
theorem dD_takeLowering_29 : decode cD_takeLowering 29 = .ok (.iconst 1, 1) := by decide +kernel
theorem dD_takeLowering_30 : decode cD_takeLowering 30 = .ok (.putfield 99, 3) := by decide +kernel
theorem dD_takeLowering_33 : decode cD_takeLowering 33 = .ok (.aload_n 0, 1) := by decide +kernel
theorem dD_takeLowering_34 : decode cD_takeLowering 34 = .ok (.getfield 83, 3) := by decide +kernel
theorem dD_takeLowering_37 : decode cD_takeLowering 37 = .ok (.ifCond .ne 7, 3) := by decide +kernel
theorem dD_takeLowering_40 : decode cD_takeLowering 40 = .ok (.aload_n 0, 1) := by decide +kernel
theorem dD_takeLowering_41 : decode cD_takeLowering 41 = .ok (.invokevirtual 124, 3) := by decide +kernel
theorem dD_takeLowering_44 : decode cD_takeLowering 44 = .ok (.return_, 1) := by decide +kernel
theorem dD_answered_0 : decode cD_answered 0 = .ok (.iload_n 1, 1) := by decide +kernel
theorem dD_answered_1 : decode cD_answered 1 = .ok (.aload_n 0, 1) := by decide +kernel
theorem dD_answered_2 : decode cD_answered 2 = .ok (.getfield 19, 3) := by decide +kernel
theorem dD_answered_5 : decode cD_answered 5 = .ok (.if_icmp .ne 7, 3) := by decide +kernel
theorem dD_answered_8 : decode cD_answered 8 = .ok (.iconst 1, 1) := by decide +kernel
theorem dD_answered_9 : decode cD_answered 9 = .ok (.goto 4, 3) := by decide +kernel
theorem dD_answered_12 : decode cD_answered 12 = .ok (.iconst 0, 1) := by decide +kernel
theorem dD_answered_13 : decode cD_answered 13 = .ok (.istore_n 2, 1) := by decide +kernel
theorem dD_answered_14 : decode cD_answered 14 = .ok (.aload_n 0, 1) := by decide +kernel
theorem dD_answered_15 : decode cD_answered 15 = .ok (.dup, 1) := by decide +kernel
theorem dD_answered_16 : decode cD_answered 16 = .ok (.getfield 54, 3) := by decide +kernel
theorem dD_answered_19 : decode cD_answered 19 = .ok (.iload_n 2, 1) := by decide +kernel
theorem dD_answered_20 : decode cD_answered 20 = .ok (.ifCond .eq 7, 3) := by decide +kernel
theorem dD_answered_23 : decode cD_answered 23 = .ok (.iconst 1, 1) := by decide +kernel
theorem dD_answered_24 : decode cD_answered 24 = .ok (.goto 4, 3) := by decide +kernel
theorem dD_answered_27 : decode cD_answered 27 = .ok (.iconst 0, 1) := by decide +kernel
theorem dD_answered_28 : decode cD_answered 28 = .ok (.iadd, 1) := by decide +kernel
theorem dD_answered_29 : decode cD_answered 29 = .ok (.putfield 54, 3) := by decide +kernel
theorem dD_answered_32 : decode cD_answered 32 = .ok (.aload_n 0, 1) := by decide +kernel
theorem dD_answered_33 : decode cD_answered 33 = .ok (.getfield 86, 3) := by decide +kernel
theorem dD_answered_36 : decode cD_answered 36 = .ok (.ifCond .ne 30, 3) := by decide +kernel
theorem dD_answered_39 : decode cD_answered 39 = .ok (.iload_n 2, 1) := by decide +kernel
theorem dD_answered_40 : decode cD_answered 40 = .ok (.ifCond .eq 10, 3) := by decide +kernel
theorem dD_answered_43 : decode cD_answered 43 = .ok (.aload_n 0, 1) := by decide +kernel
theorem dD_answered_44 : decode cD_answered 44 = .ok (.invokevirtual 127, 3) := by decide +kernel
theorem dD_answered_47 : decode cD_answered 47 = .ok (.goto 55, 3) := by decide +kernel
theorem dD_answered_50 : decode cD_answered 50 = .ok (.aload_n 0, 1) := by decide +kernel
theorem dD_answered_51 : decode cD_answered 51 = .ok (.dup, 1) := by decide +kernel
theorem dD_answered_52 : decode cD_answered 52 = .ok (.getfield 93, 3) := by decide +kernel
theorem dD_answered_55 : decode cD_answered 55 = .ok (.aload_n 0, 1) := by decide +kernel
theorem dD_answered_56 : decode cD_answered 56 = .ok (.getfield 90, 3) := by decide +kernel
theorem dD_answered_59 : decode cD_answered 59 = .ok (.iadd, 1) := by decide +kernel
theorem dD_answered_60 : decode cD_answered 60 = .ok (.putfield 93, 3) := by decide +kernel
theorem dD_answered_63 : decode cD_answered 63 = .ok (.goto 39, 3) := by decide +kernel
theorem dD_answered_66 : decode cD_answered 66 = .ok (.iload_n 2, 1) := by decide +kernel
theorem dD_answered_67 : decode cD_answered 67 = .ok (.ifCond .eq 10, 3) := by decide +kernel
theorem dD_answered_70 : decode cD_answered 70 = .ok (.aload_n 0, 1) := by decide +kernel
theorem dD_answered_71 : decode cD_answered 71 = .ok (.invokevirtual 130, 3) := by decide +kernel
theorem dD_answered_74 : decode cD_answered 74 = .ok (.goto 28, 3) := by decide +kernel
theorem dD_answered_77 : decode cD_answered 77 = .ok (.aload_n 0, 1) := by decide +kernel
theorem dD_answered_78 : decode cD_answered 78 = .ok (.getfield 83, 3) := by decide +kernel
theorem dD_answered_81 : decode cD_answered 81 = .ok (.iconst 2, 1) := by decide +kernel
theorem dD_answered_82 : decode cD_answered 82 = .ok (.if_icmp .ne 10, 3) := by decide +kernel
theorem dD_answered_85 : decode cD_answered 85 = .ok (.aload_n 0, 1) := by decide +kernel
theorem dD_answered_86 : decode cD_answered 86 = .ok (.invokevirtual 124, 3) := by decide +kernel
theorem dD_answered_89 : decode cD_answered 89 = .ok (.goto 13, 3) := by decide +kernel
theorem dD_answered_92 : decode cD_answered 92 = .ok (.aload_n 0, 1) := by decide +kernel
theorem dD_answered_93 : decode cD_answered 93 = .ok (.dup, 1) := by decide +kernel
theorem dD_answered_94 : decode cD_answered 94 = .ok (.getfield 83, 3) := by decide +kernel
theorem dD_answered_97 : decode cD_answered 97 = .ok (.iconst 1, 1) := by decide +kernel
theorem dD_answered_98 : decode cD_answered 98 = .ok (.iadd, 1) := by decide +kernel
theorem dD_answered_99 : decode cD_answered 99 = .ok (.putfield 83, 3) := by decide +kernel
theorem dD_answered_102 : decode cD_answered 102 = .ok (.return_, 1) := by decide +kernel
theorem dD_goOn_0 : decode cD_goOn 0 = .ok (.aload_n 0, 1) := by decide +kernel
theorem dD_goOn_1 : decode cD_goOn 1 = .ok (.invokevirtual 133, 3) := by decide +kernel
theorem dD_goOn_4 : decode cD_goOn 4 = .ok (.ifCond .eq 59, 3) := by decide +kernel
theorem dD_goOn_7 : decode cD_goOn 7 = .ok (.aload_n 0, 1) := by decide +kernel
theorem dD_goOn_8 : decode cD_goOn 8 = .ok (.invokevirtual 137, 3) := by decide +kernel
theorem dD_goOn_11 : decode cD_goOn 11 = .ok (.istore_n 1, 1) := by decide +kernel
theorem dD_goOn_12 : decode cD_goOn 12 = .ok (.iload_n 1, 1) := by decide +kernel
theorem dD_goOn_13 : decode cD_goOn 13 = .ok (.ifCond .ge 27, 3) := by decide +kernel
theorem dD_goOn_16 : decode cD_goOn 16 = .ok (.aload_n 0, 1) := by decide +kernel
theorem dD_goOn_17 : decode cD_goOn 17 = .ok (.getfield 48, 3) := by decide +kernel
theorem dD_goOn_20 : decode cD_goOn 20 = .ok (.aload_n 0, 1) := by decide +kernel
theorem dD_goOn_21 : decode cD_goOn 21 = .ok (.getfield 32, 3) := by decide +kernel
theorem dD_goOn_24 : decode cD_goOn 24 = .ok (.if_icmp .ne 11, 3) := by decide +kernel
theorem dD_goOn_27 : decode cD_goOn 27 = .ok (.aload_n 0, 1) := by decide +kernel
theorem dD_goOn_28 : decode cD_goOn 28 = .ok (.iconst 3, 1) := by decide +kernel
theorem dD_goOn_29 : decode cD_goOn 29 = .ok (.putfield 38, 3) := by decide +kernel
theorem dD_goOn_32 : decode cD_goOn 32 = .ok (.goto 7, 3) := by decide +kernel
theorem dD_goOn_35 : decode cD_goOn 35 = .ok (.aload_n 0, 1) := by decide +kernel
theorem dD_goOn_36 : decode cD_goOn 36 = .ok (.invokevirtual 140, 3) := by decide +kernel
theorem dD_goOn_39 : decode cD_goOn 39 = .ok (.return_, 1) := by decide +kernel
theorem dD_goOn_40 : decode cD_goOn 40 = .ok (.aload_n 0, 1) := by decide +kernel
theorem dD_goOn_41 : decode cD_goOn 41 = .ok (.dup, 1) := by decide +kernel
theorem dD_goOn_42 : decode cD_goOn 42 = .ok (.getfield 51, 3) := by decide +kernel
theorem dD_goOn_45 : decode cD_goOn 45 = .ok (.iconst 1, 1) := by decide +kernel
theorem dD_goOn_46 : decode cD_goOn 46 = .ok (.iadd, 1) := by decide +kernel
theorem dD_goOn_47 : decode cD_goOn 47 = .ok (.putfield 51, 3) := by decide +kernel
theorem dD_goOn_50 : decode cD_goOn 50 = .ok (.aload_n 0, 1) := by decide +kernel
theorem dD_goOn_51 : decode cD_goOn 51 = .ok (.aload_n 0, 1) := by decide +kernel
theorem dD_goOn_52 : decode cD_goOn 52 = .ok (.getfield 29, 3) := by decide +kernel
theorem dD_goOn_55 : decode cD_goOn 55 = .ok (.iload_n 1, 1) := by decide +kernel
theorem dD_goOn_56 : decode cD_goOn 56 = .ok (.iaload, 1) := by decide +kernel
theorem dD_goOn_57 : decode cD_goOn 57 = .ok (.invokevirtual 143, 3) := by decide +kernel
theorem dD_goOn_60 : decode cD_goOn 60 = .ok (.goto (-60), 3) := by decide +kernel
theorem dD_goOn_63 : decode cD_goOn 63 = .ok (.return_, 1) := by decide +kernel
theorem dD_put_0 : decode cD_put 0 = .ok (.aload_n 0, 1) := by decide +kernel
theorem dD_put_1 : decode cD_put 1 = .ok (.getfield 23, 3) := by decide +kernel
theorem dD_put_4 : decode cD_put 4 = .ok (.aload_n 0, 1) := by decide +kernel
theorem dD_put_5 : decode cD_put 5 = .ok (.getfield 48, 3) := by decide +kernel
theorem dD_put_8 : decode cD_put 8 = .ok (.aload_n 0, 1) := by decide +kernel
theorem dD_put_9 : decode cD_put 9 = .ok (.getfield 66, 3) := by decide +kernel
theorem dD_put_12 : decode cD_put 12 = .ok (.iastore, 1) := by decide +kernel
theorem dD_put_13 : decode cD_put 13 = .ok (.iconst 0, 1) := by decide +kernel
theorem dD_put_14 : decode cD_put 14 = .ok (.istore_n 1, 1) := by decide +kernel
theorem dD_put_15 : decode cD_put 15 = .ok (.iload_n 1, 1) := by decide +kernel
theorem dD_put_16 : decode cD_put 16 = .ok (.aload_n 0, 1) := by decide +kernel
theorem dD_put_17 : decode cD_put 17 = .ok (.getfield 66, 3) := by decide +kernel
theorem dD_put_20 : decode cD_put 20 = .ok (.if_icmp .ge 29, 3) := by decide +kernel
theorem dD_put_23 : decode cD_put 23 = .ok (.aload_n 0, 1) := by decide +kernel
theorem dD_put_24 : decode cD_put 24 = .ok (.getfield 26, 3) := by decide +kernel
theorem dD_put_27 : decode cD_put 27 = .ok (.bipush 48, 2) := by decide +kernel
theorem dD_put_29 : decode cD_put 29 = .ok (.aload_n 0, 1) := by decide +kernel
theorem dD_put_30 : decode cD_put 30 = .ok (.getfield 48, 3) := by decide +kernel
theorem dD_put_33 : decode cD_put 33 = .ok (.imul, 1) := by decide +kernel
theorem dD_put_34 : decode cD_put 34 = .ok (.iload_n 1, 1) := by decide +kernel
theorem dD_put_35 : decode cD_put 35 = .ok (.iadd, 1) := by decide +kernel
theorem dD_put_36 : decode cD_put 36 = .ok (.aload_n 0, 1) := by decide +kernel
theorem dD_put_37 : decode cD_put 37 = .ok (.getfield 16, 3) := by decide +kernel
theorem dD_put_40 : decode cD_put 40 = .ok (.iload_n 1, 1) := by decide +kernel
theorem dD_put_41 : decode cD_put 41 = .ok (.iaload, 1) := by decide +kernel
theorem dD_put_42 : decode cD_put 42 = .ok (.iastore, 1) := by decide +kernel
theorem dD_put_43 : decode cD_put 43 = .ok (.iinc 1 1, 3) := by decide +kernel
theorem dD_put_46 : decode cD_put 46 = .ok (.goto (-31), 3) := by decide +kernel
theorem dD_put_49 : decode cD_put 49 = .ok (.aload_n 0, 1) := by decide +kernel
theorem dD_put_50 : decode cD_put 50 = .ok (.getfield 29, 3) := by decide +kernel
theorem dD_put_53 : decode cD_put 53 = .ok (.aload_n 0, 1) := by decide +kernel
theorem dD_put_54 : decode cD_put 54 = .ok (.getfield 48, 3) := by decide +kernel
theorem dD_put_57 : decode cD_put 57 = .ok (.bipush (-2), 2) := by decide +kernel
theorem dD_put_59 : decode cD_put 59 = .ok (.iastore, 1) := by decide +kernel
theorem dD_put_60 : decode cD_put 60 = .ok (.aload_n 0, 1) := by decide +kernel
theorem dD_put_61 : decode cD_put 61 = .ok (.dup, 1) := by decide +kernel
theorem dD_put_62 : decode cD_put 62 = .ok (.getfield 48, 3) := by decide +kernel
theorem dD_put_65 : decode cD_put 65 = .ok (.iconst 1, 1) := by decide +kernel
theorem dD_put_66 : decode cD_put 66 = .ok (.iadd, 1) := by decide +kernel
theorem dD_put_67 : decode cD_put 67 = .ok (.putfield 48, 3) := by decide +kernel
theorem dD_put_70 : decode cD_put 70 = .ok (.return_, 1) := by decide +kernel
theorem dD_begin_0 : decode cD_begin 0 = .ok (.aload_n 0, 1) := by decide +kernel
theorem dD_begin_1 : decode cD_begin 1 = .ok (.iconst 0, 1) := by decide +kernel
theorem dD_begin_2 : decode cD_begin 2 = .ok (.putfield 35, 3) := by decide +kernel
theorem dD_begin_5 : decode cD_begin 5 = .ok (.aload_n 0, 1) := by decide +kernel
theorem dD_begin_6 : decode cD_begin 6 = .ok (.getfield 38, 3) := by decide +kernel
theorem dD_begin_9 : decode cD_begin 9 = .ok (.ifCond .ne 10, 3) := by decide +kernel
theorem dD_begin_12 : decode cD_begin 12 = .ok (.aload_n 0, 1) := by decide +kernel
theorem dD_begin_13 : decode cD_begin 13 = .ok (.getfield 41, 3) := by decide +kernel
theorem dD_begin_16 : decode cD_begin 16 = .ok (.ifCond .ne 9, 3) := by decide +kernel
theorem dD_begin_19 : decode cD_begin 19 = .ok (.aload_n 0, 1) := by decide +kernel
theorem dD_begin_20 : decode cD_begin 20 = .ok (.iconst 1, 1) := by decide +kernel
theorem dD_begin_21 : decode cD_begin 21 = .ok (.putfield 35, 3) := by decide +kernel
theorem dD_begin_24 : decode cD_begin 24 = .ok (.return_, 1) := by decide +kernel
theorem dD_begin_25 : decode cD_begin 25 = .ok (.aload_n 0, 1) := by decide +kernel
theorem dD_begin_26 : decode cD_begin 26 = .ok (.iconst 1, 1) := by decide +kernel
theorem dD_begin_27 : decode cD_begin 27 = .ok (.putfield 38, 3) := by decide +kernel
theorem dD_begin_30 : decode cD_begin 30 = .ok (.aload_n 0, 1) := by decide +kernel
theorem dD_begin_31 : decode cD_begin 31 = .ok (.iconst 1, 1) := by decide +kernel
theorem dD_begin_32 : decode cD_begin 32 = .ok (.putfield 146, 3) := by decide +kernel
theorem dD_begin_35 : decode cD_begin 35 = .ok (.aload_n 0, 1) := by decide +kernel
theorem dD_begin_36 : decode cD_begin 36 = .ok (.aload_n 0, 1) := by decide +kernel
theorem dD_begin_37 : decode cD_begin 37 = .ok (.getfield 41, 3) := by decide +kernel
theorem dD_begin_40 : decode cD_begin 40 = .ok (.iconst 0, 1) := by decide +kernel
theorem dD_begin_41 : decode cD_begin 41 = .ok (.invokevirtual 105, 3) := by decide +kernel
theorem dD_begin_44 : decode cD_begin 44 = .ok (.aload_n 0, 1) := by decide +kernel
theorem dD_begin_45 : decode cD_begin 45 = .ok (.invokevirtual 140, 3) := by decide +kernel
theorem dD_begin_48 : decode cD_begin 48 = .ok (.return_, 1) := by decide +kernel
theorem dD_judge_0 : decode cD_judge 0 = .ok (.aload_n 0, 1) := by decide +kernel
theorem dD_judge_1 : decode cD_judge 1 = .ok (.iconst 0, 1) := by decide +kernel
theorem dD_judge_2 : decode cD_judge 2 = .ok (.putfield 35, 3) := by decide +kernel
theorem dD_judge_5 : decode cD_judge 5 = .ok (.aload_n 0, 1) := by decide +kernel
theorem dD_judge_6 : decode cD_judge 6 = .ok (.getfield 38, 3) := by decide +kernel
theorem dD_judge_9 : decode cD_judge 9 = .ok (.iconst 1, 1) := by decide +kernel
theorem dD_judge_10 : decode cD_judge 10 = .ok (.if_icmp .eq 9, 3) := by decide +kernel
theorem dD_judge_13 : decode cD_judge 13 = .ok (.aload_n 0, 1) := by decide +kernel
theorem dD_judge_14 : decode cD_judge 14 = .ok (.iconst 1, 1) := by decide +kernel
theorem dD_judge_15 : decode cD_judge 15 = .ok (.invokevirtual 44, 3) := by decide +kernel
theorem dD_judge_18 : decode cD_judge 18 = .ok (.ireturn, 1) := by decide +kernel
theorem dD_judge_19 : decode cD_judge 19 = .ok (.iload_n 1, 1) := by decide +kernel
theorem dD_judge_20 : decode cD_judge 20 = .ok (.iconst (-1), 1) := by decide +kernel
theorem dD_judge_21 : decode cD_judge 21 = .ok (.if_icmp .ge 9, 3) := by decide +kernel
theorem dD_judge_24 : decode cD_judge 24 = .ok (.aload_n 0, 1) := by decide +kernel
theorem dD_judge_25 : decode cD_judge 25 = .ok (.iconst 2, 1) := by decide +kernel
theorem dD_judge_26 : decode cD_judge 26 = .ok (.invokevirtual 44, 3) := by decide +kernel
theorem dD_judge_29 : decode cD_judge 29 = .ok (.ireturn, 1) := by decide +kernel
theorem dD_judge_30 : decode cD_judge 30 = .ok (.aload_n 0, 1) := by decide +kernel
theorem dD_judge_31 : decode cD_judge 31 = .ok (.getfield 29, 3) := by decide +kernel
theorem dD_judge_34 : decode cD_judge 34 = .ok (.aload_n 0, 1) := by decide +kernel
theorem dD_judge_35 : decode cD_judge 35 = .ok (.getfield 48, 3) := by decide +kernel
theorem dD_judge_38 : decode cD_judge 38 = .ok (.iconst 1, 1) := by decide +kernel
theorem dD_judge_39 : decode cD_judge 39 = .ok (.isub, 1) := by decide +kernel
theorem dD_judge_40 : decode cD_judge 40 = .ok (.iload_n 1, 1) := by decide +kernel
theorem dD_judge_41 : decode cD_judge 41 = .ok (.iastore, 1) := by decide +kernel
theorem dD_judge_42 : decode cD_judge 42 = .ok (.aload_n 0, 1) := by decide +kernel
theorem dD_judge_43 : decode cD_judge 43 = .ok (.getfield 146, 3) := by decide +kernel
theorem dD_judge_46 : decode cD_judge 46 = .ok (.ifCond .eq 52, 3) := by decide +kernel
theorem dD_judge_49 : decode cD_judge 49 = .ok (.aload_n 0, 1) := by decide +kernel
theorem dD_judge_50 : decode cD_judge 50 = .ok (.iconst 0, 1) := by decide +kernel
theorem dD_judge_51 : decode cD_judge 51 = .ok (.putfield 146, 3) := by decide +kernel
theorem dD_judge_54 : decode cD_judge 54 = .ok (.aload_n 0, 1) := by decide +kernel
theorem dD_judge_55 : decode cD_judge 55 = .ok (.iload_n 1, 1) := by decide +kernel
theorem dD_judge_56 : decode cD_judge 56 = .ok (.putfield 19, 3) := by decide +kernel
theorem dD_judge_59 : decode cD_judge 59 = .ok (.iload_n 1, 1) := by decide +kernel
theorem dD_judge_60 : decode cD_judge 60 = .ok (.iconst (-1), 1) := by decide +kernel
theorem dD_judge_61 : decode cD_judge 61 = .ok (.if_icmp .ne 11, 3) := by decide +kernel
theorem dD_judge_64 : decode cD_judge 64 = .ok (.aload_n 0, 1) := by decide +kernel
theorem dD_judge_65 : decode cD_judge 65 = .ok (.iconst 4, 1) := by decide +kernel
theorem dD_judge_66 : decode cD_judge 66 = .ok (.putfield 38, 3) := by decide +kernel
theorem dD_judge_69 : decode cD_judge 69 = .ok (.goto 34, 3) := by decide +kernel
theorem dD_judge_72 : decode cD_judge 72 = .ok (.aload_n 0, 1) := by decide +kernel
theorem dD_judge_73 : decode cD_judge 73 = .ok (.aload_n 0, 1) := by decide +kernel
theorem dD_judge_74 : decode cD_judge 74 = .ok (.getfield 41, 3) := by decide +kernel
theorem dD_judge_77 : decode cD_judge 77 = .ok (.iconst 2, 1) := by decide +kernel
theorem dD_judge_78 : decode cD_judge 78 = .ok (.idiv, 1) := by decide +kernel
theorem dD_judge_79 : decode cD_judge 79 = .ok (.ifCond .le 12, 3) := by decide +kernel
theorem dD_judge_82 : decode cD_judge 82 = .ok (.aload_n 0, 1) := by decide +kernel
theorem dD_judge_83 : decode cD_judge 83 = .ok (.getfield 41, 3) := by decide +kernel
theorem dD_judge_86 : decode cD_judge 86 = .ok (.iconst 2, 1) := by decide +kernel
theorem dD_judge_87 : decode cD_judge 87 = .ok (.idiv, 1) := by decide +kernel
theorem dD_judge_88 : decode cD_judge 88 = .ok (.goto 4, 3) := by decide +kernel
theorem dD_judge_91 : decode cD_judge 91 = .ok (.iconst 1, 1) := by decide +kernel
theorem dD_judge_92 : decode cD_judge 92 = .ok (.invokevirtual 112, 3) := by decide +kernel
theorem dD_judge_95 : decode cD_judge 95 = .ok (.goto 8, 3) := by decide +kernel
theorem dD_judge_98 : decode cD_judge 98 = .ok (.aload_n 0, 1) := by decide +kernel
theorem dD_judge_99 : decode cD_judge 99 = .ok (.iload_n 1, 1) := by decide +kernel
theorem dD_judge_100 : decode cD_judge 100 = .ok (.invokevirtual 143, 3) := by decide +kernel
theorem dD_judge_103 : decode cD_judge 103 = .ok (.aload_n 0, 1) := by decide +kernel
theorem dD_judge_104 : decode cD_judge 104 = .ok (.invokevirtual 149, 3) := by decide +kernel
theorem dD_judge_107 : decode cD_judge 107 = .ok (.aload_n 0, 1) := by decide +kernel
theorem dD_judge_108 : decode cD_judge 108 = .ok (.getfield 38, 3) := by decide +kernel
theorem dD_judge_111 : decode cD_judge 111 = .ok (.ireturn, 1) := by decide +kernel
theorem dD_asked_0 : decode cD_asked 0 = .ok (.aload_n 0, 1) := by decide +kernel
theorem dD_asked_1 : decode cD_asked 1 = .ok (.iconst 0, 1) := by decide +kernel
theorem dD_asked_2 : decode cD_asked 2 = .ok (.putfield 35, 3) := by decide +kernel
theorem dD_asked_5 : decode cD_asked 5 = .ok (.aload_n 0, 1) := by decide +kernel
theorem dD_asked_6 : decode cD_asked 6 = .ok (.getfield 38, 3) := by decide +kernel
theorem dD_asked_9 : decode cD_asked 9 = .ok (.iconst 1, 1) := by decide +kernel
theorem dD_asked_10 : decode cD_asked 10 = .ok (.if_icmp .eq 9, 3) := by decide +kernel
theorem dD_asked_13 : decode cD_asked 13 = .ok (.aload_n 0, 1) := by decide +kernel
theorem dD_asked_14 : decode cD_asked 14 = .ok (.iconst 1, 1) := by decide +kernel
theorem dD_asked_15 : decode cD_asked 15 = .ok (.invokevirtual 44, 3) := by decide +kernel
theorem dD_asked_18 : decode cD_asked 18 = .ok (.ireturn, 1) := by decide +kernel
theorem dD_asked_19 : decode cD_asked 19 = .ok (.iload_n 1, 1) := by decide +kernel
theorem dD_asked_20 : decode cD_asked 20 = .ok (.iconst 0, 1) := by decide +kernel
theorem dD_asked_21 : decode cD_asked 21 = .ok (.aload_n 0, 1) := by decide +kernel
theorem dD_asked_22 : decode cD_asked 22 = .ok (.getfield 66, 3) := by decide +kernel
theorem dD_asked_25 : decode cD_asked 25 = .ok (.iconst 1, 1) := by decide +kernel
theorem dD_asked_26 : decode cD_asked 26 = .ok (.isub, 1) := by decide +kernel
theorem dD_asked_27 : decode cD_asked 27 = .ok (.invokestatic 152, 3) := by decide +kernel
theorem dD_asked_30 : decode cD_asked 30 = .ok (.ifCond .eq 12, 3) := by decide +kernel
theorem dD_asked_33 : decode cD_asked 33 = .ok (.aload_n 0, 1) := by decide +kernel
theorem dD_asked_34 : decode cD_asked 34 = .ok (.getfield 16, 3) := by decide +kernel
theorem dD_asked_37 : decode cD_asked 37 = .ok (.iload_n 1, 1) := by decide +kernel
theorem dD_asked_38 : decode cD_asked 38 = .ok (.iaload, 1) := by decide +kernel
theorem dD_asked_39 : decode cD_asked 39 = .ok (.goto 8, 3) := by decide +kernel
theorem dD_asked_42 : decode cD_asked 42 = .ok (.aload_n 0, 1) := by decide +kernel
theorem dD_asked_43 : decode cD_asked 43 = .ok (.iconst 2, 1) := by decide +kernel
theorem dD_asked_44 : decode cD_asked 44 = .ok (.invokevirtual 44, 3) := by decide +kernel
theorem dD_asked_47 : decode cD_asked 47 = .ok (.ireturn, 1) := by decide +kernel
theorem dD_size_0 : decode cD_size 0 = .ok (.aload_n 0, 1) := by decide +kernel
theorem dD_size_1 : decode cD_size 1 = .ok (.iconst 0, 1) := by decide +kernel
theorem dD_size_2 : decode cD_size 2 = .ok (.putfield 35, 3) := by decide +kernel
theorem dD_size_5 : decode cD_size 5 = .ok (.aload_n 0, 1) := by decide +kernel
theorem dD_size_6 : decode cD_size 6 = .ok (.getfield 38, 3) := by decide +kernel
theorem dD_size_9 : decode cD_size 9 = .ok (.iconst 1, 1) := by decide +kernel
theorem dD_size_10 : decode cD_size 10 = .ok (.if_icmp .ne 10, 3) := by decide +kernel
theorem dD_size_13 : decode cD_size 13 = .ok (.aload_n 0, 1) := by decide +kernel
theorem dD_size_14 : decode cD_size 14 = .ok (.getfield 66, 3) := by decide +kernel
theorem dD_size_17 : decode cD_size 17 = .ok (.goto 8, 3) := by decide +kernel
theorem dD_size_20 : decode cD_size 20 = .ok (.aload_n 0, 1) := by decide +kernel
theorem dD_size_21 : decode cD_size 21 = .ok (.iconst 1, 1) := by decide +kernel
theorem dD_size_22 : decode cD_size 22 = .ok (.invokevirtual 44, 3) := by decide +kernel
theorem dD_size_25 : decode cD_size 25 = .ok (.ireturn, 1) := by decide +kernel
theorem dD_at_0 : decode cD_at 0 = .ok (.aload_n 0, 1) := by decide +kernel
theorem dD_at_1 : decode cD_at 1 = .ok (.iconst 0, 1) := by decide +kernel
theorem dD_at_2 : decode cD_at 2 = .ok (.putfield 35, 3) := by decide +kernel
theorem dD_at_5 : decode cD_at 5 = .ok (.iload_n 1, 1) := by decide +kernel
theorem dD_at_6 : decode cD_at 6 = .ok (.iconst 0, 1) := by decide +kernel
theorem dD_at_7 : decode cD_at 7 = .ok (.aload_n 0, 1) := by decide +kernel
theorem dD_at_8 : decode cD_at 8 = .ok (.getfield 41, 3) := by decide +kernel
theorem dD_at_11 : decode cD_at 11 = .ok (.iconst 1, 1) := by decide +kernel
theorem dD_at_12 : decode cD_at 12 = .ok (.isub, 1) := by decide +kernel
theorem dD_at_13 : decode cD_at 13 = .ok (.invokestatic 152, 3) := by decide +kernel
theorem dD_at_16 : decode cD_at 16 = .ok (.ifCond .eq 12, 3) := by decide +kernel
theorem dD_at_19 : decode cD_at 19 = .ok (.aload_n 0, 1) := by decide +kernel
theorem dD_at_20 : decode cD_at 20 = .ok (.getfield 7, 3) := by decide +kernel
theorem dD_at_23 : decode cD_at 23 = .ok (.iload_n 1, 1) := by decide +kernel
theorem dD_at_24 : decode cD_at 24 = .ok (.iaload, 1) := by decide +kernel
theorem dD_at_25 : decode cD_at 25 = .ok (.goto 8, 3) := by decide +kernel
theorem dD_at_28 : decode cD_at 28 = .ok (.aload_n 0, 1) := by decide +kernel
theorem dD_at_29 : decode cD_at 29 = .ok (.iconst 1, 1) := by decide +kernel
theorem dD_at_30 : decode cD_at 30 = .ok (.invokevirtual 44, 3) := by decide +kernel
theorem dD_at_33 : decode cD_at 33 = .ok (.ireturn, 1) := by decide +kernel
end
section
-- decode rows, a row an instruction (by wip/gen/names.py)
theorem dD_from_0 : decode cD_from 0 = .ok (.aload_n 0, 1) := by decide +kernel
theorem dD_from_1 : decode cD_from 1 = .ok (.iconst 0, 1) := by decide +kernel
theorem dD_from_2 : decode cD_from 2 = .ok (.putfield 35, 3) := by decide +kernel
theorem dD_from_5 : decode cD_from 5 = .ok (.iload_n 1, 1) := by decide +kernel
theorem dD_from_6 : decode cD_from 6 = .ok (.iconst 0, 1) := by decide +kernel
theorem dD_from_7 : decode cD_from 7 = .ok (.aload_n 0, 1) := by decide +kernel
theorem dD_from_8 : decode cD_from 8 = .ok (.getfield 41, 3) := by decide +kernel
theorem dD_from_11 : decode cD_from 11 = .ok (.iconst 1, 1) := by decide +kernel
theorem dD_from_12 : decode cD_from 12 = .ok (.isub, 1) := by decide +kernel
theorem dD_from_13 : decode cD_from 13 = .ok (.invokestatic 152, 3) := by decide +kernel
theorem dD_from_16 : decode cD_from 16 = .ok (.ifCond .eq 12, 3) := by decide +kernel
theorem dD_from_19 : decode cD_from 19 = .ok (.aload_n 0, 1) := by decide +kernel
theorem dD_from_20 : decode cD_from 20 = .ok (.getfield 13, 3) := by decide +kernel
theorem dD_from_23 : decode cD_from 23 = .ok (.iload_n 1, 1) := by decide +kernel
theorem dD_from_24 : decode cD_from 24 = .ok (.iaload, 1) := by decide +kernel
theorem dD_from_25 : decode cD_from 25 = .ok (.goto 8, 3) := by decide +kernel
theorem dD_from_28 : decode cD_from 28 = .ok (.aload_n 0, 1) := by decide +kernel
theorem dD_from_29 : decode cD_from 29 = .ok (.iconst 1, 1) := by decide +kernel
theorem dD_from_30 : decode cD_from 30 = .ok (.invokevirtual 44, 3) := by decide +kernel
theorem dD_from_33 : decode cD_from 33 = .ok (.ireturn, 1) := by decide +kernel
theorem dD_known_0 : decode cD_known 0 = .ok (.aload_n 0, 1) := by decide +kernel
theorem dD_known_1 : decode cD_known 1 = .ok (.iconst 0, 1) := by decide +kernel
theorem dD_known_2 : decode cD_known 2 = .ok (.putfield 35, 3) := by decide +kernel
theorem dD_known_5 : decode cD_known 5 = .ok (.iload_n 2, 1) := by decide +kernel
theorem dD_known_6 : decode cD_known 6 = .ok (.iconst 0, 1) := by decide +kernel
theorem dD_known_7 : decode cD_known 7 = .ok (.aload_n 0, 1) := by decide +kernel
theorem dD_known_8 : decode cD_known 8 = .ok (.getfield 41, 3) := by decide +kernel
theorem dD_known_11 : decode cD_known 11 = .ok (.iconst 1, 1) := by decide +kernel
theorem dD_known_12 : decode cD_known 12 = .ok (.isub, 1) := by decide +kernel
theorem dD_known_13 : decode cD_known 13 = .ok (.invokestatic 152, 3) := by decide +kernel
theorem dD_known_16 : decode cD_known 16 = .ok (.ifCond .eq 17, 3) := by decide +kernel
theorem dD_known_19 : decode cD_known 19 = .ok (.iload_n 1, 1) := by decide +kernel
theorem dD_known_20 : decode cD_known 20 = .ok (.iconst 1, 1) := by decide +kernel
theorem dD_known_21 : decode cD_known 21 = .ok (.if_icmp .ne 18, 3) := by decide +kernel
theorem dD_known_24 : decode cD_known 24 = .ok (.iload_n 3, 1) := by decide +kernel
theorem dD_known_25 : decode cD_known 25 = .ok (.iconst 0, 1) := by decide +kernel
theorem dD_known_26 : decode cD_known 26 = .ok (.iconst 3, 1) := by decide +kernel
theorem dD_known_27 : decode cD_known 27 = .ok (.invokestatic 152, 3) := by decide +kernel
theorem dD_known_30 : decode cD_known 30 = .ok (.ifCond .ne 9, 3) := by decide +kernel
theorem dD_known_33 : decode cD_known 33 = .ok (.aload_n 0, 1) := by decide +kernel
theorem dD_known_34 : decode cD_known 34 = .ok (.iconst 1, 1) := by decide +kernel
theorem dD_known_35 : decode cD_known 35 = .ok (.invokevirtual 44, 3) := by decide +kernel
theorem dD_known_38 : decode cD_known 38 = .ok (.ireturn, 1) := by decide +kernel
theorem dD_known_39 : decode cD_known 39 = .ok (.iload_n 1, 1) := by decide +kernel
theorem dD_known_40 : decode cD_known 40 = .ok (.iconst 0, 1) := by decide +kernel
theorem dD_known_41 : decode cD_known 41 = .ok (.iconst 1, 1) := by decide +kernel
theorem dD_known_42 : decode cD_known 42 = .ok (.invokestatic 152, 3) := by decide +kernel
theorem dD_known_45 : decode cD_known 45 = .ok (.ifCond .eq 20, 3) := by decide +kernel
theorem dD_known_48 : decode cD_known 48 = .ok (.iload_n 1, 1) := by decide +kernel
theorem dD_known_49 : decode cD_known 49 = .ok (.iconst 1, 1) := by decide +kernel
theorem dD_known_50 : decode cD_known 50 = .ok (.if_icmp .ne 21, 3) := by decide +kernel
theorem dD_known_53 : decode cD_known 53 = .ok (.iload 4, 2) := by decide +kernel
theorem dD_known_55 : decode cD_known 55 = .ok (.iconst 0, 1) := by decide +kernel
theorem dD_known_56 : decode cD_known 56 = .ok (.sipush 255, 3) := by decide +kernel
theorem dD_known_59 : decode cD_known 59 = .ok (.invokestatic 152, 3) := by decide +kernel
theorem dD_known_62 : decode cD_known 62 = .ok (.ifCond .ne 9, 3) := by decide +kernel
theorem dD_known_65 : decode cD_known 65 = .ok (.aload_n 0, 1) := by decide +kernel
theorem dD_known_66 : decode cD_known 66 = .ok (.iconst 2, 1) := by decide +kernel
theorem dD_known_67 : decode cD_known 67 = .ok (.invokevirtual 44, 3) := by decide +kernel
theorem dD_known_70 : decode cD_known 70 = .ok (.ireturn, 1) := by decide +kernel
theorem dD_known_71 : decode cD_known 71 = .ok (.iload_n 1, 1) := by decide +kernel
theorem dD_known_72 : decode cD_known 72 = .ok (.ifCond .ne 12, 3) := by decide +kernel
theorem dD_known_75 : decode cD_known 75 = .ok (.aload_n 0, 1) := by decide +kernel
theorem dD_known_76 : decode cD_known 76 = .ok (.iload_n 2, 1) := by decide +kernel
theorem dD_known_77 : decode cD_known 77 = .ok (.iconst 1, 1) := by decide +kernel
theorem dD_known_78 : decode cD_known 78 = .ok (.invokevirtual 105, 3) := by decide +kernel
theorem dD_known_81 : decode cD_known 81 = .ok (.goto 11, 3) := by decide +kernel
theorem dD_known_84 : decode cD_known 84 = .ok (.aload_n 0, 1) := by decide +kernel
theorem dD_known_85 : decode cD_known 85 = .ok (.iload_n 2, 1) := by decide +kernel
theorem dD_known_86 : decode cD_known 86 = .ok (.iload_n 3, 1) := by decide +kernel
theorem dD_known_87 : decode cD_known 87 = .ok (.iload 4, 2) := by decide +kernel
theorem dD_known_89 : decode cD_known 89 = .ok (.invokevirtual 120, 3) := by decide +kernel
theorem dD_known_92 : decode cD_known 92 = .ok (.aload_n 0, 1) := by decide +kernel
theorem dD_known_93 : decode cD_known 93 = .ok (.invokevirtual 137, 3) := by decide +kernel
theorem dD_known_96 : decode cD_known 96 = .ok (.istore 5, 2) := by decide +kernel
theorem dD_known_98 : decode cD_known 98 = .ok (.iload 5, 2) := by decide +kernel
theorem dD_known_100 : decode cD_known 100 = .ok (.ifCond .ge 8, 3) := by decide +kernel
theorem dD_known_103 : decode cD_known 103 = .ok (.bipush (-2), 2) := by decide +kernel
theorem dD_known_105 : decode cD_known 105 = .ok (.goto 10, 3) := by decide +kernel
theorem dD_known_108 : decode cD_known 108 = .ok (.aload_n 0, 1) := by decide +kernel
theorem dD_known_109 : decode cD_known 109 = .ok (.getfield 29, 3) := by decide +kernel
theorem dD_known_112 : decode cD_known 112 = .ok (.iload 5, 2) := by decide +kernel
theorem dD_known_114 : decode cD_known 114 = .ok (.iaload, 1) := by decide +kernel
theorem dD_known_115 : decode cD_known 115 = .ok (.istore 6, 2) := by decide +kernel
theorem dD_known_117 : decode cD_known 117 = .ok (.aload_n 0, 1) := by decide +kernel
theorem dD_known_118 : decode cD_known 118 = .ok (.getfield 38, 3) := by decide +kernel
theorem dD_known_121 : decode cD_known 121 = .ok (.iconst 1, 1) := by decide +kernel
theorem dD_known_122 : decode cD_known 122 = .ok (.if_icmp .ne 60, 3) := by decide +kernel
theorem dD_known_125 : decode cD_known 125 = .ok (.aload_n 0, 1) := by decide +kernel
theorem dD_known_126 : decode cD_known 126 = .ok (.aload_n 0, 1) := by decide +kernel
theorem dD_known_127 : decode cD_known 127 = .ok (.getfield 23, 3) := by decide +kernel
theorem dD_known_130 : decode cD_known 130 = .ok (.aload_n 0, 1) := by decide +kernel
theorem dD_known_131 : decode cD_known 131 = .ok (.getfield 48, 3) := by decide +kernel
theorem dD_known_134 : decode cD_known 134 = .ok (.iconst 1, 1) := by decide +kernel
theorem dD_known_135 : decode cD_known 135 = .ok (.isub, 1) := by decide +kernel
theorem dD_known_136 : decode cD_known 136 = .ok (.iaload, 1) := by decide +kernel
theorem dD_known_137 : decode cD_known 137 = .ok (.putfield 66, 3) := by decide +kernel
theorem dD_known_140 : decode cD_known 140 = .ok (.iconst 0, 1) := by decide +kernel
theorem dD_known_141 : decode cD_known 141 = .ok (.istore 7, 2) := by decide +kernel
theorem dD_known_143 : decode cD_known 143 = .ok (.iload 7, 2) := by decide +kernel
theorem dD_known_145 : decode cD_known 145 = .ok (.aload_n 0, 1) := by decide +kernel
theorem dD_known_146 : decode cD_known 146 = .ok (.getfield 66, 3) := by decide +kernel
theorem dD_known_149 : decode cD_known 149 = .ok (.if_icmp .ge 33, 3) := by decide +kernel
theorem dD_known_152 : decode cD_known 152 = .ok (.aload_n 0, 1) := by decide +kernel
theorem dD_known_153 : decode cD_known 153 = .ok (.getfield 16, 3) := by decide +kernel
theorem dD_known_156 : decode cD_known 156 = .ok (.iload 7, 2) := by decide +kernel
theorem dD_known_158 : decode cD_known 158 = .ok (.aload_n 0, 1) := by decide +kernel
theorem dD_known_159 : decode cD_known 159 = .ok (.getfield 26, 3) := by decide +kernel
theorem dD_known_162 : decode cD_known 162 = .ok (.bipush 48, 2) := by decide +kernel
theorem dD_known_164 : decode cD_known 164 = .ok (.aload_n 0, 1) := by decide +kernel
theorem dD_known_165 : decode cD_known 165 = .ok (.getfield 48, 3) := by decide +kernel
theorem dD_known_168 : decode cD_known 168 = .ok (.iconst 1, 1) := by decide +kernel
theorem dD_known_169 : decode cD_known 169 = .ok (.isub, 1) := by decide +kernel
theorem dD_known_170 : decode cD_known 170 = .ok (.imul, 1) := by decide +kernel
theorem dD_known_171 : decode cD_known 171 = .ok (.iload 7, 2) := by decide +kernel
theorem dD_known_173 : decode cD_known 173 = .ok (.iadd, 1) := by decide +kernel
theorem dD_known_174 : decode cD_known 174 = .ok (.iaload, 1) := by decide +kernel
theorem dD_known_175 : decode cD_known 175 = .ok (.iastore, 1) := by decide +kernel
theorem dD_known_176 : decode cD_known 176 = .ok (.iinc 7 1, 3) := by decide +kernel
theorem dD_known_179 : decode cD_known 179 = .ok (.goto (-36), 3) := by decide +kernel
theorem dD_known_182 : decode cD_known 182 = .ok (.iload 6, 2) := by decide +kernel
theorem dD_known_184 : decode cD_known 184 = .ok (.ireturn, 1) := by decide +kernel
theorem dD_count_0 : decode cD_count 0 = .ok (.aload_n 0, 1) := by decide +kernel
theorem dD_count_1 : decode cD_count 1 = .ok (.iconst 0, 1) := by decide +kernel
theorem dD_count_2 : decode cD_count 2 = .ok (.putfield 35, 3) := by decide +kernel
theorem dD_count_5 : decode cD_count 5 = .ok (.iload_n 1, 1) := by decide +kernel
theorem dD_count_6 : decode cD_count 6 = .ok (.tableswitch 104 0 9 #[54, 59, 64, 69, 74, 79, 84, 89, 94, 99], 54) := by decide +kernel
theorem dD_count_60 : decode cD_count 60 = .ok (.aload_n 0, 1) := by decide +kernel
theorem dD_count_61 : decode cD_count 61 = .ok (.getfield 38, 3) := by decide +kernel
theorem dD_count_64 : decode cD_count 64 = .ok (.ireturn, 1) := by decide +kernel
theorem dD_count_65 : decode cD_count 65 = .ok (.aload_n 0, 1) := by decide +kernel
theorem dD_count_66 : decode cD_count 66 = .ok (.getfield 41, 3) := by decide +kernel
theorem dD_count_69 : decode cD_count 69 = .ok (.ireturn, 1) := by decide +kernel
theorem dD_count_70 : decode cD_count 70 = .ok (.aload_n 0, 1) := by decide +kernel
theorem dD_count_71 : decode cD_count 71 = .ok (.getfield 48, 3) := by decide +kernel
theorem dD_count_74 : decode cD_count 74 = .ok (.ireturn, 1) := by decide +kernel
theorem dD_count_75 : decode cD_count 75 = .ok (.aload_n 0, 1) := by decide +kernel
theorem dD_count_76 : decode cD_count 76 = .ok (.getfield 51, 3) := by decide +kernel
theorem dD_count_79 : decode cD_count 79 = .ok (.ireturn, 1) := by decide +kernel
theorem dD_count_80 : decode cD_count 80 = .ok (.aload_n 0, 1) := by decide +kernel
theorem dD_count_81 : decode cD_count 81 = .ok (.getfield 54, 3) := by decide +kernel
theorem dD_count_84 : decode cD_count 84 = .ok (.ireturn, 1) := by decide +kernel
theorem dD_count_85 : decode cD_count 85 = .ok (.aload_n 0, 1) := by decide +kernel
theorem dD_count_86 : decode cD_count 86 = .ok (.getfield 57, 3) := by decide +kernel
theorem dD_count_89 : decode cD_count 89 = .ok (.ireturn, 1) := by decide +kernel
theorem dD_count_90 : decode cD_count 90 = .ok (.aload_n 0, 1) := by decide +kernel
theorem dD_count_91 : decode cD_count 91 = .ok (.getfield 60, 3) := by decide +kernel
theorem dD_count_94 : decode cD_count 94 = .ok (.ireturn, 1) := by decide +kernel
theorem dD_count_95 : decode cD_count 95 = .ok (.aload_n 0, 1) := by decide +kernel
theorem dD_count_96 : decode cD_count 96 = .ok (.getfield 32, 3) := by decide +kernel
theorem dD_count_99 : decode cD_count 99 = .ok (.ireturn, 1) := by decide +kernel
theorem dD_count_100 : decode cD_count 100 = .ok (.aload_n 0, 1) := by decide +kernel
theorem dD_count_101 : decode cD_count 101 = .ok (.getfield 19, 3) := by decide +kernel
theorem dD_count_104 : decode cD_count 104 = .ok (.ireturn, 1) := by decide +kernel
theorem dD_count_105 : decode cD_count 105 = .ok (.aload_n 0, 1) := by decide +kernel
theorem dD_count_106 : decode cD_count 106 = .ok (.getfield 63, 3) := by decide +kernel
theorem dD_count_109 : decode cD_count 109 = .ok (.ireturn, 1) := by decide +kernel
theorem dD_count_110 : decode cD_count 110 = .ok (.iconst (-1), 1) := by decide +kernel
theorem dD_count_111 : decode cD_count 111 = .ok (.ireturn, 1) := by decide +kernel
theorem dL_cell_0 : decode cL_cell 0 = .ok (.iload_n 1, 1) := by decide +kernel
theorem dL_cell_1 : decode cL_cell 1 = .ok (.aload_n 0, 1) := by decide +kernel
theorem dL_cell_2 : decode cL_cell 2 = .ok (.arraylength, 1) := by decide +kernel
theorem dL_cell_3 : decode cL_cell 3 = .ok (.if_icmp .ge 9, 3) := by decide +kernel
theorem dL_cell_6 : decode cL_cell 6 = .ok (.aload_n 0, 1) := by decide +kernel
theorem dL_cell_7 : decode cL_cell 7 = .ok (.iload_n 1, 1) := by decide +kernel
theorem dL_cell_8 : decode cL_cell 8 = .ok (.iaload, 1) := by decide +kernel
theorem dL_cell_9 : decode cL_cell 9 = .ok (.goto 4, 3) := by decide +kernel
theorem dL_cell_12 : decode cL_cell 12 = .ok (.iconst 0, 1) := by decide +kernel
theorem dL_cell_13 : decode cL_cell 13 = .ok (.ireturn, 1) := by decide +kernel
theorem dL_feed_0 : decode cL_feed 0 = .ok (.aload_n 2, 1) := by decide +kernel
theorem dL_feed_1 : decode cL_feed 1 = .ok (.iconst 0, 1) := by decide +kernel
theorem dL_feed_2 : decode cL_feed 2 = .ok (.aload_n 0, 1) := by decide +kernel
theorem dL_feed_3 : decode cL_feed 3 = .ok (.iload_n 1, 1) := by decide +kernel
theorem dL_feed_4 : decode cL_feed 4 = .ok (.invokevirtual 7, 3) := by decide +kernel
theorem dL_feed_7 : decode cL_feed 7 = .ok (.i2l, 1) := by decide +kernel
theorem dL_feed_8 : decode cL_feed 8 = .ok (.lastore, 1) := by decide +kernel
theorem dL_feed_9 : decode cL_feed 9 = .ok (.goto 6, 3) := by decide +kernel
theorem dL_feed_12 : decode cL_feed 12 = .ok (.astore_n 3, 1) := by decide +kernel
theorem dL_feed_13 : decode cL_feed 13 = .ok (.iconst 1, 1) := by decide +kernel
theorem dL_feed_14 : decode cL_feed 14 = .ok (.ireturn, 1) := by decide +kernel
theorem dL_feed_15 : decode cL_feed 15 = .ok (.iconst 0, 1) := by decide +kernel
theorem dL_feed_16 : decode cL_feed 16 = .ok (.ireturn, 1) := by decide +kernel
theorem dL_begin_0 : decode cL_begin 0 = .ok (.aload_n 0, 1) := by decide +kernel
theorem dL_begin_1 : decode cL_begin 1 = .ok (.invokevirtual 15, 3) := by decide +kernel
theorem dL_begin_4 : decode cL_begin 4 = .ok (.goto 6, 3) := by decide +kernel
theorem dL_begin_7 : decode cL_begin 7 = .ok (.astore_n 1, 1) := by decide +kernel
theorem dL_begin_8 : decode cL_begin 8 = .ok (.iconst 1, 1) := by decide +kernel
theorem dL_begin_9 : decode cL_begin 9 = .ok (.ireturn, 1) := by decide +kernel
theorem dL_begin_10 : decode cL_begin 10 = .ok (.iconst 0, 1) := by decide +kernel
theorem dL_begin_11 : decode cL_begin 11 = .ok (.ireturn, 1) := by decide +kernel
theorem dL_asked_0 : decode cL_asked 0 = .ok (.aload_n 2, 1) := by decide +kernel
theorem dL_asked_1 : decode cL_asked 1 = .ok (.iconst 0, 1) := by decide +kernel
theorem dL_asked_2 : decode cL_asked 2 = .ok (.aload_n 0, 1) := by decide +kernel
theorem dL_asked_3 : decode cL_asked 3 = .ok (.iload_n 1, 1) := by decide +kernel
theorem dL_asked_4 : decode cL_asked 4 = .ok (.invokevirtual 20, 3) := by decide +kernel
theorem dL_asked_7 : decode cL_asked 7 = .ok (.i2l, 1) := by decide +kernel
theorem dL_asked_8 : decode cL_asked 8 = .ok (.lastore, 1) := by decide +kernel
theorem dL_asked_9 : decode cL_asked 9 = .ok (.goto 9, 3) := by decide +kernel
theorem dL_asked_12 : decode cL_asked 12 = .ok (.astore_n 3, 1) := by decide +kernel
theorem dL_asked_13 : decode cL_asked 13 = .ok (.iconst 1, 1) := by decide +kernel
theorem dL_asked_14 : decode cL_asked 14 = .ok (.ireturn, 1) := by decide +kernel
theorem dL_asked_15 : decode cL_asked 15 = .ok (.astore_n 3, 1) := by decide +kernel
theorem dL_asked_16 : decode cL_asked 16 = .ok (.iconst 2, 1) := by decide +kernel
theorem dL_asked_17 : decode cL_asked 17 = .ok (.ireturn, 1) := by decide +kernel
theorem dL_asked_18 : decode cL_asked 18 = .ok (.iconst 0, 1) := by decide +kernel
theorem dL_asked_19 : decode cL_asked 19 = .ok (.ireturn, 1) := by decide +kernel
theorem dL_size_0 : decode cL_size 0 = .ok (.aload_n 1, 1) := by decide +kernel
theorem dL_size_1 : decode cL_size 1 = .ok (.iconst 0, 1) := by decide +kernel
theorem dL_size_2 : decode cL_size 2 = .ok (.aload_n 0, 1) := by decide +kernel
theorem dL_size_3 : decode cL_size 3 = .ok (.invokevirtual 25, 3) := by decide +kernel
theorem dL_size_6 : decode cL_size 6 = .ok (.i2l, 1) := by decide +kernel
theorem dL_size_7 : decode cL_size 7 = .ok (.lastore, 1) := by decide +kernel
theorem dL_size_8 : decode cL_size 8 = .ok (.goto 6, 3) := by decide +kernel
theorem dL_size_11 : decode cL_size 11 = .ok (.astore_n 2, 1) := by decide +kernel
theorem dL_size_12 : decode cL_size 12 = .ok (.iconst 1, 1) := by decide +kernel
theorem dL_size_13 : decode cL_size 13 = .ok (.ireturn, 1) := by decide +kernel
theorem dL_size_14 : decode cL_size 14 = .ok (.iconst 0, 1) := by decide +kernel
theorem dL_size_15 : decode cL_size 15 = .ok (.ireturn, 1) := by decide +kernel
theorem dL_judge_0 : decode cL_judge 0 = .ok (.aload_n 2, 1) := by decide +kernel
theorem dL_judge_1 : decode cL_judge 1 = .ok (.iconst 0, 1) := by decide +kernel
theorem dL_judge_2 : decode cL_judge 2 = .ok (.aload_n 0, 1) := by decide +kernel
theorem dL_judge_3 : decode cL_judge 3 = .ok (.iload_n 1, 1) := by decide +kernel
theorem dL_judge_4 : decode cL_judge 4 = .ok (.invokevirtual 29, 3) := by decide +kernel
theorem dL_judge_7 : decode cL_judge 7 = .ok (.i2l, 1) := by decide +kernel
theorem dL_judge_8 : decode cL_judge 8 = .ok (.lastore, 1) := by decide +kernel
theorem dL_judge_9 : decode cL_judge 9 = .ok (.goto 9, 3) := by decide +kernel
theorem dL_judge_12 : decode cL_judge 12 = .ok (.astore_n 3, 1) := by decide +kernel
theorem dL_judge_13 : decode cL_judge 13 = .ok (.iconst 1, 1) := by decide +kernel
theorem dL_judge_14 : decode cL_judge 14 = .ok (.ireturn, 1) := by decide +kernel
theorem dL_judge_15 : decode cL_judge 15 = .ok (.astore_n 3, 1) := by decide +kernel
theorem dL_judge_16 : decode cL_judge 16 = .ok (.iconst 2, 1) := by decide +kernel
theorem dL_judge_17 : decode cL_judge 17 = .ok (.ireturn, 1) := by decide +kernel
theorem dL_judge_18 : decode cL_judge 18 = .ok (.iconst 0, 1) := by decide +kernel
theorem dL_judge_19 : decode cL_judge 19 = .ok (.ireturn, 1) := by decide +kernel
theorem dL_at_0 : decode cL_at 0 = .ok (.aload_n 2, 1) := by decide +kernel
theorem dL_at_1 : decode cL_at 1 = .ok (.iconst 0, 1) := by decide +kernel
theorem dL_at_2 : decode cL_at 2 = .ok (.aload_n 0, 1) := by decide +kernel
theorem dL_at_3 : decode cL_at 3 = .ok (.iload_n 1, 1) := by decide +kernel
theorem dL_at_4 : decode cL_at 4 = .ok (.invokevirtual 34, 3) := by decide +kernel
theorem dL_at_7 : decode cL_at 7 = .ok (.i2l, 1) := by decide +kernel
theorem dL_at_8 : decode cL_at 8 = .ok (.lastore, 1) := by decide +kernel
theorem dL_at_9 : decode cL_at 9 = .ok (.goto 6, 3) := by decide +kernel
theorem dL_at_12 : decode cL_at 12 = .ok (.astore_n 3, 1) := by decide +kernel
theorem dL_at_13 : decode cL_at 13 = .ok (.iconst 1, 1) := by decide +kernel
theorem dL_at_14 : decode cL_at 14 = .ok (.ireturn, 1) := by decide +kernel
theorem dL_at_15 : decode cL_at 15 = .ok (.iconst 0, 1) := by decide +kernel
theorem dL_at_16 : decode cL_at 16 = .ok (.ireturn, 1) := by decide +kernel
theorem dL_from_0 : decode cL_from 0 = .ok (.aload_n 2, 1) := by decide +kernel
theorem dL_from_1 : decode cL_from 1 = .ok (.iconst 0, 1) := by decide +kernel
theorem dL_from_2 : decode cL_from 2 = .ok (.aload_n 0, 1) := by decide +kernel
theorem dL_from_3 : decode cL_from 3 = .ok (.iload_n 1, 1) := by decide +kernel
theorem dL_from_4 : decode cL_from 4 = .ok (.invokevirtual 37, 3) := by decide +kernel
theorem dL_from_7 : decode cL_from 7 = .ok (.i2l, 1) := by decide +kernel
theorem dL_from_8 : decode cL_from 8 = .ok (.lastore, 1) := by decide +kernel
theorem dL_from_9 : decode cL_from 9 = .ok (.goto 6, 3) := by decide +kernel
theorem dL_from_12 : decode cL_from 12 = .ok (.astore_n 3, 1) := by decide +kernel
theorem dL_from_13 : decode cL_from 13 = .ok (.iconst 1, 1) := by decide +kernel
theorem dL_from_14 : decode cL_from 14 = .ok (.ireturn, 1) := by decide +kernel
theorem dL_from_15 : decode cL_from 15 = .ok (.iconst 0, 1) := by decide +kernel
theorem dL_from_16 : decode cL_from 16 = .ok (.ireturn, 1) := by decide +kernel
theorem dL_known_0 : decode cL_known 0 = .ok (.aload 5, 2) := by decide +kernel
theorem dL_known_2 : decode cL_known 2 = .ok (.iconst 0, 1) := by decide +kernel
theorem dL_known_3 : decode cL_known 3 = .ok (.aload_n 0, 1) := by decide +kernel
theorem dL_known_4 : decode cL_known 4 = .ok (.iload_n 1, 1) := by decide +kernel
theorem dL_known_5 : decode cL_known 5 = .ok (.iload_n 2, 1) := by decide +kernel
theorem dL_known_6 : decode cL_known 6 = .ok (.iload_n 3, 1) := by decide +kernel
theorem dL_known_7 : decode cL_known 7 = .ok (.iload 4, 2) := by decide +kernel
theorem dL_known_9 : decode cL_known 9 = .ok (.invokevirtual 40, 3) := by decide +kernel
theorem dL_known_12 : decode cL_known 12 = .ok (.i2l, 1) := by decide +kernel
theorem dL_known_13 : decode cL_known 13 = .ok (.lastore, 1) := by decide +kernel
theorem dL_known_14 : decode cL_known 14 = .ok (.goto 11, 3) := by decide +kernel
theorem dL_known_17 : decode cL_known 17 = .ok (.astore 6, 2) := by decide +kernel
theorem dL_known_19 : decode cL_known 19 = .ok (.iconst 1, 1) := by decide +kernel
theorem dL_known_20 : decode cL_known 20 = .ok (.ireturn, 1) := by decide +kernel
theorem dL_known_21 : decode cL_known 21 = .ok (.astore 6, 2) := by decide +kernel
theorem dL_known_23 : decode cL_known 23 = .ok (.iconst 2, 1) := by decide +kernel
theorem dL_known_24 : decode cL_known 24 = .ok (.ireturn, 1) := by decide +kernel
theorem dL_known_25 : decode cL_known 25 = .ok (.iconst 0, 1) := by decide +kernel
theorem dL_known_26 : decode cL_known 26 = .ok (.ireturn, 1) := by decide +kernel
theorem dL_law_0 : decode cL_law 0 = .ok (.new 8, 3) := by decide +kernel
theorem dL_law_3 : decode cL_law 3 = .ok (.dup, 1) := by decide +kernel
theorem dL_law_4 : decode cL_law 4 = .ok (.aload_n 0, 1) := by decide +kernel
theorem dL_law_5 : decode cL_law 5 = .ok (.iconst 0, 1) := by decide +kernel
theorem dL_law_6 : decode cL_law 6 = .ok (.invokestatic 44, 3) := by decide +kernel
theorem dL_law_9 : decode cL_law 9 = .ok (.invokespecial 50, 3) := by decide +kernel
theorem dL_law_12 : decode cL_law 12 = .ok (.astore_n 1, 1) := by decide +kernel
theorem dL_law_13 : decode cL_law 13 = .ok (.new 53, 3) := by decide +kernel
theorem dL_law_16 : decode cL_law 16 = .ok (.dup, 1) := by decide +kernel
theorem dL_law_17 : decode cL_law 17 = .ok (.aload_n 0, 1) := by decide +kernel
theorem dL_law_18 : decode cL_law 18 = .ok (.iconst 0, 1) := by decide +kernel
theorem dL_law_19 : decode cL_law 19 = .ok (.invokestatic 44, 3) := by decide +kernel
theorem dL_law_22 : decode cL_law 22 = .ok (.invokespecial 55, 3) := by decide +kernel
theorem dL_law_25 : decode cL_law 25 = .ok (.astore_n 2, 1) := by decide +kernel
theorem dL_law_26 : decode cL_law 26 = .ok (.iconst 1, 1) := by decide +kernel
theorem dL_law_27 : decode cL_law 27 = .ok (.newarray .long, 2) := by decide +kernel
theorem dL_law_29 : decode cL_law 29 = .ok (.astore_n 3, 1) := by decide +kernel
theorem dL_law_30 : decode cL_law 30 = .ok (.iconst 1, 1) := by decide +kernel
theorem dL_law_31 : decode cL_law 31 = .ok (.istore 4, 2) := by decide +kernel
theorem dL_law_33 : decode cL_law 33 = .ok (.iload 4, 2) := by decide +kernel
theorem dL_law_35 : decode cL_law 35 = .ok (.aload_n 0, 1) := by decide +kernel
theorem dL_law_36 : decode cL_law 36 = .ok (.arraylength, 1) := by decide +kernel
theorem dL_law_37 : decode cL_law 37 = .ok (.iconst 5, 1) := by decide +kernel
theorem dL_law_38 : decode cL_law 38 = .ok (.isub, 1) := by decide +kernel
theorem dL_law_39 : decode cL_law 39 = .ok (.if_icmp .gt 532, 3) := by decide +kernel
theorem dL_law_42 : decode cL_law 42 = .ok (.aload_n 0, 1) := by decide +kernel
theorem dL_law_43 : decode cL_law 43 = .ok (.iload 4, 2) := by decide +kernel
theorem dL_law_45 : decode cL_law 45 = .ok (.iaload, 1) := by decide +kernel
theorem dL_law_46 : decode cL_law 46 = .ok (.bipush 15, 2) := by decide +kernel
theorem dL_law_48 : decode cL_law 48 = .ok (.iand, 1) := by decide +kernel
theorem dL_law_49 : decode cL_law 49 = .ok (.tableswitch 516 0 8 #[51, 107, 131, 187, 231, 287, 343, 399, 491], 51) := by decide +kernel
theorem dL_law_100 : decode cL_law 100 = .ok (.aload_n 1, 1) := by decide +kernel
theorem dL_law_101 : decode cL_law 101 = .ok (.aload_n 0, 1) := by decide +kernel
theorem dL_law_102 : decode cL_law 102 = .ok (.iload 4, 2) := by decide +kernel
theorem dL_law_104 : decode cL_law 104 = .ok (.iconst 1, 1) := by decide +kernel
theorem dL_law_105 : decode cL_law 105 = .ok (.iadd, 1) := by decide +kernel
theorem dL_law_106 : decode cL_law 106 = .ok (.iaload, 1) := by decide +kernel
theorem dL_law_107 : decode cL_law 107 = .ok (.aload_n 3, 1) := by decide +kernel
theorem dL_law_108 : decode cL_law 108 = .ok (.invokestatic 56, 3) := by decide +kernel
theorem dL_law_111 : decode cL_law 111 = .ok (.istore 5, 2) := by decide +kernel
theorem dL_law_113 : decode cL_law 113 = .ok (.aload_n 2, 1) := by decide +kernel
theorem dL_law_114 : decode cL_law 114 = .ok (.aload_n 0, 1) := by decide +kernel
theorem dL_law_115 : decode cL_law 115 = .ok (.iload 4, 2) := by decide +kernel
theorem dL_law_117 : decode cL_law 117 = .ok (.iconst 1, 1) := by decide +kernel
theorem dL_law_118 : decode cL_law 118 = .ok (.iadd, 1) := by decide +kernel
theorem dL_law_119 : decode cL_law 119 = .ok (.iaload, 1) := by decide +kernel
theorem dL_law_120 : decode cL_law 120 = .ok (.invokevirtual 59, 3) := by decide +kernel
theorem dL_law_123 : decode cL_law 123 = .ok (.istore 6, 2) := by decide +kernel
theorem dL_law_125 : decode cL_law 125 = .ok (.aload_n 2, 1) := by decide +kernel
theorem dL_law_126 : decode cL_law 126 = .ok (.invokevirtual 60, 3) := by decide +kernel
theorem dL_law_129 : decode cL_law 129 = .ok (.iload 5, 2) := by decide +kernel
theorem dL_law_131 : decode cL_law 131 = .ok (.if_icmp .eq 5, 3) := by decide +kernel
theorem dL_law_134 : decode cL_law 134 = .ok (.iconst 0, 1) := by decide +kernel
theorem dL_law_135 : decode cL_law 135 = .ok (.ireturn, 1) := by decide +kernel
theorem dL_law_136 : decode cL_law 136 = .ok (.iload 5, 2) := by decide +kernel
theorem dL_law_138 : decode cL_law 138 = .ok (.ifCond .ne 15, 3) := by decide +kernel
theorem dL_law_141 : decode cL_law 141 = .ok (.aload_n 3, 1) := by decide +kernel
theorem dL_law_142 : decode cL_law 142 = .ok (.iconst 0, 1) := by decide +kernel
theorem dL_law_143 : decode cL_law 143 = .ok (.laload, 1) := by decide +kernel
theorem dL_law_144 : decode cL_law 144 = .ok (.iload 6, 2) := by decide +kernel
theorem dL_law_146 : decode cL_law 146 = .ok (.i2l, 1) := by decide +kernel
theorem dL_law_147 : decode cL_law 147 = .ok (.lcmp, 1) := by decide +kernel
theorem dL_law_148 : decode cL_law 148 = .ok (.ifCond .eq 5, 3) := by decide +kernel
theorem dL_law_151 : decode cL_law 151 = .ok (.iconst 0, 1) := by decide +kernel
theorem dL_law_152 : decode cL_law 152 = .ok (.ireturn, 1) := by decide +kernel
theorem dL_law_153 : decode cL_law 153 = .ok (.goto 412, 3) := by decide +kernel
theorem dL_law_156 : decode cL_law 156 = .ok (.aload_n 1, 1) := by decide +kernel
theorem dL_law_157 : decode cL_law 157 = .ok (.invokestatic 63, 3) := by decide +kernel
theorem dL_law_160 : decode cL_law 160 = .ok (.istore 5, 2) := by decide +kernel
theorem dL_law_162 : decode cL_law 162 = .ok (.aload_n 2, 1) := by decide +kernel
theorem dL_law_163 : decode cL_law 163 = .ok (.invokevirtual 66, 3) := by decide +kernel
theorem dL_law_166 : decode cL_law 166 = .ok (.aload_n 2, 1) := by decide +kernel
theorem dL_law_167 : decode cL_law 167 = .ok (.invokevirtual 60, 3) := by decide +kernel
theorem dL_law_170 : decode cL_law 170 = .ok (.iload 5, 2) := by decide +kernel
theorem dL_law_172 : decode cL_law 172 = .ok (.if_icmp .eq 5, 3) := by decide +kernel
theorem dL_law_175 : decode cL_law 175 = .ok (.iconst 0, 1) := by decide +kernel
theorem dL_law_176 : decode cL_law 176 = .ok (.ireturn, 1) := by decide +kernel
theorem dL_law_177 : decode cL_law 177 = .ok (.goto 388, 3) := by decide +kernel
theorem dL_law_180 : decode cL_law 180 = .ok (.aload_n 1, 1) := by decide +kernel
theorem dL_law_181 : decode cL_law 181 = .ok (.aload_n 0, 1) := by decide +kernel
theorem dL_law_182 : decode cL_law 182 = .ok (.iload 4, 2) := by decide +kernel
theorem dL_law_184 : decode cL_law 184 = .ok (.iconst 1, 1) := by decide +kernel
theorem dL_law_185 : decode cL_law 185 = .ok (.iadd, 1) := by decide +kernel
theorem dL_law_186 : decode cL_law 186 = .ok (.iaload, 1) := by decide +kernel
theorem dL_law_187 : decode cL_law 187 = .ok (.aload_n 3, 1) := by decide +kernel
theorem dL_law_188 : decode cL_law 188 = .ok (.invokestatic 67, 3) := by decide +kernel
theorem dL_law_191 : decode cL_law 191 = .ok (.istore 5, 2) := by decide +kernel
theorem dL_law_193 : decode cL_law 193 = .ok (.aload_n 2, 1) := by decide +kernel
theorem dL_law_194 : decode cL_law 194 = .ok (.aload_n 0, 1) := by decide +kernel
theorem dL_law_195 : decode cL_law 195 = .ok (.iload 4, 2) := by decide +kernel
theorem dL_law_197 : decode cL_law 197 = .ok (.iconst 1, 1) := by decide +kernel
theorem dL_law_198 : decode cL_law 198 = .ok (.iadd, 1) := by decide +kernel
theorem dL_law_199 : decode cL_law 199 = .ok (.iaload, 1) := by decide +kernel
theorem dL_law_200 : decode cL_law 200 = .ok (.invokevirtual 69, 3) := by decide +kernel
theorem dL_law_203 : decode cL_law 203 = .ok (.istore 6, 2) := by decide +kernel
theorem dL_law_205 : decode cL_law 205 = .ok (.aload_n 2, 1) := by decide +kernel
theorem dL_law_206 : decode cL_law 206 = .ok (.invokevirtual 60, 3) := by decide +kernel
theorem dL_law_209 : decode cL_law 209 = .ok (.iload 5, 2) := by decide +kernel
theorem dL_law_211 : decode cL_law 211 = .ok (.if_icmp .eq 5, 3) := by decide +kernel
theorem dL_law_214 : decode cL_law 214 = .ok (.iconst 0, 1) := by decide +kernel
theorem dL_law_215 : decode cL_law 215 = .ok (.ireturn, 1) := by decide +kernel
theorem dL_law_216 : decode cL_law 216 = .ok (.iload 5, 2) := by decide +kernel
theorem dL_law_218 : decode cL_law 218 = .ok (.ifCond .ne 15, 3) := by decide +kernel
theorem dL_law_221 : decode cL_law 221 = .ok (.aload_n 3, 1) := by decide +kernel
theorem dL_law_222 : decode cL_law 222 = .ok (.iconst 0, 1) := by decide +kernel
theorem dL_law_223 : decode cL_law 223 = .ok (.laload, 1) := by decide +kernel
theorem dL_law_224 : decode cL_law 224 = .ok (.iload 6, 2) := by decide +kernel
theorem dL_law_226 : decode cL_law 226 = .ok (.i2l, 1) := by decide +kernel
theorem dL_law_227 : decode cL_law 227 = .ok (.lcmp, 1) := by decide +kernel
theorem dL_law_228 : decode cL_law 228 = .ok (.ifCond .eq 5, 3) := by decide +kernel
theorem dL_law_231 : decode cL_law 231 = .ok (.iconst 0, 1) := by decide +kernel
theorem dL_law_232 : decode cL_law 232 = .ok (.ireturn, 1) := by decide +kernel
theorem dL_law_233 : decode cL_law 233 = .ok (.goto 332, 3) := by decide +kernel
theorem dL_law_236 : decode cL_law 236 = .ok (.aload_n 1, 1) := by decide +kernel
theorem dL_law_237 : decode cL_law 237 = .ok (.aload_n 3, 1) := by decide +kernel
theorem dL_law_238 : decode cL_law 238 = .ok (.invokestatic 70, 3) := by decide +kernel
theorem dL_law_241 : decode cL_law 241 = .ok (.istore 5, 2) := by decide +kernel
theorem dL_law_243 : decode cL_law 243 = .ok (.aload_n 2, 1) := by decide +kernel
theorem dL_law_244 : decode cL_law 244 = .ok (.invokevirtual 73, 3) := by decide +kernel
theorem dL_law_247 : decode cL_law 247 = .ok (.istore 6, 2) := by decide +kernel
theorem dL_law_249 : decode cL_law 249 = .ok (.aload_n 2, 1) := by decide +kernel
theorem dL_law_250 : decode cL_law 250 = .ok (.invokevirtual 60, 3) := by decide +kernel
theorem dL_law_253 : decode cL_law 253 = .ok (.iload 5, 2) := by decide +kernel
theorem dL_law_255 : decode cL_law 255 = .ok (.if_icmp .eq 5, 3) := by decide +kernel
theorem dL_law_258 : decode cL_law 258 = .ok (.iconst 0, 1) := by decide +kernel
theorem dL_law_259 : decode cL_law 259 = .ok (.ireturn, 1) := by decide +kernel
theorem dL_law_260 : decode cL_law 260 = .ok (.iload 5, 2) := by decide +kernel
theorem dL_law_262 : decode cL_law 262 = .ok (.ifCond .ne 15, 3) := by decide +kernel
theorem dL_law_265 : decode cL_law 265 = .ok (.aload_n 3, 1) := by decide +kernel
theorem dL_law_266 : decode cL_law 266 = .ok (.iconst 0, 1) := by decide +kernel
theorem dL_law_267 : decode cL_law 267 = .ok (.laload, 1) := by decide +kernel
theorem dL_law_268 : decode cL_law 268 = .ok (.iload 6, 2) := by decide +kernel
theorem dL_law_270 : decode cL_law 270 = .ok (.i2l, 1) := by decide +kernel
theorem dL_law_271 : decode cL_law 271 = .ok (.lcmp, 1) := by decide +kernel
theorem dL_law_272 : decode cL_law 272 = .ok (.ifCond .eq 5, 3) := by decide +kernel
theorem dL_law_275 : decode cL_law 275 = .ok (.iconst 0, 1) := by decide +kernel
theorem dL_law_276 : decode cL_law 276 = .ok (.ireturn, 1) := by decide +kernel
theorem dL_law_277 : decode cL_law 277 = .ok (.goto 288, 3) := by decide +kernel
theorem dL_law_280 : decode cL_law 280 = .ok (.aload_n 1, 1) := by decide +kernel
theorem dL_law_281 : decode cL_law 281 = .ok (.aload_n 0, 1) := by decide +kernel
theorem dL_law_282 : decode cL_law 282 = .ok (.iload 4, 2) := by decide +kernel
theorem dL_law_284 : decode cL_law 284 = .ok (.iconst 1, 1) := by decide +kernel
theorem dL_law_285 : decode cL_law 285 = .ok (.iadd, 1) := by decide +kernel
theorem dL_law_286 : decode cL_law 286 = .ok (.iaload, 1) := by decide +kernel
theorem dL_law_287 : decode cL_law 287 = .ok (.aload_n 3, 1) := by decide +kernel
theorem dL_law_288 : decode cL_law 288 = .ok (.invokestatic 74, 3) := by decide +kernel
theorem dL_law_291 : decode cL_law 291 = .ok (.istore 5, 2) := by decide +kernel
theorem dL_law_293 : decode cL_law 293 = .ok (.aload_n 2, 1) := by decide +kernel
theorem dL_law_294 : decode cL_law 294 = .ok (.aload_n 0, 1) := by decide +kernel
theorem dL_law_295 : decode cL_law 295 = .ok (.iload 4, 2) := by decide +kernel
theorem dL_law_297 : decode cL_law 297 = .ok (.iconst 1, 1) := by decide +kernel
theorem dL_law_298 : decode cL_law 298 = .ok (.iadd, 1) := by decide +kernel
theorem dL_law_299 : decode cL_law 299 = .ok (.iaload, 1) := by decide +kernel
theorem dL_law_300 : decode cL_law 300 = .ok (.invokevirtual 76, 3) := by decide +kernel
theorem dL_law_303 : decode cL_law 303 = .ok (.istore 6, 2) := by decide +kernel
theorem dL_law_305 : decode cL_law 305 = .ok (.aload_n 2, 1) := by decide +kernel
theorem dL_law_306 : decode cL_law 306 = .ok (.invokevirtual 60, 3) := by decide +kernel
theorem dL_law_309 : decode cL_law 309 = .ok (.iload 5, 2) := by decide +kernel
theorem dL_law_311 : decode cL_law 311 = .ok (.if_icmp .eq 5, 3) := by decide +kernel
theorem dL_law_314 : decode cL_law 314 = .ok (.iconst 0, 1) := by decide +kernel
theorem dL_law_315 : decode cL_law 315 = .ok (.ireturn, 1) := by decide +kernel
theorem dL_law_316 : decode cL_law 316 = .ok (.iload 5, 2) := by decide +kernel
theorem dL_law_318 : decode cL_law 318 = .ok (.ifCond .ne 15, 3) := by decide +kernel
theorem dL_law_321 : decode cL_law 321 = .ok (.aload_n 3, 1) := by decide +kernel
theorem dL_law_322 : decode cL_law 322 = .ok (.iconst 0, 1) := by decide +kernel
theorem dL_law_323 : decode cL_law 323 = .ok (.laload, 1) := by decide +kernel
theorem dL_law_324 : decode cL_law 324 = .ok (.iload 6, 2) := by decide +kernel
theorem dL_law_326 : decode cL_law 326 = .ok (.i2l, 1) := by decide +kernel
theorem dL_law_327 : decode cL_law 327 = .ok (.lcmp, 1) := by decide +kernel
theorem dL_law_328 : decode cL_law 328 = .ok (.ifCond .eq 5, 3) := by decide +kernel
theorem dL_law_331 : decode cL_law 331 = .ok (.iconst 0, 1) := by decide +kernel
theorem dL_law_332 : decode cL_law 332 = .ok (.ireturn, 1) := by decide +kernel
theorem dL_law_333 : decode cL_law 333 = .ok (.goto 232, 3) := by decide +kernel
theorem dL_law_336 : decode cL_law 336 = .ok (.aload_n 1, 1) := by decide +kernel
theorem dL_law_337 : decode cL_law 337 = .ok (.aload_n 0, 1) := by decide +kernel
theorem dL_law_338 : decode cL_law 338 = .ok (.iload 4, 2) := by decide +kernel
theorem dL_law_340 : decode cL_law 340 = .ok (.iconst 1, 1) := by decide +kernel
theorem dL_law_341 : decode cL_law 341 = .ok (.iadd, 1) := by decide +kernel
theorem dL_law_342 : decode cL_law 342 = .ok (.iaload, 1) := by decide +kernel
theorem dL_law_343 : decode cL_law 343 = .ok (.aload_n 3, 1) := by decide +kernel
theorem dL_law_344 : decode cL_law 344 = .ok (.invokestatic 77, 3) := by decide +kernel
theorem dL_law_347 : decode cL_law 347 = .ok (.istore 5, 2) := by decide +kernel
theorem dL_law_349 : decode cL_law 349 = .ok (.aload_n 2, 1) := by decide +kernel
theorem dL_law_350 : decode cL_law 350 = .ok (.aload_n 0, 1) := by decide +kernel
theorem dL_law_351 : decode cL_law 351 = .ok (.iload 4, 2) := by decide +kernel
theorem dL_law_353 : decode cL_law 353 = .ok (.iconst 1, 1) := by decide +kernel
theorem dL_law_354 : decode cL_law 354 = .ok (.iadd, 1) := by decide +kernel
theorem dL_law_355 : decode cL_law 355 = .ok (.iaload, 1) := by decide +kernel
theorem dL_law_356 : decode cL_law 356 = .ok (.invokevirtual 79, 3) := by decide +kernel
theorem dL_law_359 : decode cL_law 359 = .ok (.istore 6, 2) := by decide +kernel
theorem dL_law_361 : decode cL_law 361 = .ok (.aload_n 2, 1) := by decide +kernel
theorem dL_law_362 : decode cL_law 362 = .ok (.invokevirtual 60, 3) := by decide +kernel
theorem dL_law_365 : decode cL_law 365 = .ok (.iload 5, 2) := by decide +kernel
theorem dL_law_367 : decode cL_law 367 = .ok (.if_icmp .eq 5, 3) := by decide +kernel
theorem dL_law_370 : decode cL_law 370 = .ok (.iconst 0, 1) := by decide +kernel
theorem dL_law_371 : decode cL_law 371 = .ok (.ireturn, 1) := by decide +kernel
theorem dL_law_372 : decode cL_law 372 = .ok (.iload 5, 2) := by decide +kernel
theorem dL_law_374 : decode cL_law 374 = .ok (.ifCond .ne 15, 3) := by decide +kernel
theorem dL_law_377 : decode cL_law 377 = .ok (.aload_n 3, 1) := by decide +kernel
theorem dL_law_378 : decode cL_law 378 = .ok (.iconst 0, 1) := by decide +kernel
theorem dL_law_379 : decode cL_law 379 = .ok (.laload, 1) := by decide +kernel
theorem dL_law_380 : decode cL_law 380 = .ok (.iload 6, 2) := by decide +kernel
theorem dL_law_382 : decode cL_law 382 = .ok (.i2l, 1) := by decide +kernel
theorem dL_law_383 : decode cL_law 383 = .ok (.lcmp, 1) := by decide +kernel
theorem dL_law_384 : decode cL_law 384 = .ok (.ifCond .eq 5, 3) := by decide +kernel
theorem dL_law_387 : decode cL_law 387 = .ok (.iconst 0, 1) := by decide +kernel
theorem dL_law_388 : decode cL_law 388 = .ok (.ireturn, 1) := by decide +kernel
theorem dL_law_389 : decode cL_law 389 = .ok (.goto 176, 3) := by decide +kernel
theorem dL_law_392 : decode cL_law 392 = .ok (.aload_n 1, 1) := by decide +kernel
theorem dL_law_393 : decode cL_law 393 = .ok (.aload_n 0, 1) := by decide +kernel
theorem dL_law_394 : decode cL_law 394 = .ok (.iload 4, 2) := by decide +kernel
theorem dL_law_396 : decode cL_law 396 = .ok (.iconst 1, 1) := by decide +kernel
theorem dL_law_397 : decode cL_law 397 = .ok (.iadd, 1) := by decide +kernel
theorem dL_law_398 : decode cL_law 398 = .ok (.iaload, 1) := by decide +kernel
theorem dL_law_399 : decode cL_law 399 = .ok (.aload_n 3, 1) := by decide +kernel
theorem dL_law_400 : decode cL_law 400 = .ok (.invokestatic 80, 3) := by decide +kernel
theorem dL_law_403 : decode cL_law 403 = .ok (.istore 5, 2) := by decide +kernel
theorem dL_law_405 : decode cL_law 405 = .ok (.aload_n 2, 1) := by decide +kernel
theorem dL_law_406 : decode cL_law 406 = .ok (.aload_n 0, 1) := by decide +kernel
theorem dL_law_407 : decode cL_law 407 = .ok (.iload 4, 2) := by decide +kernel
theorem dL_law_409 : decode cL_law 409 = .ok (.iconst 1, 1) := by decide +kernel
theorem dL_law_410 : decode cL_law 410 = .ok (.iadd, 1) := by decide +kernel
theorem dL_law_411 : decode cL_law 411 = .ok (.iaload, 1) := by decide +kernel
theorem dL_law_412 : decode cL_law 412 = .ok (.invokevirtual 82, 3) := by decide +kernel
theorem dL_law_415 : decode cL_law 415 = .ok (.istore 6, 2) := by decide +kernel
theorem dL_law_417 : decode cL_law 417 = .ok (.aload_n 2, 1) := by decide +kernel
theorem dL_law_418 : decode cL_law 418 = .ok (.invokevirtual 60, 3) := by decide +kernel
theorem dL_law_421 : decode cL_law 421 = .ok (.iload 5, 2) := by decide +kernel
theorem dL_law_423 : decode cL_law 423 = .ok (.if_icmp .eq 5, 3) := by decide +kernel
theorem dL_law_426 : decode cL_law 426 = .ok (.iconst 0, 1) := by decide +kernel
theorem dL_law_427 : decode cL_law 427 = .ok (.ireturn, 1) := by decide +kernel
theorem dL_law_428 : decode cL_law 428 = .ok (.iload 5, 2) := by decide +kernel
theorem dL_law_430 : decode cL_law 430 = .ok (.ifCond .ne 15, 3) := by decide +kernel
theorem dL_law_433 : decode cL_law 433 = .ok (.aload_n 3, 1) := by decide +kernel
theorem dL_law_434 : decode cL_law 434 = .ok (.iconst 0, 1) := by decide +kernel
theorem dL_law_435 : decode cL_law 435 = .ok (.laload, 1) := by decide +kernel
theorem dL_law_436 : decode cL_law 436 = .ok (.iload 6, 2) := by decide +kernel
theorem dL_law_438 : decode cL_law 438 = .ok (.i2l, 1) := by decide +kernel
theorem dL_law_439 : decode cL_law 439 = .ok (.lcmp, 1) := by decide +kernel
theorem dL_law_440 : decode cL_law 440 = .ok (.ifCond .eq 5, 3) := by decide +kernel
theorem dL_law_443 : decode cL_law 443 = .ok (.iconst 0, 1) := by decide +kernel
theorem dL_law_444 : decode cL_law 444 = .ok (.ireturn, 1) := by decide +kernel
theorem dL_law_445 : decode cL_law 445 = .ok (.goto 120, 3) := by decide +kernel
theorem dL_law_448 : decode cL_law 448 = .ok (.aload_n 1, 1) := by decide +kernel
theorem dL_law_449 : decode cL_law 449 = .ok (.aload_n 0, 1) := by decide +kernel
theorem dL_law_450 : decode cL_law 450 = .ok (.iload 4, 2) := by decide +kernel
theorem dL_law_452 : decode cL_law 452 = .ok (.iconst 1, 1) := by decide +kernel
theorem dL_law_453 : decode cL_law 453 = .ok (.iadd, 1) := by decide +kernel
theorem dL_law_454 : decode cL_law 454 = .ok (.iaload, 1) := by decide +kernel
theorem dL_law_455 : decode cL_law 455 = .ok (.aload_n 0, 1) := by decide +kernel
theorem dL_law_456 : decode cL_law 456 = .ok (.iload 4, 2) := by decide +kernel
theorem dL_law_458 : decode cL_law 458 = .ok (.iconst 2, 1) := by decide +kernel
theorem dL_law_459 : decode cL_law 459 = .ok (.iadd, 1) := by decide +kernel
theorem dL_law_460 : decode cL_law 460 = .ok (.iaload, 1) := by decide +kernel
theorem dL_law_461 : decode cL_law 461 = .ok (.aload_n 0, 1) := by decide +kernel
theorem dL_law_462 : decode cL_law 462 = .ok (.iload 4, 2) := by decide +kernel
theorem dL_law_464 : decode cL_law 464 = .ok (.iconst 3, 1) := by decide +kernel
theorem dL_law_465 : decode cL_law 465 = .ok (.iadd, 1) := by decide +kernel
theorem dL_law_466 : decode cL_law 466 = .ok (.iaload, 1) := by decide +kernel
theorem dL_law_467 : decode cL_law 467 = .ok (.aload_n 0, 1) := by decide +kernel
theorem dL_law_468 : decode cL_law 468 = .ok (.iload 4, 2) := by decide +kernel
theorem dL_law_470 : decode cL_law 470 = .ok (.iconst 4, 1) := by decide +kernel
theorem dL_law_471 : decode cL_law 471 = .ok (.iadd, 1) := by decide +kernel
theorem dL_law_472 : decode cL_law 472 = .ok (.iaload, 1) := by decide +kernel
theorem dL_law_473 : decode cL_law 473 = .ok (.aload_n 3, 1) := by decide +kernel
theorem dL_law_474 : decode cL_law 474 = .ok (.invokestatic 83, 3) := by decide +kernel
theorem dL_law_477 : decode cL_law 477 = .ok (.istore 5, 2) := by decide +kernel
theorem dL_law_479 : decode cL_law 479 = .ok (.aload_n 2, 1) := by decide +kernel
theorem dL_law_480 : decode cL_law 480 = .ok (.aload_n 0, 1) := by decide +kernel
theorem dL_law_481 : decode cL_law 481 = .ok (.iload 4, 2) := by decide +kernel
theorem dL_law_483 : decode cL_law 483 = .ok (.iconst 1, 1) := by decide +kernel
theorem dL_law_484 : decode cL_law 484 = .ok (.iadd, 1) := by decide +kernel
theorem dL_law_485 : decode cL_law 485 = .ok (.iaload, 1) := by decide +kernel
theorem dL_law_486 : decode cL_law 486 = .ok (.aload_n 0, 1) := by decide +kernel
theorem dL_law_487 : decode cL_law 487 = .ok (.iload 4, 2) := by decide +kernel
theorem dL_law_489 : decode cL_law 489 = .ok (.iconst 2, 1) := by decide +kernel
theorem dL_law_490 : decode cL_law 490 = .ok (.iadd, 1) := by decide +kernel
theorem dL_law_491 : decode cL_law 491 = .ok (.iaload, 1) := by decide +kernel
theorem dL_law_492 : decode cL_law 492 = .ok (.aload_n 0, 1) := by decide +kernel
theorem dL_law_493 : decode cL_law 493 = .ok (.iload 4, 2) := by decide +kernel
theorem dL_law_495 : decode cL_law 495 = .ok (.iconst 3, 1) := by decide +kernel
theorem dL_law_496 : decode cL_law 496 = .ok (.iadd, 1) := by decide +kernel
theorem dL_law_497 : decode cL_law 497 = .ok (.iaload, 1) := by decide +kernel
theorem dL_law_498 : decode cL_law 498 = .ok (.aload_n 0, 1) := by decide +kernel
theorem dL_law_499 : decode cL_law 499 = .ok (.iload 4, 2) := by decide +kernel
theorem dL_law_501 : decode cL_law 501 = .ok (.iconst 4, 1) := by decide +kernel
theorem dL_law_502 : decode cL_law 502 = .ok (.iadd, 1) := by decide +kernel
theorem dL_law_503 : decode cL_law 503 = .ok (.iaload, 1) := by decide +kernel
theorem dL_law_504 : decode cL_law 504 = .ok (.invokevirtual 86, 3) := by decide +kernel
theorem dL_law_507 : decode cL_law 507 = .ok (.istore 6, 2) := by decide +kernel
theorem dL_law_509 : decode cL_law 509 = .ok (.aload_n 2, 1) := by decide +kernel
theorem dL_law_510 : decode cL_law 510 = .ok (.invokevirtual 60, 3) := by decide +kernel
theorem dL_law_513 : decode cL_law 513 = .ok (.iload 5, 2) := by decide +kernel
theorem dL_law_515 : decode cL_law 515 = .ok (.if_icmp .eq 5, 3) := by decide +kernel
theorem dL_law_518 : decode cL_law 518 = .ok (.iconst 0, 1) := by decide +kernel
theorem dL_law_519 : decode cL_law 519 = .ok (.ireturn, 1) := by decide +kernel
theorem dL_law_520 : decode cL_law 520 = .ok (.iload 5, 2) := by decide +kernel
theorem dL_law_522 : decode cL_law 522 = .ok (.ifCond .ne 15, 3) := by decide +kernel
theorem dL_law_525 : decode cL_law 525 = .ok (.aload_n 3, 1) := by decide +kernel
theorem dL_law_526 : decode cL_law 526 = .ok (.iconst 0, 1) := by decide +kernel
theorem dL_law_527 : decode cL_law 527 = .ok (.laload, 1) := by decide +kernel
theorem dL_law_528 : decode cL_law 528 = .ok (.iload 6, 2) := by decide +kernel
theorem dL_law_530 : decode cL_law 530 = .ok (.i2l, 1) := by decide +kernel
theorem dL_law_531 : decode cL_law 531 = .ok (.lcmp, 1) := by decide +kernel
theorem dL_law_532 : decode cL_law 532 = .ok (.ifCond .eq 5, 3) := by decide +kernel
theorem dL_law_535 : decode cL_law 535 = .ok (.iconst 0, 1) := by decide +kernel
theorem dL_law_536 : decode cL_law 536 = .ok (.ireturn, 1) := by decide +kernel
theorem dL_law_537 : decode cL_law 537 = .ok (.goto 28, 3) := by decide +kernel
theorem dL_law_540 : decode cL_law 540 = .ok (.aload_n 1, 1) := by decide +kernel
theorem dL_law_541 : decode cL_law 541 = .ok (.aload_n 0, 1) := by decide +kernel
theorem dL_law_542 : decode cL_law 542 = .ok (.iload 4, 2) := by decide +kernel
theorem dL_law_544 : decode cL_law 544 = .ok (.iconst 1, 1) := by decide +kernel
theorem dL_law_545 : decode cL_law 545 = .ok (.iadd, 1) := by decide +kernel
theorem dL_law_546 : decode cL_law 546 = .ok (.iaload, 1) := by decide +kernel
theorem dL_law_547 : decode cL_law 547 = .ok (.invokevirtual 87, 3) := by decide +kernel
theorem dL_law_550 : decode cL_law 550 = .ok (.aload_n 2, 1) := by decide +kernel
theorem dL_law_551 : decode cL_law 551 = .ok (.aload_n 0, 1) := by decide +kernel
theorem dL_law_552 : decode cL_law 552 = .ok (.iload 4, 2) := by decide +kernel
theorem dL_law_554 : decode cL_law 554 = .ok (.iconst 1, 1) := by decide +kernel
theorem dL_law_555 : decode cL_law 555 = .ok (.iadd, 1) := by decide +kernel
theorem dL_law_556 : decode cL_law 556 = .ok (.iaload, 1) := by decide +kernel
theorem dL_law_557 : decode cL_law 557 = .ok (.invokevirtual 90, 3) := by decide +kernel
theorem dL_law_560 : decode cL_law 560 = .ok (.if_icmp .eq 5, 3) := by decide +kernel
theorem dL_law_563 : decode cL_law 563 = .ok (.iconst 0, 1) := by decide +kernel
theorem dL_law_564 : decode cL_law 564 = .ok (.ireturn, 1) := by decide +kernel
theorem dL_law_565 : decode cL_law 565 = .ok (.iinc 4 5, 3) := by decide +kernel
theorem dL_law_568 : decode cL_law 568 = .ok (.goto (-535), 3) := by decide +kernel
theorem dL_law_571 : decode cL_law 571 = .ok (.iconst 1, 1) := by decide +kernel
theorem dL_law_572 : decode cL_law 572 = .ok (.ireturn, 1) := by decide +kernel
end
section
-- OWN BASE ROWS: a method's start and end in the words used throughout
theorem wA_gd : GoodIn wA wA := fun w h => ⟨h, good_of_word (List.all_eq_true.mp wA_good w h)⟩
theorem sp_hA {w0 : Cond} {args : Array Value} {s : State} (h : ∀ w ∈ w0 :: wA, w.before args s = true) : ∀ w ∈ wA, w.before args s = true := fun w hw => h w (List.mem_cons_of_mem _ hw)
theorem gd_I {c0 : Cond} (h5 : c0 ∈ wA) : GoodIn wA (c0 :: wA) := fun w h => (List.mem_cons.mp h).elim (fun e => by rw [e]; exact wA_gd c0 h5) (fun h => wA_gd w h)
theorem gd_V {own : String} {idx : Nat} {C : String} {y : MethodName} {c0 : Cond} (h1 : Cond.methodLink own idx y ∈ wA) (h2 : Cond.instanceMethod y ∈ wA) (h3 : Cond.selects C y y ∈ wA) (h4 : Cond.initialized C ∈ wA) (h5 : c0 ∈ wA) : GoodIn wA (wsV own idx C y (c0 :: wA)) := by
  intro w h
  rcases List.mem_append.mp h with h | h
  · simp only [List.mem_cons, List.not_mem_nil, or_false] at h
    rcases h with rfl | rfl | rfl | rfl
    · exact wA_gd _ h1
    · exact wA_gd _ h2
    · exact wA_gd _ h3
    · exact wA_gd _ h4
  · exact gd_I h5 w h
theorem gd_S {own : String} {idx : Nat} {y : MethodName} {c0 : Cond} (h1 : Cond.methodLink own idx y ∈ wA) (h2 : Cond.static y ∈ wA) (h4 : Cond.initialized own ∈ wA) (h5 : c0 ∈ wA) : GoodIn wA (wsS own idx y (c0 :: wA)) := by
  intro w h
  rcases List.mem_append.mp h with h | h
  · simp only [List.mem_cons, List.not_mem_nil, or_false] at h
    rcases h with rfl | rfl | rfl
    · exact wA_gd _ h1
    · exact wA_gd _ h2
    · exact wA_gd _ h4
  · exact gd_I h5 w h
/-- the words that a shift of the tables doesn't keep by itself: constructors of nest mates, the array of asks -/
def sp_G (U : State) : Prop := va_Nw (.methodLinkNest "ShortenPrograms" 23 yP_init "ShortenPrograms") U ∧ va_Nw (.methodLinkNest "ShortenPrograms" 33 yM_init "ShortenPrograms") U ∧ va_Nw (.methodLinkNest "ShortenPrograms" 40 yW_init "ShortenPrograms") U ∧ va_Nw (.methodLinkNest "ShortenPrograms$Memory" 21 yA_init "ShortenPrograms") U ∧ va_Nw (.methodLinkNest "ShortenPrograms$Ask" 11 yP_init "ShortenPrograms") U ∧ va_AO "ShortenPrograms$Ask" U
theorem sp_G.warm {s U : State} (hW : s.WarmedH U.vm) (h : sp_G s) : sp_G U := by
  obtain ⟨h1, h2, h3, h4, h5, h6⟩ := h
  exact ⟨h1.warmM hW, h2.warmM hW, h3.warmM hW, h4.warmM hW, h5.warmM hW, h6.moved hW.alike⟩
theorem sp_G.call {U : State} {g : JFrame} {mk : MethodId} {a : Array Value} (h : sp_G U) : sp_G (U.calling g mk a) := by
  obtain ⟨h1, h2, h3, h4, h5, h6⟩ := h
  exact ⟨h1.same rfl rfl, h2.same rfl rfl, h3.same rfl rfl, h4.same rfl rfl, h5.same rfl rfl, h6.moved (u := U) (U := U.calling g mk a) (Vm.Alike.refl U.vm)⟩
abbrev kT (cI cQ : ClassId) : List (ClassId × FieldType) := [(cI, .int), (cQ, .object "ShortenPrograms$Ask")]
/-- a writer's start: its cells, of a heap of size sz, apart -/
def sp_P (D : va_G) (tys : List (ClassId × FieldType)) (av : List Value) (ws : va_W) (sz : Nat) : Array Value → State → Prop := va_Pc av (fun U => U.heap.size = sz ∧ va_P D vwCl ws U.heap ∧ va_K D vwCl tys U ∧ va_D (fun _ => True) ws ∧ sp_G U)
/-- a reader's start -/
def sp_R (D : va_G) (tys : List (ClassId × FieldType)) (av : List Value) (ws : va_W) : Array Value → State → Prop := va_Pc av (fun U => va_P D vwCl ws U.heap ∧ va_K D vwCl tys U ∧ sp_G U)
theorem sp_Pb {D : va_G} {tys : List (ClassId × FieldType)} {av : List Value} {ws : va_W} {sz : Nat} : FrameBlind (sp_P D tys av ws sz) := fun a U g mk q => by
  obtain ⟨q0, q1, qP, qK, qD, qG⟩ := q
  exact ⟨q0, q1, qP, va_K.moved (u := U) (U := U.calling g mk a) (Vm.Alike.refl U.vm) qK, qD, qG.call⟩
theorem sp_Rb {D : va_G} {tys : List (ClassId × FieldType)} {av : List Value} {ws : va_W} : FrameBlind (sp_R D tys av ws) := fun a U g mk q => by
  obtain ⟨q0, qP, qK, qG⟩ := q
  exact ⟨q0, qP, va_K.moved (u := U) (U := U.calling g mk a) (Vm.Alike.refl U.vm) qK, qG.call⟩
theorem sp_Po {D : va_G} {tys : List (ClassId × FieldType)} {av : List Value} {ws : va_W} {A : Nat → Prop} {H : Heap} {s : State} (hP : va_P D vwCl ws H) (hK : va_K D vwCl tys s) (hG : sp_G s) (hD : va_D A ws) : ∀ U : State, U.heap = H → s.WarmedH U.vm → sp_P D tys av ws H.size av.toArray U := fun U hU hW => ⟨rfl, by rw [hU], by rw [hU]; exact hP, va_K.moved hW.alike hK, hD.weaken (fun _ _ _ _ => trivial), hG.warm hW⟩
theorem sp_Ro {D : va_G} {tys : List (ClassId × FieldType)} {av : List Value} {ws : va_W} {H : Heap} {s : State} (hP : va_P D vwCl ws H) (hK : va_K D vwCl tys s) (hG : sp_G s) : ∀ U : State, U.heap = H → s.WarmedH U.vm → sp_R D tys av ws av.toArray U := fun U hU hW => ⟨rfl, by rw [hU]; exact hP, va_K.moved hW.alike hK, hG.warm hW⟩
/-- behind a reader every world stands -/
theorem sp_kp {D : va_G} {ws : va_W} {H H1 : Heap} (hP : va_P D vwCl ws H) (hk : ∀ q : Nat, q < H.size → ¬ (fun _ : Nat => False) q → H1[q]? = H[q]?) : va_P D vwCl ws H1 := hP.kept (fun k q h => hk q.1 ((hP k q h).lt) id)
/-- a reader's answers -/
abbrev sp_QRi (v : Int32) : Array Value → State → Outcome → State → Prop := va_Qi (fun r (_ : Unit) => r = v) (fun _ _ => True) (fun _ => False)
abbrev sp_QRq (v : Option Nat) : Array Value → State → Outcome → State → Prop := va_Qq (fun r (_ : Unit) => r = v) (fun _ _ => True) (fun _ => False)
/-- a writer's answers -/
abbrev sp_QWv (D : va_G) (ws' : va_W) (A : Nat → Prop) : Array Value → State → Outcome → State → Prop := va_Qv (fun (_ : Unit) => True) (fun _ t => va_P D vwCl ws' t.heap ∧ va_D A ws') A
abbrev sp_QWi (v : Int32) (D : va_G) (ws' : va_W) (A : Nat → Prop) : Array Value → State → Outcome → State → Prop := va_Qi (fun r (_ : Unit) => r = v) (fun _ t => va_P D vwCl ws' t.heap ∧ va_D A ws') A
theorem sp_eRi {v w : Int32} {args : Array Value} {s : State} {H : Heap} {locs : List Loc} (hv : w = v) (hS : va_S (fun _ => False) s.heap H locs) : ∀ t : State, t.heap = H → s.WarmedH t.vm → sp_QRi v args s (.returned (some (.int w))) t := fun t ht _ => ⟨⟨w, (), rfl, hv, trivial⟩, hS.F ht⟩
theorem sp_eRq {v w : Option Nat} {u : Value} {args : Array Value} {s : State} {H : Heap} {locs : List Loc} (hu : u = va_rf w) (hv : w = v) (hS : va_S (fun _ => False) s.heap H locs) : ∀ t : State, t.heap = H → s.WarmedH t.vm → sp_QRq v args s (.returned (some u)) t := fun t ht _ => ⟨⟨w, (), by rw [hu], hv, trivial⟩, hS.F ht⟩
theorem sp_eWv {D : va_G} {ws' : va_W} {A : Nat → Prop} {args : Array Value} {s : State} {H : Heap} {locs : List Loc} (hP : va_P D vwCl ws' H) (hD : va_D A ws') (hS : va_S A s.heap H locs) : ∀ t : State, t.heap = H → s.WarmedH t.vm → sp_QWv D ws' A args s (.returned none) t := fun t ht _ => ⟨⟨(), rfl, trivial, by rw [ht]; exact hP, hD⟩, hS.F ht⟩
theorem sp_eWi {v w : Int32} {D : va_G} {ws' : va_W} {A : Nat → Prop} {args : Array Value} {s : State} {H : Heap} {locs : List Loc} (hv : w = v) (hP : va_P D vwCl ws' H) (hD : va_D A ws') (hS : va_S A s.heap H locs) : ∀ t : State, t.heap = H → s.WarmedH t.vm → sp_QWi v D ws' A args s (.returned (some (.int w))) t := fun t ht _ => ⟨⟨w, (), rfl, hv, by rw [ht]; exact hP, hD⟩, hS.F ht⟩
/-- apartness speaks of addresses alone -/
theorem sp_Dc {A : Nat → Prop} {ws ws' : va_W} (hD : va_D A ws) (h : ws'.map Prod.fst = ws.map Prod.fst) : va_D A ws' := by
  have key : ∀ (k : Nat) (q : Nat × va_E), ws'[k]? = some q → ∃ q0, ws[k]? = some q0 ∧ q0.1 = q.1 := by
    intro k q hk
    have h1 : (ws'.map Prod.fst)[k]? = some q.1 := by rw [List.getElem?_map, hk]; rfl
    rw [h, List.getElem?_map] at h1
    cases hq : ws[k]? with
    | none => rw [hq] at h1; cases h1
    | some q0 => rw [hq] at h1; exact ⟨q0, rfl, Option.some.inj h1⟩
  refine ⟨fun i j x y hi hj hxy => ?_, fun k q hk => ?_⟩
  · obtain ⟨x0, h1, h2⟩ := key i x hi
    obtain ⟨y0, h3, h4⟩ := key j y hj
    exact hD.1 i j x0 y0 h1 h3 (h2.trans (hxy.trans h4.symm))
  · obtain ⟨q0, h1, h2⟩ := key k q hk
    rw [← h2]
    exact hD.2 k q0 h1
end
section
-- WHAT Program's METHODS COMPUTE (mirrors of the code, over Int32 and functions)
theorem ix_in {k : Int32} (h0 : ¬ k < 0) (h1 : ¬ 48 ≤ k) : vp_in k 48 := by
  rw [vp_in_iff]
  rw [Int32.lt_iff_toInt_lt] at h0
  rw [Int32.le_iff_toInt_le] at h1
  have e0 : (0 : Int32).toInt = 0 := by decide
  have e1 : (48 : Int32).toInt = 48 := by decide
  rw [e0] at h0
  rw [e1] at h1
  omega
def pg_hasI (n k : Int32) : Int32 := if ¬ k < 0 ∧ ¬ n ≤ k ∧ ¬ 48 ≤ k then 1 else 0
theorem pg_has_c {n k : Int32} (h : ¬ pg_hasI n k = 0) : ¬ k < 0 ∧ ¬ n ≤ k ∧ ¬ 48 ≤ k := by
  unfold pg_hasI at h
  by_cases q : ¬ k < 0 ∧ ¬ n ≤ k ∧ ¬ 48 ≤ k
  · exact q
  · rw [if_neg q] at h; exact absurd rfl h
theorem pg_has_in {n k : Int32} (h : ¬ pg_hasI n k = 0) : vp_in k 48 := ix_in (pg_has_c h).1 (pg_has_c h).2.2
def pg_fullI (n : Int32) : Int32 := if n < 48 then 0 else 1
def pg_word (f : Nat → Int32) (n k : Int32) : Int32 := if pg_hasI n k = 0 then 0 else f k.toNatClampNeg
def pg_orig (f : Nat → Int32) (n k : Int32) : Int32 := if pg_hasI n k = 0 then (-1) else f k.toNatClampNeg
def pg_shift (b : Int32) : Int32 := 8 * (3 - b)
def pg_byte (f : Nat → Int32) (n k b : Int32) : Int32 := (Int32.toUInt32 (pg_word f n k) >>> (Int32.toUInt32 (pg_shift b) &&& Int32.toUInt32 31)).toInt32 &&& 255
/-- append: the words, the origins, the length -/
def pg_apW (ws : Nat → Int32) (n w : Int32) : Nat → Int32 := if n < 0 then ws else if 48 ≤ n then ws else upd ws n.toNatClampNeg w
def pg_apO (os : Nat → Int32) (n : Int32) : Nat → Int32 := if n < 0 then os else if 48 ≤ n then os else upd os n.toNatClampNeg n
def pg_apN (n : Int32) : Int32 := if n < 0 then n else if 48 ≤ n then n else n + 1
end
section
-- Program: contracts (by wip/gen/prog.py)
set_option maxHeartbeats 4000000 in
set_option maxRecDepth 100000 in
theorem kP_length (l : Launch) (dC : Nat → ClassId) (dI : Nat → Nat → Nat) (cI cQ : ClassId) (h0 w0 o0 : Nat) (n : Int32)  : Met l yP_length (.code yP_length cP_length 1 (some .int) :: wA) ({ frames := 0, cells := 0, slots := 0, locals := 0 }) (sp_R (dC, dI) (kT cI cQ) [.ref h0] [(h0, .inr (0, [.ref w0, .ref o0, .int n]))]) (sp_QRi n) 0 0 (fun _ => False) := by
  refine Met.ofW (cc := cP_length) (maxL := 1) (ret := (some .int)) (by decide) rfl ?_
  intro p e s m args below meth c s₁ B hml hv
  obtain ⟨rfl, hP, hK, hG⟩ := hv
  have hx := B.exec
  have hb := B.bytes
  have hr := B.returns
  have hA := sp_hA (atoms_spec (ws := (.code yP_length cP_length 1 (some .int) :: wA)) B.pre)
  have hown : s.vm.findClass rP = some m.cls := findClass_of_methodNamed B.named
  have hlocks := B.notSynchronized
  have hS : va_S (fun _ => False) s.heap s.heap [] := va_S.rf
  have hl := lv_entry ([.ref h0]) (n := 1) (Nat.le_of_ble_eq_true rfl)
  rw [lg_entry_eq]
  generalize (lg_sl ([.ref h0]) ++ List.replicate (1 - (lg_sl ([.ref h0])).length) Slot.unset).toArray = ls at hl ⊢
  have hl : lv_has ls 1 [(0, .ref h0)] := hl
  refine lv_aload_n hx hb dP_length_0 rfl (lv_at hl 0 rfl) ?_
  refine va_get (D := (dC, dI)) (ci := 0) (C := rP) (T := tP) (N := 3) hx hb hA inP hown hK hP 0 rfl rfl 2 (by decide) (hA _ wi_34) (fun _ h9 => h9) rfl dP_length_1 ?_
  exact W.iret hx hb hr (sp_eRi (rfl) hS) hS.2.2 dP_length_4
set_option maxHeartbeats 4000000 in
set_option maxRecDepth 100000 in
theorem kP_isFull (l : Launch) (dC : Nat → ClassId) (dI : Nat → Nat → Nat) (cI cQ : ClassId) (h0 w0 o0 : Nat) (n : Int32)  : Met l yP_isFull (.code yP_isFull cP_isFull 1 (some .boolean) :: wA) ({ frames := 0, cells := 0, slots := 0, locals := 0 }) (sp_R (dC, dI) (kT cI cQ) [.ref h0] [(h0, .inr (0, [.ref w0, .ref o0, .int n]))]) (sp_QRi (pg_fullI n)) 0 0 (fun _ => False) := by
  refine Met.ofW (cc := cP_isFull) (maxL := 1) (ret := (some .boolean)) (by decide) rfl ?_
  intro p e s m args below meth c s₁ B hml hv
  obtain ⟨rfl, hP, hK, hG⟩ := hv
  have hx := B.exec
  have hb := B.bytes
  have hr := B.returns
  have hA := sp_hA (atoms_spec (ws := (.code yP_isFull cP_isFull 1 (some .boolean) :: wA)) B.pre)
  have hown : s.vm.findClass rP = some m.cls := findClass_of_methodNamed B.named
  have hlocks := B.notSynchronized
  have hS : va_S (fun _ => False) s.heap s.heap [] := va_S.rf
  have hl := lv_entry ([.ref h0]) (n := 1) (Nat.le_of_ble_eq_true rfl)
  rw [lg_entry_eq]
  generalize (lg_sl ([.ref h0]) ++ List.replicate (1 - (lg_sl ([.ref h0])).length) Slot.unset).toArray = ls at hl ⊢
  have hl : lv_has ls 1 [(0, .ref h0)] := hl
  refine lv_aload_n hx hb dP_isFull_0 rfl (lv_at hl 0 rfl) ?_
  refine va_get (D := (dC, dI)) (ci := 0) (C := rP) (T := tP) (N := 3) hx hb hA inP hown hK hP 0 rfl rfl 2 (by decide) (hA _ wi_34) (fun _ h9 => h9) rfl dP_isFull_1 ?_
  refine lv_bipush (v := 48) hx hb dP_isFull_4 (by decide) ?_
  refine lv_icmp_lt (tgt := 13) hx hb dP_isFull_6 (by decide) (fun c_6 => ?_) (fun c_6 => ?_)
  · refine lv_iconst (v := 0) hx hb dP_isFull_13 (by decide) ?_
    exact W.zret hx hb hr rfl (sp_eRi (by simp [pg_fullI, c_6]) hS) hS.2.2 dP_isFull_14
  · refine lv_iconst (v := 1) hx hb dP_isFull_9 (by decide) ?_
    refine lv_goto (tgt := 14) hx hb dP_isFull_10 (by decide) ?_
    exact W.zret hx hb hr rfl (sp_eRi (by simp [pg_fullI, c_6]) hS) hS.2.2 dP_isFull_14
set_option maxHeartbeats 4000000 in
set_option maxRecDepth 100000 in
theorem kP_has (l : Launch) (dC : Nat → ClassId) (dI : Nat → Nat → Nat) (cI cQ : ClassId) (h0 w0 o0 : Nat) (n : Int32) (k : Int32)  : Met l yP_has (.code yP_has cP_has 2 (some .boolean) :: wA) ({ frames := 0, cells := 0, slots := 0, locals := 0 }) (sp_R (dC, dI) (kT cI cQ) [.ref h0, .int k] [(h0, .inr (0, [.ref w0, .ref o0, .int n]))]) (sp_QRi (pg_hasI n k)) 0 0 (fun _ => False) := by
  refine Met.ofW (cc := cP_has) (maxL := 2) (ret := (some .boolean)) (by decide) rfl ?_
  intro p e s m args below meth c s₁ B hml hv
  obtain ⟨rfl, hP, hK, hG⟩ := hv
  have hx := B.exec
  have hb := B.bytes
  have hr := B.returns
  have hA := sp_hA (atoms_spec (ws := (.code yP_has cP_has 2 (some .boolean) :: wA)) B.pre)
  have hown : s.vm.findClass rP = some m.cls := findClass_of_methodNamed B.named
  have hlocks := B.notSynchronized
  have hS : va_S (fun _ => False) s.heap s.heap [] := va_S.rf
  have hl := lv_entry ([.ref h0, .int k]) (n := 2) (Nat.le_of_ble_eq_true rfl)
  rw [lg_entry_eq]
  generalize (lg_sl ([.ref h0, .int k]) ++ List.replicate (2 - (lg_sl ([.ref h0, .int k])).length) Slot.unset).toArray = ls at hl ⊢
  have hl : lv_has ls 2 [(0, .ref h0), (1, .int k)] := hl
  refine lv_iload_n hx hb dP_has_0 rfl (lv_at hl 1 rfl) ?_
  refine lv_if_lt (tgt := 22) hx hb dP_has_1 (by decide) (fun c_1 => ?_) (fun c_1 => ?_)
  · refine lv_iconst (v := 0) hx hb dP_has_22 (by decide) ?_
    exact W.zret hx hb hr rfl (sp_eRi (by simp [pg_hasI, c_1]) hS) hS.2.2 dP_has_23
  · refine lv_iload_n hx hb dP_has_4 rfl (lv_at hl 1 rfl) ?_
    refine lv_aload_n hx hb dP_has_5 rfl (lv_at hl 0 rfl) ?_
    refine va_get (D := (dC, dI)) (ci := 0) (C := rP) (T := tP) (N := 3) hx hb hA inP hown hK hP 0 rfl rfl 2 (by decide) (hA _ wi_34) (fun _ h9 => h9) rfl dP_has_6 ?_
    refine lv_icmp_ge (tgt := 22) hx hb dP_has_9 (by decide) (fun c_9 => ?_) (fun c_9 => ?_)
    · refine lv_iconst (v := 0) hx hb dP_has_22 (by decide) ?_
      exact W.zret hx hb hr rfl (sp_eRi (by simp [pg_hasI, c_1, c_9]) hS) hS.2.2 dP_has_23
    · refine lv_iload_n hx hb dP_has_12 rfl (lv_at hl 1 rfl) ?_
      refine lv_bipush (v := 48) hx hb dP_has_13 (by decide) ?_
      refine lv_icmp_ge (tgt := 22) hx hb dP_has_15 (by decide) (fun c_15 => ?_) (fun c_15 => ?_)
      · refine lv_iconst (v := 0) hx hb dP_has_22 (by decide) ?_
        exact W.zret hx hb hr rfl (sp_eRi (by simp [pg_hasI, c_1, c_9, c_15]) hS) hS.2.2 dP_has_23
      · refine lv_iconst (v := 1) hx hb dP_has_18 (by decide) ?_
        refine lv_goto (tgt := 23) hx hb dP_has_19 (by decide) ?_
        exact W.zret hx hb hr rfl (sp_eRi (by simp [pg_hasI, c_1, c_9, c_15]) hS) hS.2.2 dP_has_23
set_option maxHeartbeats 4000000 in
set_option maxRecDepth 100000 in
theorem kP_word (l : Launch) (dC : Nat → ClassId) (dI : Nat → Nat → Nat) (cI cQ : ClassId) (h0 w0 o0 : Nat) (n : Int32) (ws : Nat → Int32) (k : Int32)  : Met l yP_word (.code yP_word cP_word 2 (some .int) :: wA) ({ frames := 1, cells := 0, slots := 0, locals := 21 }) (sp_R (dC, dI) (kT cI cQ) [.ref h0, .int k] [(h0, .inr (0, [.ref w0, .ref o0, .int n])), (w0, .inl (cI, 48, .inl ws))]) (sp_QRi (pg_word ws n k)) 0 0 (fun _ => False) := by
  refine Met.ofW (cc := cP_word) (maxL := 2) (ret := (some .int)) (by decide) rfl ?_
  intro p e s m args below meth c s₁ B hml hv
  obtain ⟨rfl, hP, hK, hG⟩ := hv
  have hx := B.exec
  have hb := B.bytes
  have hr := B.returns
  have hA := sp_hA (atoms_spec (ws := (.code yP_word cP_word 2 (some .int) :: wA)) B.pre)
  have hown : s.vm.findClass rP = some m.cls := findClass_of_methodNamed B.named
  have hlocks := B.notSynchronized
  have hS : va_S (fun _ => False) s.heap s.heap [] := va_S.rf
  have hl := lv_entry ([.ref h0, .int k]) (n := 2) (Nat.le_of_ble_eq_true rfl)
  rw [lg_entry_eq]
  generalize (lg_sl ([.ref h0, .int k]) ++ List.replicate (2 - (lg_sl ([.ref h0, .int k])).length) Slot.unset).toArray = ls at hl ⊢
  have hl : lv_has ls 2 [(0, .ref h0), (1, .int k)] := hl
  refine lv_aload_n hx hb dP_word_0 rfl (lv_at hl 0 rfl) ?_
  refine lv_iload_n hx hb dP_word_1 rfl (lv_at hl 1 rfl) ?_
  refine va_calli (va_runV (As := [.int k]) (rest := []) ⟨hx, hb, hml, hown, hA⟩ (kP_has l dC dI cI cQ h0 w0 o0 n k) (cwV 1 hA (gd_V wi_325 wi_304 wi_305 wi_3 wi_306) rfl rfl rfl (by decide +kernel) ⟨Nat.le_of_ble_eq_true rfl, Nat.le_of_ble_eq_true rfl⟩) ⟨sp_Rb, va_recv hK hP (ci := 0) (q0 := 0) rfl rfl, sp_Ro (hP.sub [0] rfl) hK hG⟩ rfl rfl hl.1 rfl (lv_room (Nat.le_of_ble_eq_true rfl)) dP_word_2 ⟨Nat.le_of_ble_eq_true rfl, Nat.le_of_ble_eq_true rfl⟩) hS (fun _ _ h => h.elim) (fun _ h => h.elim) (fun r_2 u_2 t H locs ht hvm hw hB hz1 hk1 hS => ?_)
  subst hw
  have hP := sp_kp hP hk1
  refine lv_if_eq (tgt := 17) hx hb dP_word_5 (by decide) (fun c_5 => ?_) (fun c_5 => ?_)
  · refine lv_iconst (v := 0) hx hb dP_word_17 (by decide) ?_
    exact W.iret hx hb hr (sp_eRi (by simp [pg_word, c_5]) hS) hS.2.2 dP_word_18
  · refine lv_aload_n hx hb dP_word_8 rfl (lv_at hl 0 rfl) ?_
    refine va_get (D := (dC, dI)) (ci := 0) (C := rP) (T := tP) (N := 3) hx hb hA inP hown hK hP 0 rfl rfl 0 (by decide) (hA _ wi_32) (fun _ h9 => h9) rfl dP_word_9 ?_
    refine lv_iload_n hx hb dP_word_12 rfl (lv_at hl 1 rfl) ?_
    refine va_iald hx hb hK hP 1 0 rfl rfl (pg_has_in c_5) dP_word_13 ?_
    refine lv_goto (tgt := 18) hx hb dP_word_14 (by decide) ?_
    exact W.iret hx hb hr (sp_eRi (by simp [pg_word, c_5]) hS) hS.2.2 dP_word_18
set_option maxHeartbeats 4000000 in
set_option maxRecDepth 100000 in
theorem kP_origin (l : Launch) (dC : Nat → ClassId) (dI : Nat → Nat → Nat) (cI cQ : ClassId) (h0 w0 o0 : Nat) (n : Int32) (os : Nat → Int32) (k : Int32)  : Met l yP_origin (.code yP_origin cP_origin 2 (some .int) :: wA) ({ frames := 1, cells := 0, slots := 0, locals := 21 }) (sp_R (dC, dI) (kT cI cQ) [.ref h0, .int k] [(h0, .inr (0, [.ref w0, .ref o0, .int n])), (o0, .inl (cI, 48, .inl os))]) (sp_QRi (pg_orig os n k)) 0 0 (fun _ => False) := by
  refine Met.ofW (cc := cP_origin) (maxL := 2) (ret := (some .int)) (by decide) rfl ?_
  intro p e s m args below meth c s₁ B hml hv
  obtain ⟨rfl, hP, hK, hG⟩ := hv
  have hx := B.exec
  have hb := B.bytes
  have hr := B.returns
  have hA := sp_hA (atoms_spec (ws := (.code yP_origin cP_origin 2 (some .int) :: wA)) B.pre)
  have hown : s.vm.findClass rP = some m.cls := findClass_of_methodNamed B.named
  have hlocks := B.notSynchronized
  have hS : va_S (fun _ => False) s.heap s.heap [] := va_S.rf
  have hl := lv_entry ([.ref h0, .int k]) (n := 2) (Nat.le_of_ble_eq_true rfl)
  rw [lg_entry_eq]
  generalize (lg_sl ([.ref h0, .int k]) ++ List.replicate (2 - (lg_sl ([.ref h0, .int k])).length) Slot.unset).toArray = ls at hl ⊢
  have hl : lv_has ls 2 [(0, .ref h0), (1, .int k)] := hl
  refine lv_aload_n hx hb dP_origin_0 rfl (lv_at hl 0 rfl) ?_
  refine lv_iload_n hx hb dP_origin_1 rfl (lv_at hl 1 rfl) ?_
  refine va_calli (va_runV (As := [.int k]) (rest := []) ⟨hx, hb, hml, hown, hA⟩ (kP_has l dC dI cI cQ h0 w0 o0 n k) (cwV 1 hA (gd_V wi_325 wi_304 wi_305 wi_3 wi_306) rfl rfl rfl (by decide +kernel) ⟨Nat.le_of_ble_eq_true rfl, Nat.le_of_ble_eq_true rfl⟩) ⟨sp_Rb, va_recv hK hP (ci := 0) (q0 := 0) rfl rfl, sp_Ro (hP.sub [0] rfl) hK hG⟩ rfl rfl hl.1 rfl (lv_room (Nat.le_of_ble_eq_true rfl)) dP_origin_2 ⟨Nat.le_of_ble_eq_true rfl, Nat.le_of_ble_eq_true rfl⟩) hS (fun _ _ h => h.elim) (fun _ h => h.elim) (fun r_2 u_2 t H locs ht hvm hw hB hz1 hk1 hS => ?_)
  subst hw
  have hP := sp_kp hP hk1
  refine lv_if_eq (tgt := 17) hx hb dP_origin_5 (by decide) (fun c_5 => ?_) (fun c_5 => ?_)
  · refine lv_iconst (v := (-1)) hx hb dP_origin_17 (by decide) ?_
    exact W.iret hx hb hr (sp_eRi (by simp [pg_orig, c_5]) hS) hS.2.2 dP_origin_18
  · refine lv_aload_n hx hb dP_origin_8 rfl (lv_at hl 0 rfl) ?_
    refine va_get (D := (dC, dI)) (ci := 0) (C := rP) (T := tP) (N := 3) hx hb hA inP hown hK hP 0 rfl rfl 1 (by decide) (hA _ wi_33) (fun _ h9 => h9) rfl dP_origin_9 ?_
    refine lv_iload_n hx hb dP_origin_12 rfl (lv_at hl 1 rfl) ?_
    refine va_iald hx hb hK hP 1 0 rfl rfl (pg_has_in c_5) dP_origin_13 ?_
    refine lv_goto (tgt := 18) hx hb dP_origin_14 (by decide) ?_
    exact W.iret hx hb hr (sp_eRi (by simp [pg_orig, c_5]) hS) hS.2.2 dP_origin_18
set_option maxHeartbeats 4000000 in
set_option maxRecDepth 100000 in
theorem kP_shift (l : Launch) (dC : Nat → ClassId) (dI : Nat → Nat → Nat) (cI cQ : ClassId) (b : Int32)  : Met l yP_shift (.code yP_shift cP_shift 1 (some .int) :: wA) ({ frames := 0, cells := 0, slots := 0, locals := 0 }) (sp_R (dC, dI) (kT cI cQ) [.int b] []) (sp_QRi (pg_shift b)) 0 0 (fun _ => False) := by
  refine Met.ofW (cc := cP_shift) (maxL := 1) (ret := (some .int)) (by decide) rfl ?_
  intro p e s m args below meth c s₁ B hml hv
  obtain ⟨rfl, hP, hK, hG⟩ := hv
  have hx := B.exec
  have hb := B.bytes
  have hr := B.returns
  have hA := sp_hA (atoms_spec (ws := (.code yP_shift cP_shift 1 (some .int) :: wA)) B.pre)
  have hown : s.vm.findClass rP = some m.cls := findClass_of_methodNamed B.named
  have hlocks := B.notSynchronized
  have hS : va_S (fun _ => False) s.heap s.heap [] := va_S.rf
  have hl := lv_entry ([.int b]) (n := 1) (Nat.le_of_ble_eq_true rfl)
  rw [lg_entry_eq]
  generalize (lg_sl ([.int b]) ++ List.replicate (1 - (lg_sl ([.int b])).length) Slot.unset).toArray = ls at hl ⊢
  have hl : lv_has ls 1 [(0, .int b)] := hl
  refine lv_bipush (v := 8) hx hb dP_shift_0 (by decide) ?_
  refine lv_iconst (v := 3) hx hb dP_shift_2 (by decide) ?_
  refine lv_iload_n hx hb dP_shift_3 rfl (lv_at hl 0 rfl) ?_
  refine lv_isub hx hb dP_shift_4 ?_
  refine lv_imul hx hb dP_shift_5 ?_
  exact W.iret hx hb hr (sp_eRi (rfl) hS) hS.2.2 dP_shift_6
set_option maxHeartbeats 4000000 in
set_option maxRecDepth 100000 in
theorem kP_byteOf (l : Launch) (dC : Nat → ClassId) (dI : Nat → Nat → Nat) (cI cQ : ClassId) (h0 w0 o0 : Nat) (n : Int32) (ws : Nat → Int32) (k b : Int32)  : Met l yP_byteOf (.code yP_byteOf cP_byteOf 3 (some .int) :: wA) ({ frames := 2, cells := 0, slots := 0, locals := 42 }) (sp_R (dC, dI) (kT cI cQ) [.ref h0, .int k, .int b] [(h0, .inr (0, [.ref w0, .ref o0, .int n])), (w0, .inl (cI, 48, .inl ws))]) (sp_QRi (pg_byte ws n k b)) 0 0 (fun _ => False) := by
  refine Met.ofW (cc := cP_byteOf) (maxL := 3) (ret := (some .int)) (by decide) rfl ?_
  intro p e s m args below meth c s₁ B hml hv
  obtain ⟨rfl, hP, hK, hG⟩ := hv
  have hx := B.exec
  have hb := B.bytes
  have hr := B.returns
  have hA := sp_hA (atoms_spec (ws := (.code yP_byteOf cP_byteOf 3 (some .int) :: wA)) B.pre)
  have hown : s.vm.findClass rP = some m.cls := findClass_of_methodNamed B.named
  have hlocks := B.notSynchronized
  have hS : va_S (fun _ => False) s.heap s.heap [] := va_S.rf
  have hl := lv_entry ([.ref h0, .int k, .int b]) (n := 3) (Nat.le_of_ble_eq_true rfl)
  rw [lg_entry_eq]
  generalize (lg_sl ([.ref h0, .int k, .int b]) ++ List.replicate (3 - (lg_sl ([.ref h0, .int k, .int b])).length) Slot.unset).toArray = ls at hl ⊢
  have hl : lv_has ls 3 [(0, .ref h0), (1, .int k), (2, .int b)] := hl
  refine lv_aload_n hx hb dP_byteOf_0 rfl (lv_at hl 0 rfl) ?_
  refine lv_iload_n hx hb dP_byteOf_1 rfl (lv_at hl 1 rfl) ?_
  refine va_calli (va_runV (As := [.int k]) (rest := []) ⟨hx, hb, hml, hown, hA⟩ (kP_word l dC dI cI cQ h0 w0 o0 n ws k) (cwV 1 hA (gd_V wi_394 wi_322 wi_323 wi_3 wi_324) rfl rfl rfl (by decide +kernel) ⟨Nat.le_of_ble_eq_true rfl, Nat.le_of_ble_eq_true rfl⟩) ⟨sp_Rb, va_recv hK hP (ci := 0) (q0 := 0) rfl rfl, sp_Ro (hP.sub [0, 1] rfl) hK hG⟩ rfl rfl hl.1 rfl (lv_room (Nat.le_of_ble_eq_true rfl)) dP_byteOf_2 ⟨Nat.le_of_ble_eq_true rfl, Nat.le_of_ble_eq_true rfl⟩) hS (fun _ _ h => h.elim) (fun _ h => h.elim) (fun r_2 u_2 t H locs ht hvm hw hB hz1 hk1 hS => ?_)
  subst hw
  have hP := sp_kp hP hk1
  refine lv_iload_n hx hb dP_byteOf_5 rfl (lv_at hl 2 rfl) ?_
  refine va_calli (va_runS (As := [.int b]) (rest := [.int (pg_word ws n k)]) ⟨hx, hb, hml, hown, hA⟩ (kP_shift l dC dI cI cQ b) (cwS 1 hA (gd_S wi_395 wi_396 wi_3 wi_397) rfl rfl rfl (by decide +kernel) ⟨Nat.le_of_ble_eq_true rfl, Nat.le_of_ble_eq_true rfl⟩) ⟨sp_Rb, sp_Ro (hP.sub [] rfl) hK hG⟩ rfl rfl hl.1 rfl (lv_room (Nat.le_of_ble_eq_true rfl)) dP_byteOf_6 ⟨Nat.le_of_ble_eq_true rfl, Nat.le_of_ble_eq_true rfl⟩) hS (fun _ _ h => h.elim) (fun _ h => h.elim) (fun r_6 u_6 t H locs ht hvm hw hB hz1 hk1 hS => ?_)
  subst hw
  have hP := sp_kp hP hk1
  refine lv_iushr hx hb dP_byteOf_9 rfl ?_
  refine lv_sipush (v := 255) hx hb dP_byteOf_10 (by decide) ?_
  refine lv_iand hx hb dP_byteOf_13 ?_
  exact W.iret hx hb hr (sp_eRi (rfl) hS) hS.2.2 dP_byteOf_14
set_option maxHeartbeats 4000000 in
set_option maxRecDepth 100000 in
theorem kP_clear (l : Launch) (dC : Nat → ClassId) (dI : Nat → Nat → Nat) (cI cQ : ClassId) (h0 w0 o0 : Nat) (n : Int32) (ws os : Nat → Int32) (sz : Nat)  : Met l yP_clear (.code yP_clear cP_clear 1 none :: wA) ({ frames := 0, cells := 0, slots := 0, locals := 0 }) (sp_P (dC, dI) (kT cI cQ) [.ref h0] [(h0, .inr (0, [.ref w0, .ref o0, .int n])), (w0, .inl (cI, 48, .inl ws)), (o0, .inl (cI, 48, .inl os))] sz) (sp_QWv (dC, dI) [(h0, .inr (0, [.ref w0, .ref o0, .int 0])), (w0, .inl (cI, 48, .inl ws)), (o0, .inl (cI, 48, .inl os))] (va_A [(h0, .inr (0, [.ref w0, .ref o0, .int n])), (w0, .inl (cI, 48, .inl ws)), (o0, .inl (cI, 48, .inl os))] sz)) 0 0 (va_A [(h0, .inr (0, [.ref w0, .ref o0, .int n])), (w0, .inl (cI, 48, .inl ws)), (o0, .inl (cI, 48, .inl os))] sz) := by
  refine Met.ofW (cc := cP_clear) (maxL := 1) (ret := none) (by decide) rfl ?_
  intro p e s m args below meth c s₁ B hml hv
  obtain ⟨rfl, hsz, hP, hK, hD0, hG⟩ := hv
  have hx := B.exec
  have hb := B.bytes
  have hr := B.returns
  have hA := sp_hA (atoms_spec (ws := (.code yP_clear cP_clear 1 none :: wA)) B.pre)
  have hown : s.vm.findClass rP = some m.cls := findClass_of_methodNamed B.named
  have hlocks := B.notSynchronized
  subst hsz
  have hD := hD0.self (sz := s.heap.size)
  generalize hAe : va_A [(h0, .inr (0, [.ref w0, .ref o0, .int n])), (w0, .inl (cI, 48, .inl ws)), (o0, .inl (cI, 48, .inl os))] s.heap.size = A at hD ⊢
  have hF : ∀ q : Nat, s.heap.size ≤ q → A q := fun q h => by rw [← hAe]; exact Or.inr h
  have hS : va_S A s.heap s.heap [] := va_S.rf
  have hl := lv_entry ([.ref h0]) (n := 1) (Nat.le_of_ble_eq_true rfl)
  rw [lg_entry_eq]
  generalize (lg_sl ([.ref h0]) ++ List.replicate (1 - (lg_sl ([.ref h0])).length) Slot.unset).toArray = ls at hl ⊢
  have hl : lv_has ls 1 [(0, .ref h0)] := hl
  refine lv_aload_n hx hb dP_clear_0 rfl (lv_at hl 0 rfl) ?_
  refine lv_iconst (v := 0) hx hb dP_clear_1 (by decide) ?_
  refine va_put (D := (dC, dI)) (ci := 0) (v := .int 0) (ty := .int) (C := rP) (T := tP) (N := 3) hx hb hA inP tyP tyP_ok nmP hown hK hP hD hS 0 rfl rfl 2 (by decide) (hA _ wi_34) (fun _ h9 => h9) rfl (by decide +kernel) rfl rfl (Nat.le_of_ble_eq_true rfl) dP_clear_2 (fun H locs hP hD hS => ?_)
  have hP : va_P (dC, dI) vwCl [(h0, .inr (0, [.ref w0, .ref o0, .int 0])), (w0, .inl (cI, 48, .inl ws)), (o0, .inl (cI, 48, .inl os))] H := hP
  have hD : va_D A [(h0, .inr (0, [.ref w0, .ref o0, .int 0])), (w0, .inl (cI, 48, .inl ws)), (o0, .inl (cI, 48, .inl os))] := hD
  have hPe : va_P (dC, dI) vwCl [(h0, .inr (0, [.ref w0, .ref o0, .int 0])), (w0, .inl (cI, 48, .inl ws)), (o0, .inl (cI, 48, .inl os))] H := by exact hP
  have hDe : va_D A [(h0, .inr (0, [.ref w0, .ref o0, .int 0])), (w0, .inl (cI, 48, .inl ws)), (o0, .inl (cI, 48, .inl os))] := sp_Dc hD rfl
  exact W.vret hx hb hr (sp_eWv hPe hDe hS) hS.2.2 dP_clear_5
set_option maxHeartbeats 4000000 in
set_option maxRecDepth 100000 in
theorem kP_append (l : Launch) (dC : Nat → ClassId) (dI : Nat → Nat → Nat) (cI cQ : ClassId) (h0 w0 o0 : Nat) (n : Int32) (ws os : Nat → Int32) (x : Int32) (sz : Nat)  : Met l yP_append (.code yP_append cP_append 2 none :: wA) ({ frames := 0, cells := 0, slots := 0, locals := 0 }) (sp_P (dC, dI) (kT cI cQ) [.ref h0, .int x] [(h0, .inr (0, [.ref w0, .ref o0, .int n])), (w0, .inl (cI, 48, .inl ws)), (o0, .inl (cI, 48, .inl os))] sz) (sp_QWv (dC, dI) [(h0, .inr (0, [.ref w0, .ref o0, .int (pg_apN n)])), (w0, .inl (cI, 48, .inl (pg_apW ws n x))), (o0, .inl (cI, 48, .inl (pg_apO os n)))] (va_A [(h0, .inr (0, [.ref w0, .ref o0, .int n])), (w0, .inl (cI, 48, .inl ws)), (o0, .inl (cI, 48, .inl os))] sz)) 0 0 (va_A [(h0, .inr (0, [.ref w0, .ref o0, .int n])), (w0, .inl (cI, 48, .inl ws)), (o0, .inl (cI, 48, .inl os))] sz) := by
  refine Met.ofW (cc := cP_append) (maxL := 2) (ret := none) (by decide) rfl ?_
  intro p e s m args below meth c s₁ B hml hv
  obtain ⟨rfl, hsz, hP, hK, hD0, hG⟩ := hv
  have hx := B.exec
  have hb := B.bytes
  have hr := B.returns
  have hA := sp_hA (atoms_spec (ws := (.code yP_append cP_append 2 none :: wA)) B.pre)
  have hown : s.vm.findClass rP = some m.cls := findClass_of_methodNamed B.named
  have hlocks := B.notSynchronized
  subst hsz
  have hD := hD0.self (sz := s.heap.size)
  generalize hAe : va_A [(h0, .inr (0, [.ref w0, .ref o0, .int n])), (w0, .inl (cI, 48, .inl ws)), (o0, .inl (cI, 48, .inl os))] s.heap.size = A at hD ⊢
  have hF : ∀ q : Nat, s.heap.size ≤ q → A q := fun q h => by rw [← hAe]; exact Or.inr h
  have hS : va_S A s.heap s.heap [] := va_S.rf
  have hl := lv_entry ([.ref h0, .int x]) (n := 2) (Nat.le_of_ble_eq_true rfl)
  rw [lg_entry_eq]
  generalize (lg_sl ([.ref h0, .int x]) ++ List.replicate (2 - (lg_sl ([.ref h0, .int x])).length) Slot.unset).toArray = ls at hl ⊢
  have hl : lv_has ls 2 [(0, .ref h0), (1, .int x)] := hl
  refine lv_aload_n hx hb dP_append_0 rfl (lv_at hl 0 rfl) ?_
  refine va_get (D := (dC, dI)) (ci := 0) (C := rP) (T := tP) (N := 3) hx hb hA inP hown hK hP 0 rfl rfl 2 (by decide) (hA _ wi_34) (fun _ h9 => h9) rfl dP_append_1 ?_
  refine lv_if_lt (tgt := 49) hx hb dP_append_4 (by decide) (fun c_4 => ?_) (fun c_4 => ?_)
  · have hPe : va_P (dC, dI) vwCl [(h0, .inr (0, [.ref w0, .ref o0, .int (pg_apN n)])), (w0, .inl (cI, 48, .inl (pg_apW ws n x))), (o0, .inl (cI, 48, .inl (pg_apO os n)))] s.heap := by simpa [pg_apN, pg_apW, pg_apO, c_4] using hP
    have hDe : va_D A [(h0, .inr (0, [.ref w0, .ref o0, .int (pg_apN n)])), (w0, .inl (cI, 48, .inl (pg_apW ws n x))), (o0, .inl (cI, 48, .inl (pg_apO os n)))] := sp_Dc hD rfl
    exact W.vret hx hb hr (sp_eWv hPe hDe hS) hS.2.2 dP_append_49
  · refine lv_aload_n hx hb dP_append_7 rfl (lv_at hl 0 rfl) ?_
    refine va_get (D := (dC, dI)) (ci := 0) (C := rP) (T := tP) (N := 3) hx hb hA inP hown hK hP 0 rfl rfl 2 (by decide) (hA _ wi_34) (fun _ h9 => h9) rfl dP_append_8 ?_
    refine lv_bipush (v := 48) hx hb dP_append_11 (by decide) ?_
    refine lv_icmp_ge (tgt := 49) hx hb dP_append_13 (by decide) (fun c_13 => ?_) (fun c_13 => ?_)
    · have hPe : va_P (dC, dI) vwCl [(h0, .inr (0, [.ref w0, .ref o0, .int (pg_apN n)])), (w0, .inl (cI, 48, .inl (pg_apW ws n x))), (o0, .inl (cI, 48, .inl (pg_apO os n)))] s.heap := by simpa [pg_apN, pg_apW, pg_apO, c_4, c_13] using hP
      have hDe : va_D A [(h0, .inr (0, [.ref w0, .ref o0, .int (pg_apN n)])), (w0, .inl (cI, 48, .inl (pg_apW ws n x))), (o0, .inl (cI, 48, .inl (pg_apO os n)))] := sp_Dc hD rfl
      exact W.vret hx hb hr (sp_eWv hPe hDe hS) hS.2.2 dP_append_49
    · refine lv_aload_n hx hb dP_append_16 rfl (lv_at hl 0 rfl) ?_
      refine va_get (D := (dC, dI)) (ci := 0) (C := rP) (T := tP) (N := 3) hx hb hA inP hown hK hP 0 rfl rfl 0 (by decide) (hA _ wi_32) (fun _ h9 => h9) rfl dP_append_17 ?_
      refine lv_aload_n hx hb dP_append_20 rfl (lv_at hl 0 rfl) ?_
      refine va_get (D := (dC, dI)) (ci := 0) (C := rP) (T := tP) (N := 3) hx hb hA inP hown hK hP 0 rfl rfl 2 (by decide) (hA _ wi_34) (fun _ h9 => h9) rfl dP_append_21 ?_
      refine lv_iload_n hx hb dP_append_24 rfl (lv_at hl 1 rfl) ?_
      refine va_iast hx hb hK hP hD hS 1 0 rfl rfl (ix_in c_4 c_13) dP_append_25 (fun H locs hP hD hS => ?_)
      have hP : va_P (dC, dI) vwCl [(h0, .inr (0, [.ref w0, .ref o0, .int n])), (w0, .inl (cI, 48, .inl (upd ws (Int32.toNatClampNeg n) x))), (o0, .inl (cI, 48, .inl os))] H := hP
      have hD : va_D A [(h0, .inr (0, [.ref w0, .ref o0, .int n])), (w0, .inl (cI, 48, .inl (upd ws (Int32.toNatClampNeg n) x))), (o0, .inl (cI, 48, .inl os))] := hD
      refine lv_aload_n hx hb dP_append_26 rfl (lv_at hl 0 rfl) ?_
      refine va_get (D := (dC, dI)) (ci := 0) (C := rP) (T := tP) (N := 3) hx hb hA inP hown hK hP 0 rfl rfl 1 (by decide) (hA _ wi_33) (fun _ h9 => h9) rfl dP_append_27 ?_
      refine lv_aload_n hx hb dP_append_30 rfl (lv_at hl 0 rfl) ?_
      refine va_get (D := (dC, dI)) (ci := 0) (C := rP) (T := tP) (N := 3) hx hb hA inP hown hK hP 0 rfl rfl 2 (by decide) (hA _ wi_34) (fun _ h9 => h9) rfl dP_append_31 ?_
      refine lv_aload_n hx hb dP_append_34 rfl (lv_at hl 0 rfl) ?_
      refine va_get (D := (dC, dI)) (ci := 0) (C := rP) (T := tP) (N := 3) hx hb hA inP hown hK hP 0 rfl rfl 2 (by decide) (hA _ wi_34) (fun _ h9 => h9) rfl dP_append_35 ?_
      refine va_iast hx hb hK hP hD hS 2 0 rfl rfl (ix_in c_4 c_13) dP_append_38 (fun H locs hP hD hS => ?_)
      have hP : va_P (dC, dI) vwCl [(h0, .inr (0, [.ref w0, .ref o0, .int n])), (w0, .inl (cI, 48, .inl (upd ws (Int32.toNatClampNeg n) x))), (o0, .inl (cI, 48, .inl (upd os (Int32.toNatClampNeg n) n)))] H := hP
      have hD : va_D A [(h0, .inr (0, [.ref w0, .ref o0, .int n])), (w0, .inl (cI, 48, .inl (upd ws (Int32.toNatClampNeg n) x))), (o0, .inl (cI, 48, .inl (upd os (Int32.toNatClampNeg n) n)))] := hD
      refine lv_aload_n hx hb dP_append_39 rfl (lv_at hl 0 rfl) ?_
      refine lv_dup hx hb dP_append_40 rfl ?_
      refine va_get (D := (dC, dI)) (ci := 0) (C := rP) (T := tP) (N := 3) hx hb hA inP hown hK hP 0 rfl rfl 2 (by decide) (hA _ wi_34) (fun _ h9 => h9) rfl dP_append_41 ?_
      refine lv_iconst (v := 1) hx hb dP_append_44 (by decide) ?_
      refine lv_iadd hx hb dP_append_45 ?_
      refine va_put (D := (dC, dI)) (ci := 0) (v := .int (n + 1)) (ty := .int) (C := rP) (T := tP) (N := 3) hx hb hA inP tyP tyP_ok nmP hown hK hP hD hS 0 rfl rfl 2 (by decide) (hA _ wi_34) (fun _ h9 => h9) rfl (by decide +kernel) rfl rfl (Nat.le_of_ble_eq_true rfl) dP_append_46 (fun H locs hP hD hS => ?_)
      have hP : va_P (dC, dI) vwCl [(h0, .inr (0, [.ref w0, .ref o0, .int (n + 1)])), (w0, .inl (cI, 48, .inl (upd ws (Int32.toNatClampNeg n) x))), (o0, .inl (cI, 48, .inl (upd os (Int32.toNatClampNeg n) n)))] H := hP
      have hD : va_D A [(h0, .inr (0, [.ref w0, .ref o0, .int (n + 1)])), (w0, .inl (cI, 48, .inl (upd ws (Int32.toNatClampNeg n) x))), (o0, .inl (cI, 48, .inl (upd os (Int32.toNatClampNeg n) n)))] := hD
      have hPe : va_P (dC, dI) vwCl [(h0, .inr (0, [.ref w0, .ref o0, .int (pg_apN n)])), (w0, .inl (cI, 48, .inl (pg_apW ws n x))), (o0, .inl (cI, 48, .inl (pg_apO os n)))] H := by simpa [pg_apN, pg_apW, pg_apO, c_4, c_13] using hP
      have hDe : va_D A [(h0, .inr (0, [.ref w0, .ref o0, .int (pg_apN n)])), (w0, .inl (cI, 48, .inl (pg_apW ws n x))), (o0, .inl (cI, 48, .inl (pg_apO os n)))] := sp_Dc hD rfl
      exact W.vret hx hb hr (sp_eWv hPe hDe hS) hS.2.2 dP_append_49
end
section
-- Program's loops: pure rows
theorem cl_toInt (x : Int32) : (x.toNatClampNeg : Int) = if 0 ≤ x.toInt then x.toInt else 0 := by
  have h : x.toNatClampNeg = x.toInt.toNat := rfl
  rw [h]
  by_cases q : 0 ≤ x.toInt
  · rw [if_pos q]; omega
  · rw [if_neg q]; omega
theorem cl_lt {x : Int32} {i : Nat} (hi : i < 2 ^ 31) (h : ¬ x ≤ nI i) : i < x.toNatClampNeg := by
  rw [Int32.le_iff_toInt_le, nI_toInt hi] at h
  have := cl_toInt x
  split at this <;> omega
theorem cl_le {x : Int32} {i : Nat} (hi : i < 2 ^ 31) (h : x ≤ nI i) : x.toNatClampNeg ≤ i := by
  rw [Int32.le_iff_toInt_le, nI_toInt hi] at h
  have := cl_toInt x
  split at this <;> omega
theorem cl_48 {i : Nat} (hi : i < 2 ^ 31) (h : ¬ 48 ≤ nI i) : i < 48 := by
  have := cl_lt (x := 48) hi h
  have e : (48 : Int32).toNatClampNeg = 48 := by decide
  omega
theorem cl_48' {i : Nat} (hi : i < 2 ^ 31) (h : 48 ≤ nI i) : 48 ≤ i := by
  have := cl_le (x := 48) hi h
  have e : (48 : Int32).toNatClampNeg = 48 := by decide
  omega
theorem pg_has_nI {n k : Int32} (h : ¬ pg_hasI n k = 0) : ∃ a : Nat, a < 48 ∧ a < n.toNatClampNeg ∧ k = nI a := by
  obtain ⟨a, ha, e⟩ := vp_in_of (pg_has_in h) (by decide)
  subst e
  exact ⟨a, ha, cl_lt (by omega) (pg_has_c h).2.1, rfl⟩
/-- the first i of f, then g -/
def pg_cp (f g : Nat → Int32) (i : Nat) : Nat → Int32 := fun j => if j < i then f j else g j
theorem pg_cp0 (f g : Nat → Int32) : pg_cp f g 0 = g := by funext j; simp [pg_cp]
theorem pg_cps (f g : Nat → Int32) (i : Nat) : upd (pg_cp f g i) i (f i) = pg_cp f g (i + 1) := by
  funext j
  unfold upd pg_cp
  by_cases h : j = i
  · subst h; simp
  · by_cases h2 : j < i
    · simp [h, h2, Nat.lt_succ_of_lt h2]
    · simp [h, h2]
      intro h3; omega
def pg_cpN (n : Int32) : Int32 := if 48 < n then 48 else n
theorem pg_cpN_le (n : Int32) : (pg_cpN n).toNatClampNeg ≤ 48 := by
  unfold pg_cpN
  have e : (48 : Int32).toInt = 48 := by decide
  by_cases h : 48 < n
  · rw [if_pos h]; decide
  · rw [if_neg h]
    rw [Int32.lt_iff_toInt_lt, e] at h
    have := cl_toInt n
    split at this <;> omega
/-- leaving out: what stands after d words from a on were looked at -/
def pg_lo (ws os : Nat → Int32) (a : Nat) (many : Int32) : Nat → Nat × (Nat → Int32) × (Nat → Int32)
  | 0 => (a, ws, os)
  | d + 1 => if nI (a + d) - nI a < many then pg_lo ws os a many d else ((pg_lo ws os a many d).1 + 1, upd (pg_lo ws os a many d).2.1 (pg_lo ws os a many d).1 ((pg_lo ws os a many d).2.1 (a + d)), upd (pg_lo ws os a many d).2.2 (pg_lo ws os a many d).1 ((pg_lo ws os a many d).2.2 (a + d)))
theorem pg_lo_le (ws os : Nat → Int32) (a : Nat) (many : Int32) : ∀ d, (pg_lo ws os a many d).1 ≤ a + d
  | 0 => Nat.le_refl a
  | d + 1 => by
    have h := pg_lo_le ws os a many d
    unfold pg_lo
    by_cases q : nI (a + d) - nI a < many
    · rw [if_pos q]; omega
    · rw [if_neg q]; show _ + 1 ≤ _; omega
def pg_lim (n : Int32) : Nat := min n.toNatClampNeg 48
def pg_loR (ws os : Nat → Int32) (n k many : Int32) : Nat × (Nat → Int32) × (Nat → Int32) := pg_lo ws os k.toNatClampNeg many (pg_lim n - k.toNatClampNeg)
def pg_loW (ws os : Nat → Int32) (n k many : Int32) : Nat → Int32 := if pg_hasI n k = 0 then ws else if ¬ 1 ≤ many then ws else (pg_loR ws os n k many).2.1
def pg_loO (ws os : Nat → Int32) (n k many : Int32) : Nat → Int32 := if pg_hasI n k = 0 then os else if ¬ 1 ≤ many then os else (pg_loR ws os n k many).2.2
def pg_loN (ws os : Nat → Int32) (n k many : Int32) : Int32 := if pg_hasI n k = 0 then n else if ¬ 1 ≤ many then n else nI (pg_loR ws os n k many).1
def pg_sbV (x b v : Int32) : Int32 := (x &&& ((255 <<< (pg_shift b &&& 31)) ^^^ (-1))) ||| ((v &&& 255) <<< (pg_shift b &&& 31))
def pg_sbW (ws : Nat → Int32) (n k b v : Int32) : Nat → Int32 := if pg_hasI n k = 0 then ws else upd ws k.toNatClampNeg (pg_sbV (ws k.toNatClampNeg) b v)
def pg_same (f : Nat → Int32) (n : Int32) (g : Nat → Int32) (n' : Int32) : Int32 := if n = n' ∧ ∀ j, j < pg_lim n → f j = g j then 1 else 0
def pg_mk (ws : Nat → Int32) (n : Int32) : Nat → Int32
  | 0 => n
  | i + 1 => 31 * pg_mk ws n i + ws i
def pg_mark (ws : Nat → Int32) (n : Int32) : Int32 := pg_mk ws n (pg_lim n)
theorem pg_lim_lt {n : Int32} {i : Nat} (hi : i < 2 ^ 31) (h1 : ¬ n ≤ nI i) (h2 : ¬ 48 ≤ nI i) : i < pg_lim n := by
  have := cl_lt hi h1
  have := cl_48 hi h2
  unfold pg_lim; omega
theorem pg_lim_le1 {n : Int32} {i : Nat} (hi : i < 2 ^ 31) (h : n ≤ nI i) : pg_lim n ≤ i := by
  have := cl_le hi h
  unfold pg_lim; omega
theorem pg_lim_le2 {n : Int32} {i : Nat} (hi : i < 2 ^ 31) (h : 48 ≤ nI i) : pg_lim n ≤ i := by
  have := cl_48' hi h
  unfold pg_lim; omega
theorem pg_lim_48 (n : Int32) : pg_lim n ≤ 48 := Nat.min_le_right _ _
theorem pg_lo_s1 (ws os : Nat → Int32) {a d : Nat} {many : Int32} (h : nI (a + d) - nI a < many) : pg_lo ws os a many (d + 1) = pg_lo ws os a many d := by rw [pg_lo, if_pos h]
theorem pg_lo_s2 (ws os : Nat → Int32) {a d : Nat} {many : Int32} (h : ¬ nI (a + d) - nI a < many) : pg_lo ws os a many (d + 1) = ((pg_lo ws os a many d).1 + 1, upd (pg_lo ws os a many d).2.1 (pg_lo ws os a many d).1 ((pg_lo ws os a many d).2.1 (a + d)), upd (pg_lo ws os a many d).2.2 (pg_lo ws os a many d).1 ((pg_lo ws os a many d).2.2 (a + d))) := by rw [pg_lo, if_neg h]
theorem sp_cI {D : va_G} {cl : List vw_C} {cI cQ cA : ClassId} {s : State} (h : va_K D cl (kT cI cQ ++ [(cA, .int)]) s) : cI = cA := by
  have h1 : s.vm.findClass ("[" ++ (FieldType.int).toString) = some cI := (h.2 0 _ rfl).2
  have h2 : s.vm.findClass ("[" ++ (FieldType.int).toString) = some cA := (h.2 2 _ rfl).2
  exact Option.some.inj (h1.symm.trans h2)
end
section
-- Program: contracts with loops (by wip/gen/prog2.py)
set_option maxHeartbeats 4000000 in
set_option maxRecDepth 100000 in
theorem kP_setByte (l : Launch) (dC : Nat → ClassId) (dI : Nat → Nat → Nat) (cI cQ : ClassId) (h0 w0 o0 : Nat) (n : Int32) (ws os : Nat → Int32) (k b v : Int32) (sz : Nat)  : Met l yP_setByte (.code yP_setByte cP_setByte 5 none :: wA) ({ frames := 1, cells := 0, slots := 0, locals := 21 }) (sp_P (dC, dI) (kT cI cQ) [.ref h0, .int k, .int b, .int v] [(h0, .inr (0, [.ref w0, .ref o0, .int n])), (w0, .inl (cI, 48, .inl ws)), (o0, .inl (cI, 48, .inl os))] sz) (sp_QWv (dC, dI) [(h0, .inr (0, [.ref w0, .ref o0, .int n])), (w0, .inl (cI, 48, .inl (pg_sbW ws n k b v))), (o0, .inl (cI, 48, .inl os))] (va_A [(h0, .inr (0, [.ref w0, .ref o0, .int n])), (w0, .inl (cI, 48, .inl ws)), (o0, .inl (cI, 48, .inl os))] sz)) 0 0 (va_A [(h0, .inr (0, [.ref w0, .ref o0, .int n])), (w0, .inl (cI, 48, .inl ws)), (o0, .inl (cI, 48, .inl os))] sz) := by
  refine Met.ofW (cc := cP_setByte) (maxL := 5) (ret := none) (by decide) rfl ?_
  intro p e s m args below meth c s₁ B hml hv
  obtain ⟨rfl, hsz, hP, hK, hD0, hG⟩ := hv
  have hx := B.exec
  have hb := B.bytes
  have hr := B.returns
  have hA := sp_hA (atoms_spec (ws := (.code yP_setByte cP_setByte 5 none :: wA)) B.pre)
  have hown : s.vm.findClass rP = some m.cls := findClass_of_methodNamed B.named
  have hlocks := B.notSynchronized
  subst hsz
  have hD := hD0.self (sz := s.heap.size)
  generalize hAe : va_A [(h0, .inr (0, [.ref w0, .ref o0, .int n])), (w0, .inl (cI, 48, .inl ws)), (o0, .inl (cI, 48, .inl os))] s.heap.size = A at hD ⊢
  have hF : ∀ q : Nat, s.heap.size ≤ q → A q := fun q h => by rw [← hAe]; exact Or.inr h
  have hS : va_S A s.heap s.heap [] := va_S.rf
  have hl := lv_entry ([.ref h0, .int k, .int b, .int v]) (n := 5) (Nat.le_of_ble_eq_true rfl)
  rw [lg_entry_eq]
  generalize (lg_sl ([.ref h0, .int k, .int b, .int v]) ++ List.replicate (5 - (lg_sl ([.ref h0, .int k, .int b, .int v])).length) Slot.unset).toArray = ls at hl ⊢
  have hl : lv_has ls 5 [(0, .ref h0), (1, .int k), (2, .int b), (3, .int v)] := hl
  refine lv_aload_n hx hb dP_setByte_0 rfl (lv_at hl 0 rfl) ?_
  refine lv_iload_n hx hb dP_setByte_1 rfl (lv_at hl 1 rfl) ?_
  refine va_calli (va_runV (As := [.int k]) (rest := []) ⟨hx, hb, hml, hown, hA⟩ (kP_has l dC dI cI cQ h0 w0 o0 n k) (cwV 1 hA (gd_V wi_325 wi_304 wi_305 wi_3 wi_306) rfl rfl rfl (by decide +kernel) ⟨Nat.le_of_ble_eq_true rfl, Nat.le_of_ble_eq_true rfl⟩) ⟨sp_Rb, va_recv hK hP (ci := 0) (q0 := 0) rfl rfl, sp_Ro (hP.sub [0] rfl) hK hG⟩ rfl rfl hl.1 rfl (lv_room (Nat.le_of_ble_eq_true rfl)) dP_setByte_2 ⟨Nat.le_of_ble_eq_true rfl, Nat.le_of_ble_eq_true rfl⟩) hS (fun _ _ h => h.elim) (fun _ h => h.elim) (fun r_2 u_2 t H locs ht hvm hw hB hz1 hk1 hS => ?_)
  subst hw
  have hP := sp_kp hP hk1
  refine lv_if_eq (tgt := 46) hx hb dP_setByte_5 (by decide) (fun c_5 => ?_) (fun c_5 => ?_)
  · have hPe : va_P (dC, dI) vwCl [(h0, .inr (0, [.ref w0, .ref o0, .int n])), (w0, .inl (cI, 48, .inl (pg_sbW ws n k b v))), (o0, .inl (cI, 48, .inl os))] H := by first | (simpa [pg_sbW, c_5] using hP) | (rw [pg_sbW, if_neg c_5]; exact hP)
    have hDe : va_D A [(h0, .inr (0, [.ref w0, .ref o0, .int n])), (w0, .inl (cI, 48, .inl (pg_sbW ws n k b v))), (o0, .inl (cI, 48, .inl os))] := sp_Dc hD rfl
    exact W.vret hx hb hr (sp_eWv hPe hDe hS) hS.2.2 dP_setByte_46
  · refine lv_aload_n hx hb dP_setByte_8 rfl (lv_at hl 0 rfl) ?_
    refine va_get (D := (dC, dI)) (ci := 0) (C := rP) (T := tP) (N := 3) hx hb hA inP hown hK hP 0 rfl rfl 0 (by decide) (hA _ wi_32) (fun _ h9 => h9) rfl dP_setByte_9 ?_
    refine lv_iload_n hx hb dP_setByte_12 rfl (lv_at hl 1 rfl) ?_
    refine va_iald hx hb hK hP 1 0 rfl rfl (pg_has_in c_5) dP_setByte_13 ?_
    refine lv_sipush (v := 255) hx hb dP_setByte_14 (by decide) ?_
    refine lv_iload_n hx hb dP_setByte_17 rfl (lv_at hl 2 rfl) ?_
    refine va_calli (va_runS (As := [.int b]) (rest := [.int 255, .int (ws (Int32.toNatClampNeg k))]) ⟨hx, hb, hml, hown, hA⟩ (kP_shift l dC dI cI cQ b) (cwS 1 hA (gd_S wi_395 wi_396 wi_3 wi_397) rfl rfl rfl (by decide +kernel) ⟨Nat.le_of_ble_eq_true rfl, Nat.le_of_ble_eq_true rfl⟩) ⟨sp_Rb, sp_Ro (hP.sub [] rfl) hK hG⟩ rfl rfl hl.1 rfl (lv_room (Nat.le_of_ble_eq_true rfl)) dP_setByte_18 ⟨Nat.le_of_ble_eq_true rfl, Nat.le_of_ble_eq_true rfl⟩) hS (fun _ _ h => h.elim) (fun _ h => h.elim) (fun r_18 u_18 t H locs ht hvm hw hB hz1 hk1 hS => ?_)
    subst hw
    have hP := sp_kp hP hk1
    refine lv_ishl hx hb dP_setByte_21 ?_
    refine lv_iconst (v := (-1)) hx hb dP_setByte_22 (by decide) ?_
    refine lv_ixor hx hb dP_setByte_23 ?_
    refine lv_iand hx hb dP_setByte_24 ?_
    refine lv_istore (lv' := [(4, .int ((ws (Int32.toNatClampNeg k)) &&& ((255 <<< ((pg_shift b) &&& 31)) ^^^ (-1)))), (0, .ref h0), (1, .int k), (2, .int b), (3, .int v)]) hx hb dP_setByte_25 hl (by decide) rfl (fun ls hl => ?_)
    refine lv_aload_n hx hb dP_setByte_27 rfl (lv_at hl 1 rfl) ?_
    refine va_get (D := (dC, dI)) (ci := 0) (C := rP) (T := tP) (N := 3) hx hb hA inP hown hK hP 0 rfl rfl 0 (by decide) (hA _ wi_32) (fun _ h9 => h9) rfl dP_setByte_28 ?_
    refine lv_iload_n hx hb dP_setByte_31 rfl (lv_at hl 2 rfl) ?_
    refine lv_iload hx hb dP_setByte_32 (lv_at hl 0 rfl) ?_
    refine lv_iload_n hx hb dP_setByte_34 rfl (lv_at hl 4 rfl) ?_
    refine lv_sipush (v := 255) hx hb dP_setByte_35 (by decide) ?_
    refine lv_iand hx hb dP_setByte_38 ?_
    refine lv_iload_n hx hb dP_setByte_39 rfl (lv_at hl 3 rfl) ?_
    refine va_calli (va_runS (As := [.int b]) (rest := [.int (v &&& 255), .int ((ws (Int32.toNatClampNeg k)) &&& ((255 <<< ((pg_shift b) &&& 31)) ^^^ (-1))), .int k, .ref w0]) ⟨hx, hb, hml, hown, hA⟩ (kP_shift l dC dI cI cQ b) (cwS 1 hA (gd_S wi_395 wi_396 wi_3 wi_397) rfl rfl rfl (by decide +kernel) ⟨Nat.le_of_ble_eq_true rfl, Nat.le_of_ble_eq_true rfl⟩) ⟨sp_Rb, sp_Ro (hP.sub [] rfl) hK hG⟩ rfl rfl hl.1 rfl (lv_room (Nat.le_of_ble_eq_true rfl)) dP_setByte_40 ⟨Nat.le_of_ble_eq_true rfl, Nat.le_of_ble_eq_true rfl⟩) hS (fun _ _ h => h.elim) (fun _ h => h.elim) (fun r_40 u_40 t H locs ht hvm hw hB hz1 hk1 hS => ?_)
    subst hw
    have hP := sp_kp hP hk1
    refine lv_ishl hx hb dP_setByte_43 ?_
    refine lv_ior hx hb dP_setByte_44 ?_
    refine va_iast hx hb hK hP hD hS 1 0 rfl rfl (pg_has_in c_5) dP_setByte_45 (fun H locs hP hD hS => ?_)
    have hP : va_P (dC, dI) vwCl [(h0, .inr (0, [.ref w0, .ref o0, .int n])), (w0, .inl (cI, 48, .inl (upd ws (Int32.toNatClampNeg k) (((ws (Int32.toNatClampNeg k)) &&& ((255 <<< ((pg_shift b) &&& 31)) ^^^ (-1))) ||| ((v &&& 255) <<< ((pg_shift b) &&& 31)))))), (o0, .inl (cI, 48, .inl os))] H := hP
    have hD : va_D A [(h0, .inr (0, [.ref w0, .ref o0, .int n])), (w0, .inl (cI, 48, .inl (upd ws (Int32.toNatClampNeg k) (((ws (Int32.toNatClampNeg k)) &&& ((255 <<< ((pg_shift b) &&& 31)) ^^^ (-1))) ||| ((v &&& 255) <<< ((pg_shift b) &&& 31)))))), (o0, .inl (cI, 48, .inl os))] := hD
    have hPe : va_P (dC, dI) vwCl [(h0, .inr (0, [.ref w0, .ref o0, .int n])), (w0, .inl (cI, 48, .inl (pg_sbW ws n k b v))), (o0, .inl (cI, 48, .inl os))] H := by first | (simpa [pg_sbW, c_5] using hP) | (rw [pg_sbW, if_neg c_5]; exact hP)
    have hDe : va_D A [(h0, .inr (0, [.ref w0, .ref o0, .int n])), (w0, .inl (cI, 48, .inl (pg_sbW ws n k b v))), (o0, .inl (cI, 48, .inl os))] := sp_Dc hD rfl
    exact W.vret hx hb hr (sp_eWv hPe hDe hS) hS.2.2 dP_setByte_46
set_option maxHeartbeats 4000000 in
set_option maxRecDepth 100000 in
theorem kP_copy (l : Launch) (dC : Nat → ClassId) (dI : Nat → Nat → Nat) (cI cQ : ClassId) (h0 w0 o0 : Nat) (n : Int32) (ws os : Nat → Int32) (g0 gw go : Nat) (n' : Int32) (ws' os' : Nat → Int32) (sz : Nat)  : Met l yP_copy (.code yP_copy cP_copy 4 none :: wA) ({ frames := 1, cells := 0, slots := 0, locals := 13 }) (sp_P (dC, dI) (kT cI cQ) [.ref h0, .ref g0] [(h0, .inr (0, [.ref w0, .ref o0, .int n])), (w0, .inl (cI, 48, .inl ws)), (o0, .inl (cI, 48, .inl os)), (g0, .inr (0, [.ref gw, .ref go, .int n'])), (gw, .inl (cI, 48, .inl ws')), (go, .inl (cI, 48, .inl os'))] sz) (sp_QWv (dC, dI) [(h0, .inr (0, [.ref w0, .ref o0, .int (pg_cpN n')])), (w0, .inl (cI, 48, .inl (pg_cp ws' ws (pg_cpN n').toNatClampNeg))), (o0, .inl (cI, 48, .inl (pg_cp os' os (pg_cpN n').toNatClampNeg))), (g0, .inr (0, [.ref gw, .ref go, .int n'])), (gw, .inl (cI, 48, .inl ws')), (go, .inl (cI, 48, .inl os'))] (va_A [(h0, .inr (0, [.ref w0, .ref o0, .int n])), (w0, .inl (cI, 48, .inl ws)), (o0, .inl (cI, 48, .inl os)), (g0, .inr (0, [.ref gw, .ref go, .int n'])), (gw, .inl (cI, 48, .inl ws')), (go, .inl (cI, 48, .inl os'))] sz)) 0 0 (va_A [(h0, .inr (0, [.ref w0, .ref o0, .int n])), (w0, .inl (cI, 48, .inl ws)), (o0, .inl (cI, 48, .inl os)), (g0, .inr (0, [.ref gw, .ref go, .int n'])), (gw, .inl (cI, 48, .inl ws')), (go, .inl (cI, 48, .inl os'))] sz) := by
  refine Met.ofW (cc := cP_copy) (maxL := 4) (ret := none) (by decide) rfl ?_
  intro p e s m args below meth c s₁ B hml hv
  obtain ⟨rfl, hsz, hP, hK, hD0, hG⟩ := hv
  have hx := B.exec
  have hb := B.bytes
  have hr := B.returns
  have hA := sp_hA (atoms_spec (ws := (.code yP_copy cP_copy 4 none :: wA)) B.pre)
  have hown : s.vm.findClass rP = some m.cls := findClass_of_methodNamed B.named
  have hlocks := B.notSynchronized
  subst hsz
  have hD := hD0.self (sz := s.heap.size)
  generalize hAe : va_A [(h0, .inr (0, [.ref w0, .ref o0, .int n])), (w0, .inl (cI, 48, .inl ws)), (o0, .inl (cI, 48, .inl os)), (g0, .inr (0, [.ref gw, .ref go, .int n'])), (gw, .inl (cI, 48, .inl ws')), (go, .inl (cI, 48, .inl os'))] s.heap.size = A at hD ⊢
  have hF : ∀ q : Nat, s.heap.size ≤ q → A q := fun q h => by rw [← hAe]; exact Or.inr h
  have hS : va_S A s.heap s.heap [] := va_S.rf
  have hl := lv_entry ([.ref h0, .ref g0]) (n := 4) (Nat.le_of_ble_eq_true rfl)
  rw [lg_entry_eq]
  generalize (lg_sl ([.ref h0, .ref g0]) ++ List.replicate (4 - (lg_sl ([.ref h0, .ref g0])).length) Slot.unset).toArray = ls at hl ⊢
  have hl : lv_has ls 4 [(0, .ref h0), (1, .ref g0)] := hl
  refine lv_aload_n hx hb dP_copy_0 rfl (lv_at hl 1 rfl) ?_
  refine va_get (D := (dC, dI)) (ci := 0) (C := rP) (T := tP) (N := 3) hx hb hA inP hown hK hP 3 rfl rfl 2 (by decide) (hA _ wi_34) (fun _ h9 => h9) rfl dP_copy_1 ?_
  refine lv_bipush (v := 48) hx hb dP_copy_4 (by decide) ?_
  refine va_mmin hx hb (by rw [hml]; exact hl.1.symm) hown (hA _ wi_277) (hA _ wi_278) (hA _ wi_2) (hA _ wi_279) (Nat.le_of_ble_eq_true rfl) (Nat.le_of_ble_eq_true rfl) (Nat.zero_le _) (Nat.zero_le _) dP_copy_6 ?_
  refine lv_istore_n (lv' := [(2, .int (if 48 < n' then 48 else n')), (0, .ref h0), (1, .ref g0)]) hx hb dP_copy_9 rfl hl (by decide) rfl (fun ls hl => ?_)
  refine lv_iconst (v := 0) hx hb dP_copy_10 (by decide) ?_
  refine lv_istore_n (lv' := [(3, .int 0), (2, .int (if 48 < n' then 48 else n')), (0, .ref h0), (1, .ref g0)]) hx hb dP_copy_11 rfl hl (by decide) rfl (fun ls hl => ?_)
  have loop : ∀ (n9 : Nat) (i : Nat) (H : Heap) (locs : List Loc) (ls : Array Slot), (pg_cpN n').toNatClampNeg - i < n9 → (i ≤ (pg_cpN n').toNatClampNeg) → va_P (dC, dI) vwCl [(h0, .inr (0, [.ref w0, .ref o0, .int n])), (w0, .inl (cI, 48, .inl (pg_cp ws' ws i))), (o0, .inl (cI, 48, .inl (pg_cp os' os i))), (g0, .inr (0, [.ref gw, .ref go, .int n'])), (gw, .inl (cI, 48, .inl ws')), (go, .inl (cI, 48, .inl os'))] H → va_D A [(h0, .inr (0, [.ref w0, .ref o0, .int n])), (w0, .inl (cI, 48, .inl (pg_cp ws' ws i))), (o0, .inl (cI, 48, .inl (pg_cp os' os i))), (g0, .inr (0, [.ref gw, .ref go, .int n'])), (gw, .inl (cI, 48, .inl ws')), (go, .inl (cI, 48, .inl os'))] → va_S A s.heap H locs → lv_has ls 4 [(3, .int (nI i)), (2, .int (pg_cpN n')), (0, .ref h0), (1, .ref g0)] → W p l e (headSpec (.code yP_copy cP_copy 4 none :: wA) ({ frames := 1, cells := 0, slots := 0, locals := 13 })).room s m ([.ref h0, .ref g0]).toArray below meth c H locs 0 0 (MQ below (sp_QWv (dC, dI) [(h0, .inr (0, [.ref w0, .ref o0, .int (pg_cpN n')])), (w0, .inl (cI, 48, .inl (pg_cp ws' ws (pg_cpN n').toNatClampNeg))), (o0, .inl (cI, 48, .inl (pg_cp os' os (pg_cpN n').toNatClampNeg))), (g0, .inr (0, [.ref gw, .ref go, .int n'])), (gw, .inl (cI, 48, .inl ws')), (go, .inl (cI, 48, .inl os'))] A) ([.ref h0, .ref g0]).toArray s 0 0 A) (F0 m 12 ls []) := by
    intro n9
    induction n9 with
    | zero => intro i H locs ls hm9 hiM hP hD hS hl; exact absurd hm9 (Nat.not_lt_zero _)
    | succ n9 ih =>
      intro i H locs ls hm9 hiM hP hD hS hl
      have h48 := pg_cpN_le n'
      refine lv_iload_n hx hb dP_copy_12 rfl (lv_at hl 0 rfl) ?_
      refine lv_iload_n hx hb dP_copy_13 rfl (lv_at hl 1 rfl) ?_
      refine lv_icmp_ge (tgt := 47) hx hb dP_copy_14 (by decide) (fun c_14 => ?_) (fun c_14 => ?_)
      · refine lv_aload_n hx hb dP_copy_47 rfl (lv_at hl 2 rfl) ?_
        refine lv_iload_n hx hb dP_copy_48 rfl (lv_at hl 1 rfl) ?_
        refine va_put (D := (dC, dI)) (ci := 0) (v := .int (pg_cpN n')) (ty := .int) (C := rP) (T := tP) (N := 3) hx hb hA inP tyP tyP_ok nmP hown hK hP hD hS 0 rfl rfl 2 (by decide) (hA _ wi_34) (fun _ h9 => h9) rfl (by decide +kernel) rfl rfl (Nat.le_of_ble_eq_true rfl) dP_copy_49 (fun H locs hP hD hS => ?_)
        have hP : va_P (dC, dI) vwCl [(h0, .inr (0, [.ref w0, .ref o0, .int (pg_cpN n')])), (w0, .inl (cI, 48, .inl (pg_cp ws' ws i))), (o0, .inl (cI, 48, .inl (pg_cp os' os i))), (g0, .inr (0, [.ref gw, .ref go, .int n'])), (gw, .inl (cI, 48, .inl ws')), (go, .inl (cI, 48, .inl os'))] H := hP
        have hD : va_D A [(h0, .inr (0, [.ref w0, .ref o0, .int (pg_cpN n')])), (w0, .inl (cI, 48, .inl (pg_cp ws' ws i))), (o0, .inl (cI, 48, .inl (pg_cp os' os i))), (g0, .inr (0, [.ref gw, .ref go, .int n'])), (gw, .inl (cI, 48, .inl ws')), (go, .inl (cI, 48, .inl os'))] := hD
        have hPe : va_P (dC, dI) vwCl [(h0, .inr (0, [.ref w0, .ref o0, .int (pg_cpN n')])), (w0, .inl (cI, 48, .inl (pg_cp ws' ws (pg_cpN n').toNatClampNeg))), (o0, .inl (cI, 48, .inl (pg_cp os' os (pg_cpN n').toNatClampNeg))), (g0, .inr (0, [.ref gw, .ref go, .int n'])), (gw, .inl (cI, 48, .inl ws')), (go, .inl (cI, 48, .inl os'))] H := by have e9 : i = (pg_cpN n').toNatClampNeg := Nat.le_antisymm hiM (cl_le (by have := pg_cpN_le n'; omega) c_14); subst e9; exact hP
        have hDe : va_D A [(h0, .inr (0, [.ref w0, .ref o0, .int (pg_cpN n')])), (w0, .inl (cI, 48, .inl (pg_cp ws' ws (pg_cpN n').toNatClampNeg))), (o0, .inl (cI, 48, .inl (pg_cp os' os (pg_cpN n').toNatClampNeg))), (g0, .inr (0, [.ref gw, .ref go, .int n'])), (gw, .inl (cI, 48, .inl ws')), (go, .inl (cI, 48, .inl os'))] := sp_Dc hD rfl
        exact W.vret hx hb hr (sp_eWv hPe hDe hS) hS.2.2 dP_copy_52
      · refine lv_aload_n hx hb dP_copy_17 rfl (lv_at hl 2 rfl) ?_
        refine va_get (D := (dC, dI)) (ci := 0) (C := rP) (T := tP) (N := 3) hx hb hA inP hown hK hP 0 rfl rfl 0 (by decide) (hA _ wi_32) (fun _ h9 => h9) rfl dP_copy_18 ?_
        refine lv_iload_n hx hb dP_copy_21 rfl (lv_at hl 0 rfl) ?_
        refine lv_aload_n hx hb dP_copy_22 rfl (lv_at hl 3 rfl) ?_
        refine va_get (D := (dC, dI)) (ci := 0) (C := rP) (T := tP) (N := 3) hx hb hA inP hown hK hP 3 rfl rfl 0 (by decide) (hA _ wi_32) (fun _ h9 => h9) rfl dP_copy_23 ?_
        refine lv_iload_n hx hb dP_copy_26 rfl (lv_at hl 0 rfl) ?_
        refine va_iald hx hb hK hP 4 0 rfl rfl (vp_in_nI (show i < 48 by have := cl_lt (show i < 2 ^ 31 by omega) c_14; omega) (by decide)) dP_copy_27 ?_
        refine va_iast hx hb hK hP hD hS 1 0 rfl rfl (vp_in_nI (show i < 48 by have := cl_lt (show i < 2 ^ 31 by omega) c_14; omega) (by decide)) dP_copy_28 (fun H locs hP hD hS => ?_)
        have hP : va_P (dC, dI) vwCl [(h0, .inr (0, [.ref w0, .ref o0, .int n])), (w0, .inl (cI, 48, .inl (upd (pg_cp ws' ws i) (Int32.toNatClampNeg (nI i)) (ws' (Int32.toNatClampNeg (nI i)))))), (o0, .inl (cI, 48, .inl (pg_cp os' os i))), (g0, .inr (0, [.ref gw, .ref go, .int n'])), (gw, .inl (cI, 48, .inl ws')), (go, .inl (cI, 48, .inl os'))] H := hP
        have hD : va_D A [(h0, .inr (0, [.ref w0, .ref o0, .int n])), (w0, .inl (cI, 48, .inl (upd (pg_cp ws' ws i) (Int32.toNatClampNeg (nI i)) (ws' (Int32.toNatClampNeg (nI i)))))), (o0, .inl (cI, 48, .inl (pg_cp os' os i))), (g0, .inr (0, [.ref gw, .ref go, .int n'])), (gw, .inl (cI, 48, .inl ws')), (go, .inl (cI, 48, .inl os'))] := hD
        refine lv_aload_n hx hb dP_copy_29 rfl (lv_at hl 2 rfl) ?_
        refine va_get (D := (dC, dI)) (ci := 0) (C := rP) (T := tP) (N := 3) hx hb hA inP hown hK hP 0 rfl rfl 1 (by decide) (hA _ wi_33) (fun _ h9 => h9) rfl dP_copy_30 ?_
        refine lv_iload_n hx hb dP_copy_33 rfl (lv_at hl 0 rfl) ?_
        refine lv_aload_n hx hb dP_copy_34 rfl (lv_at hl 3 rfl) ?_
        refine va_get (D := (dC, dI)) (ci := 0) (C := rP) (T := tP) (N := 3) hx hb hA inP hown hK hP 3 rfl rfl 1 (by decide) (hA _ wi_33) (fun _ h9 => h9) rfl dP_copy_35 ?_
        refine lv_iload_n hx hb dP_copy_38 rfl (lv_at hl 0 rfl) ?_
        refine va_iald hx hb hK hP 5 0 rfl rfl (vp_in_nI (show i < 48 by have := cl_lt (show i < 2 ^ 31 by omega) c_14; omega) (by decide)) dP_copy_39 ?_
        refine va_iast hx hb hK hP hD hS 2 0 rfl rfl (vp_in_nI (show i < 48 by have := cl_lt (show i < 2 ^ 31 by omega) c_14; omega) (by decide)) dP_copy_40 (fun H locs hP hD hS => ?_)
        have hP : va_P (dC, dI) vwCl [(h0, .inr (0, [.ref w0, .ref o0, .int n])), (w0, .inl (cI, 48, .inl (upd (pg_cp ws' ws i) (Int32.toNatClampNeg (nI i)) (ws' (Int32.toNatClampNeg (nI i)))))), (o0, .inl (cI, 48, .inl (upd (pg_cp os' os i) (Int32.toNatClampNeg (nI i)) (os' (Int32.toNatClampNeg (nI i)))))), (g0, .inr (0, [.ref gw, .ref go, .int n'])), (gw, .inl (cI, 48, .inl ws')), (go, .inl (cI, 48, .inl os'))] H := hP
        have hD : va_D A [(h0, .inr (0, [.ref w0, .ref o0, .int n])), (w0, .inl (cI, 48, .inl (upd (pg_cp ws' ws i) (Int32.toNatClampNeg (nI i)) (ws' (Int32.toNatClampNeg (nI i)))))), (o0, .inl (cI, 48, .inl (upd (pg_cp os' os i) (Int32.toNatClampNeg (nI i)) (os' (Int32.toNatClampNeg (nI i)))))), (g0, .inr (0, [.ref gw, .ref go, .int n'])), (gw, .inl (cI, 48, .inl ws')), (go, .inl (cI, 48, .inl os'))] := hD
        refine lv_iinc (v := ((nI i) + 1)) (lv' := [(3, .int ((nI i) + 1)), (2, .int (pg_cpN n')), (0, .ref h0), (1, .ref g0)]) hx hb dP_copy_41 hl (k := 0) rfl rfl (by decide) rfl (fun ls hl => ?_)
        refine lv_goto (tgt := 12) hx hb dP_copy_44 (by decide) ?_
        have hi : i < (pg_cpN n').toNatClampNeg := cl_lt (by omega) c_14
        have e1 : (nI i).toNatClampNeg = i := nI_clamp (by omega)
        rw [e1, pg_cps, pg_cps] at hP
        refine ih (i + 1) H locs ls (by omega) (by omega) hP (sp_Dc hD rfl) hS ?_
        have h9 := lv_sub hl [0, 1, 2, 3] rfl
        rw [nI_1] at h9
        exact h9
  exact loop (((pg_cpN n').toNatClampNeg - 0) + 1) 0 _ _ ls (Nat.lt_succ_self _) (Nat.zero_le _) (by rw [pg_cp0, pg_cp0]; exact hP) (sp_Dc hD rfl) hS (lv_sub hl [0, 1, 2, 3] rfl)
set_option maxHeartbeats 4000000 in
set_option maxRecDepth 100000 in
theorem kP_mark (l : Launch) (dC : Nat → ClassId) (dI : Nat → Nat → Nat) (cI cQ : ClassId) (h0 w0 o0 : Nat) (n : Int32) (ws : Nat → Int32)  : Met l yP_mark (.code yP_mark cP_mark 3 (some .int) :: wA) ({ frames := 0, cells := 0, slots := 0, locals := 0 }) (sp_R (dC, dI) (kT cI cQ) [.ref h0] [(h0, .inr (0, [.ref w0, .ref o0, .int n])), (w0, .inl (cI, 48, .inl ws))]) (sp_QRi (pg_mark ws n)) 0 0 (fun _ => False) := by
  refine Met.ofW (cc := cP_mark) (maxL := 3) (ret := (some .int)) (by decide) rfl ?_
  intro p e s m args below meth c s₁ B hml hv
  obtain ⟨rfl, hP, hK, hG⟩ := hv
  have hx := B.exec
  have hb := B.bytes
  have hr := B.returns
  have hA := sp_hA (atoms_spec (ws := (.code yP_mark cP_mark 3 (some .int) :: wA)) B.pre)
  have hown : s.vm.findClass rP = some m.cls := findClass_of_methodNamed B.named
  have hlocks := B.notSynchronized
  have hS : va_S (fun _ => False) s.heap s.heap [] := va_S.rf
  have hl := lv_entry ([.ref h0]) (n := 3) (Nat.le_of_ble_eq_true rfl)
  rw [lg_entry_eq]
  generalize (lg_sl ([.ref h0]) ++ List.replicate (3 - (lg_sl ([.ref h0])).length) Slot.unset).toArray = ls at hl ⊢
  have hl : lv_has ls 3 [(0, .ref h0)] := hl
  refine lv_aload_n hx hb dP_mark_0 rfl (lv_at hl 0 rfl) ?_
  refine va_get (D := (dC, dI)) (ci := 0) (C := rP) (T := tP) (N := 3) hx hb hA inP hown hK hP 0 rfl rfl 2 (by decide) (hA _ wi_34) (fun _ h9 => h9) rfl dP_mark_1 ?_
  refine lv_istore_n (lv' := [(1, .int n), (0, .ref h0)]) hx hb dP_mark_4 rfl hl (by decide) rfl (fun ls hl => ?_)
  refine lv_iconst (v := 0) hx hb dP_mark_5 (by decide) ?_
  refine lv_istore_n (lv' := [(2, .int 0), (1, .int n), (0, .ref h0)]) hx hb dP_mark_6 rfl hl (by decide) rfl (fun ls hl => ?_)
  have loop : ∀ (n9 : Nat) (i : Nat) (H : Heap) (locs : List Loc) (ls : Array Slot), pg_lim n - i < n9 → (i ≤ pg_lim n) → va_P (dC, dI) vwCl [(h0, .inr (0, [.ref w0, .ref o0, .int n])), (w0, .inl (cI, 48, .inl ws))] H → va_S (fun _ => False) s.heap H locs → lv_has ls 3 [(2, .int (nI i)), (1, .int (pg_mk ws n i)), (0, .ref h0)] → W p l e (headSpec (.code yP_mark cP_mark 3 (some .int) :: wA) ({ frames := 0, cells := 0, slots := 0, locals := 0 })).room s m ([.ref h0]).toArray below meth c H locs 0 0 (MQ below (sp_QRi (pg_mark ws n)) ([.ref h0]).toArray s 0 0 (fun _ => False)) (F0 m 7 ls []) := by
    intro n9
    induction n9 with
    | zero => intro i H locs ls hm9 hiM hP hS hl; exact absurd hm9 (Nat.not_lt_zero _)
    | succ n9 ih =>
      intro i H locs ls hm9 hiM hP hS hl
      have h48 := pg_lim_48 n
      refine lv_iload_n hx hb dP_mark_7 rfl (lv_at hl 0 rfl) ?_
      refine lv_aload_n hx hb dP_mark_8 rfl (lv_at hl 2 rfl) ?_
      refine va_get (D := (dC, dI)) (ci := 0) (C := rP) (T := tP) (N := 3) hx hb hA inP hown hK hP 0 rfl rfl 2 (by decide) (hA _ wi_34) (fun _ h9 => h9) rfl dP_mark_9 ?_
      refine lv_icmp_ge (tgt := 39) hx hb dP_mark_12 (by decide) (fun c_12 => ?_) (fun c_12 => ?_)
      · refine lv_iload_n hx hb dP_mark_39 rfl (lv_at hl 1 rfl) ?_
        exact W.iret hx hb hr (sp_eRi (by rw [Nat.le_antisymm hiM (pg_lim_le1 (by have := pg_lim_48 n; omega) c_12)]; rfl) hS) hS.2.2 dP_mark_40
      · refine lv_iload_n hx hb dP_mark_15 rfl (lv_at hl 0 rfl) ?_
        refine lv_bipush (v := 48) hx hb dP_mark_16 (by decide) ?_
        refine lv_icmp_ge (tgt := 39) hx hb dP_mark_18 (by decide) (fun c_18 => ?_) (fun c_18 => ?_)
        · refine lv_iload_n hx hb dP_mark_39 rfl (lv_at hl 1 rfl) ?_
          exact W.iret hx hb hr (sp_eRi (by rw [Nat.le_antisymm hiM (pg_lim_le2 (by have := pg_lim_48 n; omega) c_18)]; rfl) hS) hS.2.2 dP_mark_40
        · refine lv_bipush (v := 31) hx hb dP_mark_21 (by decide) ?_
          refine lv_iload_n hx hb dP_mark_23 rfl (lv_at hl 1 rfl) ?_
          refine lv_imul hx hb dP_mark_24 ?_
          refine lv_aload_n hx hb dP_mark_25 rfl (lv_at hl 2 rfl) ?_
          refine va_get (D := (dC, dI)) (ci := 0) (C := rP) (T := tP) (N := 3) hx hb hA inP hown hK hP 0 rfl rfl 0 (by decide) (hA _ wi_32) (fun _ h9 => h9) rfl dP_mark_26 ?_
          refine lv_iload_n hx hb dP_mark_29 rfl (lv_at hl 0 rfl) ?_
          refine va_iald hx hb hK hP 1 0 rfl rfl (vp_in_nI (cl_48 (by have := pg_lim_48 n; omega) c_18) (by decide)) dP_mark_30 ?_
          refine lv_iadd hx hb dP_mark_31 ?_
          refine lv_istore_n (lv' := [(1, .int ((31 * (pg_mk ws n i)) + (ws (Int32.toNatClampNeg (nI i))))), (2, .int (nI i)), (0, .ref h0)]) hx hb dP_mark_32 rfl hl (by decide) rfl (fun ls hl => ?_)
          refine lv_iinc (v := ((nI i) + 1)) (lv' := [(2, .int ((nI i) + 1)), (1, .int ((31 * (pg_mk ws n i)) + (ws (Int32.toNatClampNeg (nI i))))), (0, .ref h0)]) hx hb dP_mark_33 hl (k := 1) rfl rfl (by decide) rfl (fun ls hl => ?_)
          refine lv_goto (tgt := 7) hx hb dP_mark_36 (by decide) ?_
          have e1 : (nI i).toNatClampNeg = i := nI_clamp (by omega)
          refine ih (i + 1) H locs ls (by have := pg_lim_lt (show i < 2 ^ 31 by omega) c_12 c_18; omega) (by have := pg_lim_lt (show i < 2 ^ 31 by omega) c_12 c_18; omega) hP hS ?_
          have h9 := lv_sub hl [0, 1, 2] rfl
          rw [nI_1, e1] at h9
          exact h9
  exact loop ((pg_lim n - 0) + 1) 0 _ _ ls (Nat.lt_succ_self _) (Nat.zero_le _) hP hS (lv_sub hl [0, 1, 2] rfl)
set_option maxHeartbeats 4000000 in
set_option maxRecDepth 100000 in
theorem kP_same (l : Launch) (dC : Nat → ClassId) (dI : Nat → Nat → Nat) (cI cQ : ClassId) (h0 w0 o0 : Nat) (n : Int32) (ws : Nat → Int32) (g0 gw go : Nat) (n' : Int32) (ws' : Nat → Int32)  : Met l yP_hasSameWords (.code yP_hasSameWords cP_hasSameWords 3 (some .boolean) :: wA) ({ frames := 0, cells := 0, slots := 0, locals := 0 }) (sp_R (dC, dI) (kT cI cQ) [.ref h0, .ref g0] [(h0, .inr (0, [.ref w0, .ref o0, .int n])), (w0, .inl (cI, 48, .inl ws)), (g0, .inr (0, [.ref gw, .ref go, .int n'])), (gw, .inl (cI, 48, .inl ws'))]) (sp_QRi (pg_same ws n ws' n')) 0 0 (fun _ => False) := by
  refine Met.ofW (cc := cP_hasSameWords) (maxL := 3) (ret := (some .boolean)) (by decide) rfl ?_
  intro p e s m args below meth c s₁ B hml hv
  obtain ⟨rfl, hP, hK, hG⟩ := hv
  have hx := B.exec
  have hb := B.bytes
  have hr := B.returns
  have hA := sp_hA (atoms_spec (ws := (.code yP_hasSameWords cP_hasSameWords 3 (some .boolean) :: wA)) B.pre)
  have hown : s.vm.findClass rP = some m.cls := findClass_of_methodNamed B.named
  have hlocks := B.notSynchronized
  have hS : va_S (fun _ => False) s.heap s.heap [] := va_S.rf
  have hl := lv_entry ([.ref h0, .ref g0]) (n := 3) (Nat.le_of_ble_eq_true rfl)
  rw [lg_entry_eq]
  generalize (lg_sl ([.ref h0, .ref g0]) ++ List.replicate (3 - (lg_sl ([.ref h0, .ref g0])).length) Slot.unset).toArray = ls at hl ⊢
  have hl : lv_has ls 3 [(0, .ref h0), (1, .ref g0)] := hl
  refine lv_aload_n hx hb dP_hasSameWords_0 rfl (lv_at hl 0 rfl) ?_
  refine va_get (D := (dC, dI)) (ci := 0) (C := rP) (T := tP) (N := 3) hx hb hA inP hown hK hP 0 rfl rfl 2 (by decide) (hA _ wi_34) (fun _ h9 => h9) rfl dP_hasSameWords_1 ?_
  refine lv_aload_n hx hb dP_hasSameWords_4 rfl (lv_at hl 1 rfl) ?_
  refine va_get (D := (dC, dI)) (ci := 0) (C := rP) (T := tP) (N := 3) hx hb hA inP hown hK hP 2 rfl rfl 2 (by decide) (hA _ wi_34) (fun _ h9 => h9) rfl dP_hasSameWords_5 ?_
  refine lv_icmp_eq (tgt := 13) hx hb dP_hasSameWords_8 (by decide) (fun c_8 => ?_) (fun c_8 => ?_)
  · refine lv_iconst (v := 0) hx hb dP_hasSameWords_13 (by decide) ?_
    refine lv_istore_n (lv' := [(2, .int 0), (0, .ref h0), (1, .ref g0)]) hx hb dP_hasSameWords_14 rfl hl (by decide) rfl (fun ls hl => ?_)
    have loop : ∀ (n9 : Nat) (i : Nat) (H : Heap) (locs : List Loc) (ls : Array Slot), pg_lim n - i < n9 → (i ≤ pg_lim n) → (∀ j, j < i → ws j = ws' j) → va_P (dC, dI) vwCl [(h0, .inr (0, [.ref w0, .ref o0, .int n])), (w0, .inl (cI, 48, .inl ws)), (g0, .inr (0, [.ref gw, .ref go, .int n'])), (gw, .inl (cI, 48, .inl ws'))] H → va_S (fun _ => False) s.heap H locs → lv_has ls 3 [(2, .int (nI i)), (0, .ref h0), (1, .ref g0)] → W p l e (headSpec (.code yP_hasSameWords cP_hasSameWords 3 (some .boolean) :: wA) ({ frames := 0, cells := 0, slots := 0, locals := 0 })).room s m ([.ref h0, .ref g0]).toArray below meth c H locs 0 0 (MQ below (sp_QRi (pg_same ws n ws' n')) ([.ref h0, .ref g0]).toArray s 0 0 (fun _ => False)) (F0 m 15 ls []) := by
      intro n9
      induction n9 with
      | zero => intro i H locs ls hm9 hiM hsm hP hS hl; exact absurd hm9 (Nat.not_lt_zero _)
      | succ n9 ih =>
        intro i H locs ls hm9 hiM hsm hP hS hl
        have h48 := pg_lim_48 n
        refine lv_iload_n hx hb dP_hasSameWords_15 rfl (lv_at hl 0 rfl) ?_
        refine lv_aload_n hx hb dP_hasSameWords_16 rfl (lv_at hl 1 rfl) ?_
        refine va_get (D := (dC, dI)) (ci := 0) (C := rP) (T := tP) (N := 3) hx hb hA inP hown hK hP 0 rfl rfl 2 (by decide) (hA _ wi_34) (fun _ h9 => h9) rfl dP_hasSameWords_17 ?_
        refine lv_icmp_ge (tgt := 52) hx hb dP_hasSameWords_20 (by decide) (fun c_20 => ?_) (fun c_20 => ?_)
        · refine lv_iconst (v := 1) hx hb dP_hasSameWords_52 (by decide) ?_
          exact W.zret hx hb hr rfl (sp_eRi (by rw [pg_same, if_pos]; exact ⟨c_8, fun j hj => hsm j (Nat.lt_of_lt_of_le hj (pg_lim_le1 (by have := pg_lim_48 n; omega) c_20))⟩) hS) hS.2.2 dP_hasSameWords_53
        · refine lv_iload_n hx hb dP_hasSameWords_23 rfl (lv_at hl 0 rfl) ?_
          refine lv_bipush (v := 48) hx hb dP_hasSameWords_24 (by decide) ?_
          refine lv_icmp_ge (tgt := 52) hx hb dP_hasSameWords_26 (by decide) (fun c_26 => ?_) (fun c_26 => ?_)
          · refine lv_iconst (v := 1) hx hb dP_hasSameWords_52 (by decide) ?_
            exact W.zret hx hb hr rfl (sp_eRi (by rw [pg_same, if_pos]; exact ⟨c_8, fun j hj => hsm j (Nat.lt_of_lt_of_le hj (pg_lim_le2 (by have := pg_lim_48 n; omega) c_26))⟩) hS) hS.2.2 dP_hasSameWords_53
          · refine lv_aload_n hx hb dP_hasSameWords_29 rfl (lv_at hl 1 rfl) ?_
            refine va_get (D := (dC, dI)) (ci := 0) (C := rP) (T := tP) (N := 3) hx hb hA inP hown hK hP 0 rfl rfl 0 (by decide) (hA _ wi_32) (fun _ h9 => h9) rfl dP_hasSameWords_30 ?_
            refine lv_iload_n hx hb dP_hasSameWords_33 rfl (lv_at hl 0 rfl) ?_
            refine va_iald hx hb hK hP 1 0 rfl rfl (vp_in_nI (cl_48 (by have := pg_lim_48 n; omega) c_26) (by decide)) dP_hasSameWords_34 ?_
            refine lv_aload_n hx hb dP_hasSameWords_35 rfl (lv_at hl 2 rfl) ?_
            refine va_get (D := (dC, dI)) (ci := 0) (C := rP) (T := tP) (N := 3) hx hb hA inP hown hK hP 2 rfl rfl 0 (by decide) (hA _ wi_32) (fun _ h9 => h9) rfl dP_hasSameWords_36 ?_
            refine lv_iload_n hx hb dP_hasSameWords_39 rfl (lv_at hl 0 rfl) ?_
            refine va_iald hx hb hK hP 3 0 rfl rfl (vp_in_nI (cl_48 (by have := pg_lim_48 n; omega) c_26) (by decide)) dP_hasSameWords_40 ?_
            refine lv_icmp_eq (tgt := 46) hx hb dP_hasSameWords_41 (by decide) (fun c_41 => ?_) (fun c_41 => ?_)
            · refine lv_iinc (v := ((nI i) + 1)) (lv' := [(2, .int ((nI i) + 1)), (0, .ref h0), (1, .ref g0)]) hx hb dP_hasSameWords_46 hl (k := 0) rfl rfl (by decide) rfl (fun ls hl => ?_)
              refine lv_goto (tgt := 15) hx hb dP_hasSameWords_49 (by decide) ?_
              have hi := pg_lim_lt (show i < 2 ^ 31 by have := pg_lim_48 n; omega) c_20 c_26
              have e1 : (nI i).toNatClampNeg = i := nI_clamp (by omega)
              rw [e1] at c_41
              refine ih (i + 1) H locs ls (by omega) (by omega) (lt_s hsm c_41) hP hS ?_
              have h9 := lv_sub hl [0, 1, 2] rfl
              rw [nI_1] at h9
              exact h9
            · refine lv_iconst (v := 0) hx hb dP_hasSameWords_44 (by decide) ?_
              exact W.zret hx hb hr rfl (sp_eRi (by rw [nI_clamp (by have := pg_lim_48 n; omega)] at c_41; rw [pg_same, if_neg]; exact fun q => c_41 (q.2 i (pg_lim_lt (by have := pg_lim_48 n; omega) c_20 c_26))) hS) hS.2.2 dP_hasSameWords_45
    exact loop ((pg_lim n - 0) + 1) 0 _ _ ls (Nat.lt_succ_self _) (Nat.zero_le _) lt_0 hP hS (lv_sub hl [0, 1, 2] rfl)
  · refine lv_iconst (v := 0) hx hb dP_hasSameWords_11 (by decide) ?_
    exact W.zret hx hb hr rfl (sp_eRi (by simp [pg_same, c_8]) hS) hS.2.2 dP_hasSameWords_12
set_option maxHeartbeats 4000000 in
set_option maxRecDepth 100000 in
theorem kP_leaveOut (l : Launch) (dC : Nat → ClassId) (dI : Nat → Nat → Nat) (cI cQ : ClassId) (h0 w0 o0 : Nat) (n : Int32) (ws os : Nat → Int32) (k many : Int32) (sz : Nat)  : Met l yP_leaveOut (.code yP_leaveOut cP_leaveOut 5 none :: wA) ({ frames := 1, cells := 0, slots := 0, locals := 21 }) (sp_P (dC, dI) (kT cI cQ) [.ref h0, .int k, .int many] [(h0, .inr (0, [.ref w0, .ref o0, .int n])), (w0, .inl (cI, 48, .inl ws)), (o0, .inl (cI, 48, .inl os))] sz) (sp_QWv (dC, dI) [(h0, .inr (0, [.ref w0, .ref o0, .int (pg_loN ws os n k many)])), (w0, .inl (cI, 48, .inl (pg_loW ws os n k many))), (o0, .inl (cI, 48, .inl (pg_loO ws os n k many)))] (va_A [(h0, .inr (0, [.ref w0, .ref o0, .int n])), (w0, .inl (cI, 48, .inl ws)), (o0, .inl (cI, 48, .inl os))] sz)) 0 0 (va_A [(h0, .inr (0, [.ref w0, .ref o0, .int n])), (w0, .inl (cI, 48, .inl ws)), (o0, .inl (cI, 48, .inl os))] sz) := by
  refine Met.ofW (cc := cP_leaveOut) (maxL := 5) (ret := none) (by decide) rfl ?_
  intro p e s m args below meth c s₁ B hml hv
  obtain ⟨rfl, hsz, hP, hK, hD0, hG⟩ := hv
  have hx := B.exec
  have hb := B.bytes
  have hr := B.returns
  have hA := sp_hA (atoms_spec (ws := (.code yP_leaveOut cP_leaveOut 5 none :: wA)) B.pre)
  have hown : s.vm.findClass rP = some m.cls := findClass_of_methodNamed B.named
  have hlocks := B.notSynchronized
  subst hsz
  have hD := hD0.self (sz := s.heap.size)
  generalize hAe : va_A [(h0, .inr (0, [.ref w0, .ref o0, .int n])), (w0, .inl (cI, 48, .inl ws)), (o0, .inl (cI, 48, .inl os))] s.heap.size = A at hD ⊢
  have hF : ∀ q : Nat, s.heap.size ≤ q → A q := fun q h => by rw [← hAe]; exact Or.inr h
  have hS : va_S A s.heap s.heap [] := va_S.rf
  have hl := lv_entry ([.ref h0, .int k, .int many]) (n := 5) (Nat.le_of_ble_eq_true rfl)
  rw [lg_entry_eq]
  generalize (lg_sl ([.ref h0, .int k, .int many]) ++ List.replicate (5 - (lg_sl ([.ref h0, .int k, .int many])).length) Slot.unset).toArray = ls at hl ⊢
  have hl : lv_has ls 5 [(0, .ref h0), (1, .int k), (2, .int many)] := hl
  refine lv_aload_n hx hb dP_leaveOut_0 rfl (lv_at hl 0 rfl) ?_
  refine lv_iload_n hx hb dP_leaveOut_1 rfl (lv_at hl 1 rfl) ?_
  refine va_calli (va_runV (As := [.int k]) (rest := []) ⟨hx, hb, hml, hown, hA⟩ (kP_has l dC dI cI cQ h0 w0 o0 n k) (cwV 1 hA (gd_V wi_325 wi_304 wi_305 wi_3 wi_306) rfl rfl rfl (by decide +kernel) ⟨Nat.le_of_ble_eq_true rfl, Nat.le_of_ble_eq_true rfl⟩) ⟨sp_Rb, va_recv hK hP (ci := 0) (q0 := 0) rfl rfl, sp_Ro (hP.sub [0] rfl) hK hG⟩ rfl rfl hl.1 rfl (lv_room (Nat.le_of_ble_eq_true rfl)) dP_leaveOut_2 ⟨Nat.le_of_ble_eq_true rfl, Nat.le_of_ble_eq_true rfl⟩) hS (fun _ _ h => h.elim) (fun _ h => h.elim) (fun r_2 u_2 t H locs ht hvm hw hB hz1 hk1 hS => ?_)
  subst hw
  have hP := sp_kp hP hk1
  refine lv_if_eq (tgt := 13) hx hb dP_leaveOut_5 (by decide) (fun c_5 => ?_) (fun c_5 => ?_)
  · have hPe : va_P (dC, dI) vwCl [(h0, .inr (0, [.ref w0, .ref o0, .int (pg_loN ws os n k many)])), (w0, .inl (cI, 48, .inl (pg_loW ws os n k many))), (o0, .inl (cI, 48, .inl (pg_loO ws os n k many)))] H := by simpa [pg_loN, pg_loW, pg_loO, c_5] using hP
    have hDe : va_D A [(h0, .inr (0, [.ref w0, .ref o0, .int (pg_loN ws os n k many)])), (w0, .inl (cI, 48, .inl (pg_loW ws os n k many))), (o0, .inl (cI, 48, .inl (pg_loO ws os n k many)))] := sp_Dc hD rfl
    exact W.vret hx hb hr (sp_eWv hPe hDe hS) hS.2.2 dP_leaveOut_13
  · refine lv_iload_n hx hb dP_leaveOut_8 rfl (lv_at hl 2 rfl) ?_
    refine lv_iconst (v := 1) hx hb dP_leaveOut_9 (by decide) ?_
    refine lv_icmp_ge (tgt := 14) hx hb dP_leaveOut_10 (by decide) (fun c_10 => ?_) (fun c_10 => ?_)
    · refine lv_iload_n hx hb dP_leaveOut_14 rfl (lv_at hl 1 rfl) ?_
      refine lv_istore_n (lv' := [(3, .int k), (0, .ref h0), (1, .int k), (2, .int many)]) hx hb dP_leaveOut_15 rfl hl (by decide) rfl (fun ls hl => ?_)
      refine lv_iload_n hx hb dP_leaveOut_16 rfl (lv_at hl 2 rfl) ?_
      refine lv_istore (lv' := [(4, .int k), (3, .int k), (0, .ref h0), (1, .int k), (2, .int many)]) hx hb dP_leaveOut_17 hl (by decide) rfl (fun ls hl => ?_)
      obtain ⟨a, ha48, han, hk⟩ := pg_has_nI c_5
      have hal : a < pg_lim n := by unfold pg_lim; omega
      have hl48 := pg_lim_48 n
      have loop : ∀ (n9 : Nat) (d : Nat) (H : Heap) (locs : List Loc) (ls : Array Slot), pg_lim n - (a + d) < n9 → (a + d ≤ pg_lim n) → va_P (dC, dI) vwCl [(h0, .inr (0, [.ref w0, .ref o0, .int n])), (w0, .inl (cI, 48, .inl ((pg_lo ws os a many d).2.1))), (o0, .inl (cI, 48, .inl ((pg_lo ws os a many d).2.2)))] H → va_D A [(h0, .inr (0, [.ref w0, .ref o0, .int n])), (w0, .inl (cI, 48, .inl ((pg_lo ws os a many d).2.1))), (o0, .inl (cI, 48, .inl ((pg_lo ws os a many d).2.2)))] → va_S A s.heap H locs → lv_has ls 5 [(4, .int (nI (a + d))), (3, .int (nI (pg_lo ws os a many d).1)), (0, .ref h0), (1, .int (nI a)), (2, .int many)] → W p l e (headSpec (.code yP_leaveOut cP_leaveOut 5 none :: wA) ({ frames := 1, cells := 0, slots := 0, locals := 21 })).room s m ([.ref h0, .int k, .int many]).toArray below meth c H locs 0 0 (MQ below (sp_QWv (dC, dI) [(h0, .inr (0, [.ref w0, .ref o0, .int (pg_loN ws os n k many)])), (w0, .inl (cI, 48, .inl (pg_loW ws os n k many))), (o0, .inl (cI, 48, .inl (pg_loO ws os n k many)))] A) ([.ref h0, .int k, .int many]).toArray s 0 0 A) (F0 m 19 ls []) := by
        intro n9
        induction n9 with
        | zero => intro d H locs ls hm9 hdM hP hD hS hl; exact absurd hm9 (Nat.not_lt_zero _)
        | succ n9 ih =>
          intro d H locs ls hm9 hdM hP hD hS hl
          refine lv_iload hx hb dP_leaveOut_19 (lv_at hl 0 rfl) ?_
          refine lv_aload_n hx hb dP_leaveOut_21 rfl (lv_at hl 2 rfl) ?_
          refine va_get (D := (dC, dI)) (ci := 0) (C := rP) (T := tP) (N := 3) hx hb hA inP hown hK hP 0 rfl rfl 2 (by decide) (hA _ wi_34) (fun _ h9 => h9) rfl dP_leaveOut_22 ?_
          refine lv_icmp_ge (tgt := 78) hx hb dP_leaveOut_25 (by decide) (fun c_25 => ?_) (fun c_25 => ?_)
          · refine lv_aload_n hx hb dP_leaveOut_78 rfl (lv_at hl 2 rfl) ?_
            refine lv_iload_n hx hb dP_leaveOut_79 rfl (lv_at hl 1 rfl) ?_
            refine va_put (D := (dC, dI)) (ci := 0) (v := .int (nI (pg_lo ws os a many d).1)) (ty := .int) (C := rP) (T := tP) (N := 3) hx hb hA inP tyP tyP_ok nmP hown hK hP hD hS 0 rfl rfl 2 (by decide) (hA _ wi_34) (fun _ h9 => h9) rfl (by decide +kernel) rfl rfl (Nat.le_of_ble_eq_true rfl) dP_leaveOut_80 (fun H locs hP hD hS => ?_)
            have hP : va_P (dC, dI) vwCl [(h0, .inr (0, [.ref w0, .ref o0, .int (nI (pg_lo ws os a many d).1)])), (w0, .inl (cI, 48, .inl ((pg_lo ws os a many d).2.1))), (o0, .inl (cI, 48, .inl ((pg_lo ws os a many d).2.2)))] H := hP
            have hD : va_D A [(h0, .inr (0, [.ref w0, .ref o0, .int (nI (pg_lo ws os a many d).1)])), (w0, .inl (cI, 48, .inl ((pg_lo ws os a many d).2.1))), (o0, .inl (cI, 48, .inl ((pg_lo ws os a many d).2.2)))] := hD
            have e9 : d = pg_lim n - a := by have := pg_lim_le1 (show a + d < 2 ^ 31 by omega) c_25; omega
            have ek : k.toNatClampNeg = a := by rw [hk]; exact nI_clamp (by omega)
            have hPe : va_P (dC, dI) vwCl [(h0, .inr (0, [.ref w0, .ref o0, .int (pg_loN ws os n k many)])), (w0, .inl (cI, 48, .inl (pg_loW ws os n k many))), (o0, .inl (cI, 48, .inl (pg_loO ws os n k many)))] H := by simp only [pg_loN, pg_loW, pg_loO, if_neg c_5, if_neg (not_not_intro c_10), pg_loR, ek, ← e9]; exact hP
            have hDe : va_D A [(h0, .inr (0, [.ref w0, .ref o0, .int (pg_loN ws os n k many)])), (w0, .inl (cI, 48, .inl (pg_loW ws os n k many))), (o0, .inl (cI, 48, .inl (pg_loO ws os n k many)))] := sp_Dc hD rfl
            exact W.vret hx hb hr (sp_eWv hPe hDe hS) hS.2.2 dP_leaveOut_83
          · refine lv_iload hx hb dP_leaveOut_28 (lv_at hl 0 rfl) ?_
            refine lv_bipush (v := 48) hx hb dP_leaveOut_30 (by decide) ?_
            refine lv_icmp_ge (tgt := 78) hx hb dP_leaveOut_32 (by decide) (fun c_32 => ?_) (fun c_32 => ?_)
            · refine lv_aload_n hx hb dP_leaveOut_78 rfl (lv_at hl 2 rfl) ?_
              refine lv_iload_n hx hb dP_leaveOut_79 rfl (lv_at hl 1 rfl) ?_
              refine va_put (D := (dC, dI)) (ci := 0) (v := .int (nI (pg_lo ws os a many d).1)) (ty := .int) (C := rP) (T := tP) (N := 3) hx hb hA inP tyP tyP_ok nmP hown hK hP hD hS 0 rfl rfl 2 (by decide) (hA _ wi_34) (fun _ h9 => h9) rfl (by decide +kernel) rfl rfl (Nat.le_of_ble_eq_true rfl) dP_leaveOut_80 (fun H locs hP hD hS => ?_)
              have hP : va_P (dC, dI) vwCl [(h0, .inr (0, [.ref w0, .ref o0, .int (nI (pg_lo ws os a many d).1)])), (w0, .inl (cI, 48, .inl ((pg_lo ws os a many d).2.1))), (o0, .inl (cI, 48, .inl ((pg_lo ws os a many d).2.2)))] H := hP
              have hD : va_D A [(h0, .inr (0, [.ref w0, .ref o0, .int (nI (pg_lo ws os a many d).1)])), (w0, .inl (cI, 48, .inl ((pg_lo ws os a many d).2.1))), (o0, .inl (cI, 48, .inl ((pg_lo ws os a many d).2.2)))] := hD
              have e9 : d = pg_lim n - a := by have := pg_lim_le2 (n := n) (show a + d < 2 ^ 31 by omega) c_32; omega
              have ek : k.toNatClampNeg = a := by rw [hk]; exact nI_clamp (by omega)
              have hPe : va_P (dC, dI) vwCl [(h0, .inr (0, [.ref w0, .ref o0, .int (pg_loN ws os n k many)])), (w0, .inl (cI, 48, .inl (pg_loW ws os n k many))), (o0, .inl (cI, 48, .inl (pg_loO ws os n k many)))] H := by simp only [pg_loN, pg_loW, pg_loO, if_neg c_5, if_neg (not_not_intro c_10), pg_loR, ek, ← e9]; exact hP
              have hDe : va_D A [(h0, .inr (0, [.ref w0, .ref o0, .int (pg_loN ws os n k many)])), (w0, .inl (cI, 48, .inl (pg_loW ws os n k many))), (o0, .inl (cI, 48, .inl (pg_loO ws os n k many)))] := sp_Dc hD rfl
              exact W.vret hx hb hr (sp_eWv hPe hDe hS) hS.2.2 dP_leaveOut_83
            · refine lv_iload hx hb dP_leaveOut_35 (lv_at hl 0 rfl) ?_
              refine lv_iload_n hx hb dP_leaveOut_37 rfl (lv_at hl 3 rfl) ?_
              refine lv_isub hx hb dP_leaveOut_38 ?_
              refine lv_iload_n hx hb dP_leaveOut_39 rfl (lv_at hl 4 rfl) ?_
              refine lv_icmp_lt (tgt := 72) hx hb dP_leaveOut_40 (by decide) (fun c_40 => ?_) (fun c_40 => ?_)
              · refine lv_iinc (v := ((nI (a + d)) + 1)) (lv' := [(4, .int ((nI (a + d)) + 1)), (3, .int (nI (pg_lo ws os a many d).1)), (0, .ref h0), (1, .int (nI a)), (2, .int many)]) hx hb dP_leaveOut_72 hl (k := 0) rfl rfl (by decide) rfl (fun ls hl => ?_)
                refine lv_goto (tgt := 19) hx hb dP_leaveOut_75 (by decide) ?_
                have hd1 := pg_lim_lt (show a + d < 2 ^ 31 by omega) c_25 c_32
                have e2 := pg_lo_s1 ws os c_40
                refine ih (d + 1) H locs ls (by omega) (by omega) (by rw [e2]; exact hP) (sp_Dc hD rfl) hS ?_
                have h9 := lv_sub hl [0, 1, 2, 3, 4] rfl
                rw [nI_1] at h9
                rw [e2]
                exact h9
              · refine lv_aload_n hx hb dP_leaveOut_43 rfl (lv_at hl 2 rfl) ?_
                refine va_get (D := (dC, dI)) (ci := 0) (C := rP) (T := tP) (N := 3) hx hb hA inP hown hK hP 0 rfl rfl 0 (by decide) (hA _ wi_32) (fun _ h9 => h9) rfl dP_leaveOut_44 ?_
                refine lv_iload_n hx hb dP_leaveOut_47 rfl (lv_at hl 1 rfl) ?_
                refine lv_aload_n hx hb dP_leaveOut_48 rfl (lv_at hl 2 rfl) ?_
                refine va_get (D := (dC, dI)) (ci := 0) (C := rP) (T := tP) (N := 3) hx hb hA inP hown hK hP 0 rfl rfl 0 (by decide) (hA _ wi_32) (fun _ h9 => h9) rfl dP_leaveOut_49 ?_
                refine lv_iload hx hb dP_leaveOut_52 (lv_at hl 0 rfl) ?_
                refine va_iald hx hb hK hP 1 0 rfl rfl (vp_in_nI (cl_48 (show a + d < 2 ^ 31 by omega) c_32) (by decide)) dP_leaveOut_54 ?_
                refine va_iast hx hb hK hP hD hS 1 0 rfl rfl (vp_in_nI (show (pg_lo ws os a many d).1 < 48 by have := pg_lo_le ws os a many d; have := cl_48 (show a + d < 2 ^ 31 by omega) c_32; omega) (by decide)) dP_leaveOut_55 (fun H locs hP hD hS => ?_)
                have hP : va_P (dC, dI) vwCl [(h0, .inr (0, [.ref w0, .ref o0, .int n])), (w0, .inl (cI, 48, .inl (upd ((pg_lo ws os a many d).2.1) (Int32.toNatClampNeg (nI (pg_lo ws os a many d).1)) (((pg_lo ws os a many d).2.1) (Int32.toNatClampNeg (nI (a + d))))))), (o0, .inl (cI, 48, .inl ((pg_lo ws os a many d).2.2)))] H := hP
                have hD : va_D A [(h0, .inr (0, [.ref w0, .ref o0, .int n])), (w0, .inl (cI, 48, .inl (upd ((pg_lo ws os a many d).2.1) (Int32.toNatClampNeg (nI (pg_lo ws os a many d).1)) (((pg_lo ws os a many d).2.1) (Int32.toNatClampNeg (nI (a + d))))))), (o0, .inl (cI, 48, .inl ((pg_lo ws os a many d).2.2)))] := hD
                refine lv_aload_n hx hb dP_leaveOut_56 rfl (lv_at hl 2 rfl) ?_
                refine va_get (D := (dC, dI)) (ci := 0) (C := rP) (T := tP) (N := 3) hx hb hA inP hown hK hP 0 rfl rfl 1 (by decide) (hA _ wi_33) (fun _ h9 => h9) rfl dP_leaveOut_57 ?_
                refine lv_iload_n hx hb dP_leaveOut_60 rfl (lv_at hl 1 rfl) ?_
                refine lv_aload_n hx hb dP_leaveOut_61 rfl (lv_at hl 2 rfl) ?_
                refine va_get (D := (dC, dI)) (ci := 0) (C := rP) (T := tP) (N := 3) hx hb hA inP hown hK hP 0 rfl rfl 1 (by decide) (hA _ wi_33) (fun _ h9 => h9) rfl dP_leaveOut_62 ?_
                refine lv_iload hx hb dP_leaveOut_65 (lv_at hl 0 rfl) ?_
                refine va_iald hx hb hK hP 2 0 rfl rfl (vp_in_nI (cl_48 (show a + d < 2 ^ 31 by omega) c_32) (by decide)) dP_leaveOut_67 ?_
                refine va_iast hx hb hK hP hD hS 2 0 rfl rfl (vp_in_nI (show (pg_lo ws os a many d).1 < 48 by have := pg_lo_le ws os a many d; have := cl_48 (show a + d < 2 ^ 31 by omega) c_32; omega) (by decide)) dP_leaveOut_68 (fun H locs hP hD hS => ?_)
                have hP : va_P (dC, dI) vwCl [(h0, .inr (0, [.ref w0, .ref o0, .int n])), (w0, .inl (cI, 48, .inl (upd ((pg_lo ws os a many d).2.1) (Int32.toNatClampNeg (nI (pg_lo ws os a many d).1)) (((pg_lo ws os a many d).2.1) (Int32.toNatClampNeg (nI (a + d))))))), (o0, .inl (cI, 48, .inl (upd ((pg_lo ws os a many d).2.2) (Int32.toNatClampNeg (nI (pg_lo ws os a many d).1)) (((pg_lo ws os a many d).2.2) (Int32.toNatClampNeg (nI (a + d)))))))] H := hP
                have hD : va_D A [(h0, .inr (0, [.ref w0, .ref o0, .int n])), (w0, .inl (cI, 48, .inl (upd ((pg_lo ws os a many d).2.1) (Int32.toNatClampNeg (nI (pg_lo ws os a many d).1)) (((pg_lo ws os a many d).2.1) (Int32.toNatClampNeg (nI (a + d))))))), (o0, .inl (cI, 48, .inl (upd ((pg_lo ws os a many d).2.2) (Int32.toNatClampNeg (nI (pg_lo ws os a many d).1)) (((pg_lo ws os a many d).2.2) (Int32.toNatClampNeg (nI (a + d)))))))] := hD
                refine lv_iinc (v := ((nI (pg_lo ws os a many d).1) + 1)) (lv' := [(3, .int ((nI (pg_lo ws os a many d).1) + 1)), (4, .int (nI (a + d))), (0, .ref h0), (1, .int (nI a)), (2, .int many)]) hx hb dP_leaveOut_69 hl (k := 1) rfl rfl (by decide) rfl (fun ls hl => ?_)
                refine lv_iinc (v := ((nI (a + d)) + 1)) (lv' := [(4, .int ((nI (a + d)) + 1)), (3, .int ((nI (pg_lo ws os a many d).1) + 1)), (0, .ref h0), (1, .int (nI a)), (2, .int many)]) hx hb dP_leaveOut_72 hl (k := 1) rfl rfl (by decide) rfl (fun ls hl => ?_)
                refine lv_goto (tgt := 19) hx hb dP_leaveOut_75 (by decide) ?_
                have hd1 := pg_lim_lt (show a + d < 2 ^ 31 by omega) c_25 c_32
                have e1 : (nI (a + d)).toNatClampNeg = a + d := nI_clamp (by omega)
                have e3 : (nI (pg_lo ws os a many d).1).toNatClampNeg = (pg_lo ws os a many d).1 := nI_clamp (by have := pg_lo_le ws os a many d; omega)
                rw [e1, e3] at hP
                have e2 := pg_lo_s2 ws os c_40
                refine ih (d + 1) H locs ls (by omega) (by omega) (by rw [e2]; exact hP) (sp_Dc hD rfl) hS ?_
                have h9 := lv_sub hl [0, 1, 2, 3, 4] rfl
                rw [nI_1, nI_1] at h9
                rw [e2]
                exact h9
      exact loop ((pg_lim n - (a + 0)) + 1) 0 _ _ ls (Nat.lt_succ_self _) (Nat.le_of_lt hal) hP (sp_Dc hD rfl) hS (by have h9 := lv_sub hl [0, 1, 2, 3, 4] rfl; rw [hk] at h9; exact h9)
    · have hPe : va_P (dC, dI) vwCl [(h0, .inr (0, [.ref w0, .ref o0, .int (pg_loN ws os n k many)])), (w0, .inl (cI, 48, .inl (pg_loW ws os n k many))), (o0, .inl (cI, 48, .inl (pg_loO ws os n k many)))] H := by simpa [pg_loN, pg_loW, pg_loO, c_5, c_10] using hP
      have hDe : va_D A [(h0, .inr (0, [.ref w0, .ref o0, .int (pg_loN ws os n k many)])), (w0, .inl (cI, 48, .inl (pg_loW ws os n k many))), (o0, .inl (cI, 48, .inl (pg_loO ws os n k many)))] := sp_Dc hD rfl
      exact W.vret hx hb hr (sp_eWv hPe hDe hS) hS.2.2 dP_leaveOut_13
set_option maxHeartbeats 4000000 in
set_option maxRecDepth 100000 in
theorem kP_init (l : Launch) (dC : Nat → ClassId) (dI : Nat → Nat → Nat) (cI cQ : ClassId) (h0 : Nat) (sz : Nat)  : Met l yP_init (.code yP_init cP_init 1 none :: wA) ({ frames := 1, cells := 2, slots := 96, locals := 12 }) (sp_P (dC, dI) (kT cI cQ) [.ref h0] [(h0, .inr (0, [.null, .null, .int 0]))] sz) (va_Qv (fun (_ : Nat × Nat) => True) (fun u t => va_P (dC, dI) vwCl [(h0, .inr (0, [.ref u.1, .ref u.2, .int 0])), (u.1, .inl (cI, 48, .inl (fun _ => 0))), (u.2, .inl (cI, 48, .inl (fun _ => 0)))] t.heap ∧ va_D (va_A [(h0, .inr (0, [.null, .null, .int 0]))] sz) [(h0, .inr (0, [.ref u.1, .ref u.2, .int 0])), (u.1, .inl (cI, 48, .inl (fun _ => 0))), (u.2, .inl (cI, 48, .inl (fun _ => 0)))]) (va_A [(h0, .inr (0, [.null, .null, .int 0]))] sz)) 2 96 (va_A [(h0, .inr (0, [.null, .null, .int 0]))] sz) := by
  refine Met.ofW (cc := cP_init) (maxL := 1) (ret := none) (by decide) rfl ?_
  intro p e s m args below meth c s₁ B hml hv
  obtain ⟨rfl, hsz, hP, hK, hD0, hG⟩ := hv
  have hx := B.exec
  have hb := B.bytes
  have hr := B.returns
  have hA := sp_hA (atoms_spec (ws := (.code yP_init cP_init 1 none :: wA)) B.pre)
  have hown : s.vm.findClass rP = some m.cls := findClass_of_methodNamed B.named
  have hlocks := B.notSynchronized
  have hin : meth.name = "<init>" := (name_of_methodNamed B.named B.method).1
  subst hsz
  have hD := hD0.self (sz := s.heap.size)
  generalize hAe : va_A [(h0, .inr (0, [.null, .null, .int 0]))] s.heap.size = A at hD ⊢
  have hF : ∀ q : Nat, s.heap.size ≤ q → A q := fun q h => by rw [← hAe]; exact Or.inr h
  have hS : va_S A s.heap s.heap [] := va_S.rf
  have hl := lv_entry ([.ref h0]) (n := 1) (Nat.le_of_ble_eq_true rfl)
  rw [lg_entry_eq]
  generalize (lg_sl ([.ref h0]) ++ List.replicate (1 - (lg_sl ([.ref h0])).length) Slot.unset).toArray = ls at hl ⊢
  have hl : lv_has ls 1 [(0, .ref h0)] := hl
  refine lv_aload_n hx hb dP_init_0 rfl (lv_at hl 0 rfl) ?_
  refine W.objInit hx hb hown (hA _ wi_31) (hA _ wi_21) (hA _ wi_22) rfl (by rw [hml]; exact hl.1) rfl dP_init_1 (Nat.le_of_ble_eq_true rfl) (Nat.le_of_ble_eq_true rfl) ?_
  refine W.eq (g2 := F0 m 4 ls []) rfl ?_
  refine lv_aload_n hx hb dP_init_4 rfl (lv_at hl 0 rfl) ?_
  refine lv_bipush (v := 48) hx hb dP_init_5 (by decide) ?_
  refine va_newa (atype := .int) (a0 := (48, .inl (fun _ => 0))) hx hb (hA _ wi_42) rfl hK hP hD hS hF (fun _ => rfl) (by decide) (by decide) (by decide) (Nat.le_of_ble_eq_true rfl) (Nat.le_of_ble_eq_true rfl) dP_init_7 (fun q7 cA H hK hP hD hS => ?_)
  obtain rfl := sp_cI hK
  have hK := hK.sub [0, 1] rfl
  have hP : va_P (dC, dI) vwCl [(h0, .inr (0, [.null, .null, .int 0])), (q7, .inl (cI, 48, .inl (fun _ => 0)))] H := hP
  have hD : va_D A [(h0, .inr (0, [.null, .null, .int 0])), (q7, .inl (cI, 48, .inl (fun _ => 0)))] := hD
  refine va_putF (D := (dC, dI)) (ci := 0) (v := .ref q7) (ty := .array .int) (C := rP) (T := tP) (N := 3) hx hb hA inP tyP tyP_ok nmP hown hK hP hD hS 0 rfl rfl 0 (by decide) (hA _ wi_32) (fun _ h9 => h9) rfl hin rfl (by decide +kernel) rfl rfl (Nat.le_of_ble_eq_true rfl) dP_init_9 (fun H locs hP hD hS => ?_)
  have hP : va_P (dC, dI) vwCl [(h0, .inr (0, [.ref q7, .null, .int 0])), (q7, .inl (cI, 48, .inl (fun _ => 0)))] H := hP
  have hD : va_D A [(h0, .inr (0, [.ref q7, .null, .int 0])), (q7, .inl (cI, 48, .inl (fun _ => 0)))] := hD
  refine lv_aload_n hx hb dP_init_12 rfl (lv_at hl 0 rfl) ?_
  refine lv_bipush (v := 48) hx hb dP_init_13 (by decide) ?_
  refine va_newa (atype := .int) (a0 := (48, .inl (fun _ => 0))) hx hb (hA _ wi_42) rfl hK hP hD hS hF (fun _ => rfl) (by decide) (by decide) (by decide) (Nat.le_of_ble_eq_true rfl) (Nat.le_of_ble_eq_true rfl) dP_init_15 (fun q15 cA H hK hP hD hS => ?_)
  obtain rfl := sp_cI hK
  have hK := hK.sub [0, 1] rfl
  have hP : va_P (dC, dI) vwCl [(h0, .inr (0, [.ref q7, .null, .int 0])), (q7, .inl (cI, 48, .inl (fun _ => 0))), (q15, .inl (cI, 48, .inl (fun _ => 0)))] H := hP
  have hD : va_D A [(h0, .inr (0, [.ref q7, .null, .int 0])), (q7, .inl (cI, 48, .inl (fun _ => 0))), (q15, .inl (cI, 48, .inl (fun _ => 0)))] := hD
  refine va_putF (D := (dC, dI)) (ci := 0) (v := .ref q15) (ty := .array .int) (C := rP) (T := tP) (N := 3) hx hb hA inP tyP tyP_ok nmP hown hK hP hD hS 0 rfl rfl 1 (by decide) (hA _ wi_33) (fun _ h9 => h9) rfl hin rfl (by decide +kernel) rfl rfl (Nat.le_of_ble_eq_true rfl) dP_init_17 (fun H locs hP hD hS => ?_)
  have hP : va_P (dC, dI) vwCl [(h0, .inr (0, [.ref q7, .ref q15, .int 0])), (q7, .inl (cI, 48, .inl (fun _ => 0))), (q15, .inl (cI, 48, .inl (fun _ => 0)))] H := hP
  have hD : va_D A [(h0, .inr (0, [.ref q7, .ref q15, .int 0])), (q7, .inl (cI, 48, .inl (fun _ => 0))), (q15, .inl (cI, 48, .inl (fun _ => 0)))] := hD
  have hPe : va_P (dC, dI) vwCl [(h0, .inr (0, [.ref q7, .ref q15, .int 0])), (q7, .inl (cI, 48, .inl (fun _ => 0))), (q15, .inl (cI, 48, .inl (fun _ => 0)))] H := by exact hP
  have hDe : va_D A [(h0, .inr (0, [.ref q7, .ref q15, .int 0])), (q7, .inl (cI, 48, .inl (fun _ => 0))), (q15, .inl (cI, 48, .inl (fun _ => 0)))] := sp_Dc hD rfl
  refine W.widen (k := 2) (n := 96) (by omega) (by omega) ?_
  exact W.vret hx hb hr (fun t ht _ => ⟨⟨(q7, q15), rfl, trivial, by rw [ht]; exact hPe, hDe⟩, hS.F ht⟩) hS.2.2 dP_init_20
end
section
-- WHAT Walk's METHODS COMPUTE: the walk is a function of its eight fields' places (step, piece, place, someLeftOut, wordPlace, bytePlace, someLowered, timesLeaving)
def wk_sgt (w : Nat → Int32) (x : Int32) : Nat → Int32 := upd (upd (upd w 1 x) 2 0) 3 0
def wk_sl (w : Nat → Int32) (x : Int32) : Nat → Int32 := wk_sgt (upd (upd w 7 (w 7 + 1)) 0 0) x
def wk_slow (w : Nat → Int32) : Nat → Int32 := upd (upd (upd (upd w 0 1) 4 0) 5 0) 6 0
def wk_next (w : Nat → Int32) : Nat → Int32 := if w 5 + 1 < 4 then upd (upd w 0 1) 5 (w 5 + 1) else upd (upd (upd (upd w 0 1) 5 (w 5 + 1)) 5 0) 4 (w 4 + 1)
def wk_pass (w : Nat → Int32) : Nat → Int32 := if w 0 = 0 then upd w 2 (w 2 + w 1) else if w 0 = 1 then upd w 0 2 else if w 0 = 2 then upd w 0 3 else wk_next w
def wk_go (w : Nat → Int32) : Nat → Int32 := if w 0 = 0 then upd w 3 1 else if w 0 = 1 then wk_next (upd w 6 1) else upd w 6 1
def wk_end (w : Nat → Int32) : Nat → Int32 := if w 1 ≤ 1 then (if w 3 = 0 then wk_slow w else wk_sgt w 1) else wk_sgt w (w 1 / 2)
def wk_lv (w : Nat → Int32) (v : Int32) : Int32 := if w 0 = 1 then 0 else if w 0 = 2 then v / 2 else v - 1
def wk_can (w : Nat → Int32) (v : Int32) : Int32 := if w 0 = 1 then (if v ≤ 0 then 0 else 1) else if wk_lv w v ≤ 0 then 0 else 1
def wk_low (w : Nat → Int32) : Int32 := if w 0 = 0 then 0 else 1
def ch_V (ws : Nat → Int32) (n : Int32) (w : Nat → Int32) : Int32 := wk_lv w (pg_byte ws n (w 4) (w 5))
def ch_W (ws os : Nat → Int32) (n : Int32) (w : Nat → Int32) : Nat → Int32 := if w 0 = 0 then pg_loW ws os n (w 2) (w 1) else pg_sbW ws n (w 4) (w 5) (ch_V ws n w)
def ch_O (ws os : Nat → Int32) (n : Int32) (w : Nat → Int32) : Nat → Int32 := if w 0 = 0 then pg_loO ws os n (w 2) (w 1) else os
def ch_N (ws os : Nat → Int32) (n : Int32) (w : Nat → Int32) : Int32 := if w 0 = 0 then pg_loN ws os n (w 2) (w 1) else n
/-- findChange, with so many turns left -/
def wk_fc (ws : Nat → Int32) (n : Int32) : Nat → (Nat → Int32) → (Nat → Int32) × Int32
  | 0, w => (w, 0)
  | k + 1, w => if w 0 = 0 then (if pg_hasI n (w 2) = 0 then wk_fc ws n k (wk_end w) else (w, 1)) else if pg_hasI n (w 4) = 0 then (if w 6 = 0 then (w, 0) else wk_fc ws n k (wk_sl w 1)) else if wk_can w (pg_byte ws n (w 4) (w 5)) = 0 then wk_fc ws n k (wk_pass w) else (w, 1)
theorem ml_lt {i : Nat} (hi : i < 2 ^ 31) (h : ¬ 1000000 ≤ nI i) : i < 1000000 := by
  have := cl_lt (x := 1000000) hi h
  have e : (1000000 : Int32).toNatClampNeg = 1000000 := by decide
  omega
theorem ml_le {i : Nat} (hi : i < 2 ^ 31) (h : 1000000 ≤ nI i) : 1000000 ≤ i := by
  have := cl_le (x := 1000000) hi h
  have e : (1000000 : Int32).toNatClampNeg = 1000000 := by decide
  omega
end
section
-- Walk: contracts (by wip/gen/walkc.py)
set_option maxHeartbeats 4000000 in
set_option maxRecDepth 100000 in
theorem kW_times (l : Launch) (dC : Nat → ClassId) (dI : Nat → Nat → Nat) (cI cQ : ClassId) (h0 : Nat) (w : Nat → Int32)  : Met l yW_timesLeaving (.code yW_timesLeaving cW_timesLeaving 1 (some .int) :: wA) ({ frames := 0, cells := 0, slots := 0, locals := 0 }) (sp_R (dC, dI) (kT cI cQ) [.ref h0] [(h0, .inr (3, [.int (w 0), .int (w 1), .int (w 2), .int (w 3), .int (w 4), .int (w 5), .int (w 6), .int (w 7)]))]) (sp_QRi (w 7)) 0 0 (fun _ => False) := by
  refine Met.ofW (cc := cW_timesLeaving) (maxL := 1) (ret := (some .int)) (by decide) rfl ?_
  intro p e s m args below meth c s₁ B hml hv
  obtain ⟨rfl, hP, hK, hG⟩ := hv
  have hx := B.exec
  have hb := B.bytes
  have hr := B.returns
  have hA := sp_hA (atoms_spec (ws := (.code yW_timesLeaving cW_timesLeaving 1 (some .int) :: wA)) B.pre)
  have hown : s.vm.findClass rW = some m.cls := findClass_of_methodNamed B.named
  have hlocks := B.notSynchronized
  have hS : va_S (fun _ => False) s.heap s.heap [] := va_S.rf
  have hl := lv_entry ([.ref h0]) (n := 1) (Nat.le_of_ble_eq_true rfl)
  rw [lg_entry_eq]
  generalize (lg_sl ([.ref h0]) ++ List.replicate (1 - (lg_sl ([.ref h0])).length) Slot.unset).toArray = ls at hl ⊢
  have hl : lv_has ls 1 [(0, .ref h0)] := hl
  refine lv_aload_n hx hb dW_timesLeaving_0 rfl (lv_at hl 0 rfl) ?_
  refine va_get (D := (dC, dI)) (ci := 3) (C := rW) (T := tW) (N := 8) hx hb hA inW hown hK hP 0 rfl rfl 7 (by decide) (hA _ wi_68) (fun _ h9 => h9) rfl dW_timesLeaving_1 ?_
  exact W.iret hx hb hr (sp_eRi (rfl) hS) hS.2.2 dW_timesLeaving_4
set_option maxHeartbeats 4000000 in
set_option maxRecDepth 100000 in
theorem kW_low (l : Launch) (dC : Nat → ClassId) (dI : Nat → Nat → Nat) (cI cQ : ClassId) (h0 : Nat) (w : Nat → Int32)  : Met l yW_isLowering (.code yW_isLowering cW_isLowering 1 (some .boolean) :: wA) ({ frames := 0, cells := 0, slots := 0, locals := 0 }) (sp_R (dC, dI) (kT cI cQ) [.ref h0] [(h0, .inr (3, [.int (w 0), .int (w 1), .int (w 2), .int (w 3), .int (w 4), .int (w 5), .int (w 6), .int (w 7)]))]) (sp_QRi (wk_low w)) 0 0 (fun _ => False) := by
  refine Met.ofW (cc := cW_isLowering) (maxL := 1) (ret := (some .boolean)) (by decide) rfl ?_
  intro p e s m args below meth c s₁ B hml hv
  obtain ⟨rfl, hP, hK, hG⟩ := hv
  have hx := B.exec
  have hb := B.bytes
  have hr := B.returns
  have hA := sp_hA (atoms_spec (ws := (.code yW_isLowering cW_isLowering 1 (some .boolean) :: wA)) B.pre)
  have hown : s.vm.findClass rW = some m.cls := findClass_of_methodNamed B.named
  have hlocks := B.notSynchronized
  have hS : va_S (fun _ => False) s.heap s.heap [] := va_S.rf
  have hl := lv_entry ([.ref h0]) (n := 1) (Nat.le_of_ble_eq_true rfl)
  rw [lg_entry_eq]
  generalize (lg_sl ([.ref h0]) ++ List.replicate (1 - (lg_sl ([.ref h0])).length) Slot.unset).toArray = ls at hl ⊢
  have hl : lv_has ls 1 [(0, .ref h0)] := hl
  refine lv_aload_n hx hb dW_isLowering_0 rfl (lv_at hl 0 rfl) ?_
  refine va_get (D := (dC, dI)) (ci := 3) (C := rW) (T := tW) (N := 8) hx hb hA inW hown hK hP 0 rfl rfl 0 (by decide) (hA _ wi_61) (fun _ h9 => h9) rfl dW_isLowering_1 ?_
  refine lv_if_eq (tgt := 11) hx hb dW_isLowering_4 (by decide) (fun c_4 => ?_) (fun c_4 => ?_)
  · refine lv_iconst (v := 0) hx hb dW_isLowering_11 (by decide) ?_
    exact W.zret hx hb hr rfl (sp_eRi (by simp [wk_low, c_4]) hS) hS.2.2 dW_isLowering_12
  · refine lv_iconst (v := 1) hx hb dW_isLowering_7 (by decide) ?_
    refine lv_goto (tgt := 12) hx hb dW_isLowering_8 (by decide) ?_
    exact W.zret hx hb hr rfl (sp_eRi (by simp [wk_low, c_4]) hS) hS.2.2 dW_isLowering_12
set_option maxHeartbeats 4000000 in
set_option maxRecDepth 100000 in
theorem kW_clear (l : Launch) (dC : Nat → ClassId) (dI : Nat → Nat → Nat) (cI cQ : ClassId) (h0 : Nat) (w : Nat → Int32) (sz : Nat)  : Met l yW_clear (.code yW_clear cW_clear 1 none :: wA) ({ frames := 0, cells := 0, slots := 0, locals := 0 }) (sp_P (dC, dI) (kT cI cQ) [.ref h0] [(h0, .inr (3, [.int (w 0), .int (w 1), .int (w 2), .int (w 3), .int (w 4), .int (w 5), .int (w 6), .int (w 7)]))] sz) (sp_QWv (dC, dI) [(h0, .inr (3, [.int ((upd (upd w 0 0) 7 0) 0), .int ((upd (upd w 0 0) 7 0) 1), .int ((upd (upd w 0 0) 7 0) 2), .int ((upd (upd w 0 0) 7 0) 3), .int ((upd (upd w 0 0) 7 0) 4), .int ((upd (upd w 0 0) 7 0) 5), .int ((upd (upd w 0 0) 7 0) 6), .int ((upd (upd w 0 0) 7 0) 7)]))] (va_A [(h0, .inr (3, [.int (w 0), .int (w 1), .int (w 2), .int (w 3), .int (w 4), .int (w 5), .int (w 6), .int (w 7)]))] sz)) 0 0 (va_A [(h0, .inr (3, [.int (w 0), .int (w 1), .int (w 2), .int (w 3), .int (w 4), .int (w 5), .int (w 6), .int (w 7)]))] sz) := by
  refine Met.ofW (cc := cW_clear) (maxL := 1) (ret := none) (by decide) rfl ?_
  intro p e s m args below meth c s₁ B hml hv
  obtain ⟨rfl, hsz, hP, hK, hD0, hG⟩ := hv
  have hx := B.exec
  have hb := B.bytes
  have hr := B.returns
  have hA := sp_hA (atoms_spec (ws := (.code yW_clear cW_clear 1 none :: wA)) B.pre)
  have hown : s.vm.findClass rW = some m.cls := findClass_of_methodNamed B.named
  have hlocks := B.notSynchronized
  subst hsz
  have hD := hD0.self (sz := s.heap.size)
  generalize hAe : va_A [(h0, .inr (3, [.int (w 0), .int (w 1), .int (w 2), .int (w 3), .int (w 4), .int (w 5), .int (w 6), .int (w 7)]))] s.heap.size = A at hD ⊢
  have hF : ∀ q : Nat, s.heap.size ≤ q → A q := fun q h => by rw [← hAe]; exact Or.inr h
  have hS : va_S A s.heap s.heap [] := va_S.rf
  have hl := lv_entry ([.ref h0]) (n := 1) (Nat.le_of_ble_eq_true rfl)
  rw [lg_entry_eq]
  generalize (lg_sl ([.ref h0]) ++ List.replicate (1 - (lg_sl ([.ref h0])).length) Slot.unset).toArray = ls at hl ⊢
  have hl : lv_has ls 1 [(0, .ref h0)] := hl
  refine lv_aload_n hx hb dW_clear_0 rfl (lv_at hl 0 rfl) ?_
  refine lv_iconst (v := 0) hx hb dW_clear_1 (by decide) ?_
  refine va_put (D := (dC, dI)) (ci := 3) (v := .int 0) (ty := .int) (C := rW) (T := tW) (N := 8) hx hb hA inW tyW tyW_ok nmW hown hK hP hD hS 0 rfl rfl 0 (by decide) (hA _ wi_61) (fun _ h9 => h9) rfl (by decide +kernel) rfl rfl (Nat.le_of_ble_eq_true rfl) dW_clear_2 (fun H locs hP hD hS => ?_)
  have hP : va_P (dC, dI) vwCl [(h0, .inr (3, [.int 0, .int (w 1), .int (w 2), .int (w 3), .int (w 4), .int (w 5), .int (w 6), .int (w 7)]))] H := hP
  have hD : va_D A [(h0, .inr (3, [.int 0, .int (w 1), .int (w 2), .int (w 3), .int (w 4), .int (w 5), .int (w 6), .int (w 7)]))] := hD
  refine lv_aload_n hx hb dW_clear_5 rfl (lv_at hl 0 rfl) ?_
  refine lv_iconst (v := 0) hx hb dW_clear_6 (by decide) ?_
  refine va_put (D := (dC, dI)) (ci := 3) (v := .int 0) (ty := .int) (C := rW) (T := tW) (N := 8) hx hb hA inW tyW tyW_ok nmW hown hK hP hD hS 0 rfl rfl 7 (by decide) (hA _ wi_68) (fun _ h9 => h9) rfl (by decide +kernel) rfl rfl (Nat.le_of_ble_eq_true rfl) dW_clear_7 (fun H locs hP hD hS => ?_)
  have hP : va_P (dC, dI) vwCl [(h0, .inr (3, [.int 0, .int (w 1), .int (w 2), .int (w 3), .int (w 4), .int (w 5), .int (w 6), .int 0]))] H := hP
  have hD : va_D A [(h0, .inr (3, [.int 0, .int (w 1), .int (w 2), .int (w 3), .int (w 4), .int (w 5), .int (w 6), .int 0]))] := hD
  have hPe : va_P (dC, dI) vwCl [(h0, .inr (3, [.int ((upd (upd w 0 0) 7 0) 0), .int ((upd (upd w 0 0) 7 0) 1), .int ((upd (upd w 0 0) 7 0) 2), .int ((upd (upd w 0 0) 7 0) 3), .int ((upd (upd w 0 0) 7 0) 4), .int ((upd (upd w 0 0) 7 0) 5), .int ((upd (upd w 0 0) 7 0) 6), .int ((upd (upd w 0 0) 7 0) 7)]))] H := by exact hP
  have hDe : va_D A [(h0, .inr (3, [.int ((upd (upd w 0 0) 7 0) 0), .int ((upd (upd w 0 0) 7 0) 1), .int ((upd (upd w 0 0) 7 0) 2), .int ((upd (upd w 0 0) 7 0) 3), .int ((upd (upd w 0 0) 7 0) 4), .int ((upd (upd w 0 0) 7 0) 5), .int ((upd (upd w 0 0) 7 0) 6), .int ((upd (upd w 0 0) 7 0) 7)]))] := sp_Dc hD rfl
  exact W.vret hx hb hr (sp_eWv hPe hDe hS) hS.2.2 dW_clear_10
set_option maxHeartbeats 4000000 in
set_option maxRecDepth 100000 in
theorem kW_sgt (l : Launch) (dC : Nat → ClassId) (dI : Nat → Nat → Nat) (cI cQ : ClassId) (h0 : Nat) (w : Nat → Int32) (x : Int32) (sz : Nat)  : Met l yW_startGoingThrough (.code yW_startGoingThrough cW_startGoingThrough 2 none :: wA) ({ frames := 0, cells := 0, slots := 0, locals := 0 }) (sp_P (dC, dI) (kT cI cQ) [.ref h0, .int x] [(h0, .inr (3, [.int (w 0), .int (w 1), .int (w 2), .int (w 3), .int (w 4), .int (w 5), .int (w 6), .int (w 7)]))] sz) (sp_QWv (dC, dI) [(h0, .inr (3, [.int ((wk_sgt w x) 0), .int ((wk_sgt w x) 1), .int ((wk_sgt w x) 2), .int ((wk_sgt w x) 3), .int ((wk_sgt w x) 4), .int ((wk_sgt w x) 5), .int ((wk_sgt w x) 6), .int ((wk_sgt w x) 7)]))] (va_A [(h0, .inr (3, [.int (w 0), .int (w 1), .int (w 2), .int (w 3), .int (w 4), .int (w 5), .int (w 6), .int (w 7)]))] sz)) 0 0 (va_A [(h0, .inr (3, [.int (w 0), .int (w 1), .int (w 2), .int (w 3), .int (w 4), .int (w 5), .int (w 6), .int (w 7)]))] sz) := by
  refine Met.ofW (cc := cW_startGoingThrough) (maxL := 2) (ret := none) (by decide) rfl ?_
  intro p e s m args below meth c s₁ B hml hv
  obtain ⟨rfl, hsz, hP, hK, hD0, hG⟩ := hv
  have hx := B.exec
  have hb := B.bytes
  have hr := B.returns
  have hA := sp_hA (atoms_spec (ws := (.code yW_startGoingThrough cW_startGoingThrough 2 none :: wA)) B.pre)
  have hown : s.vm.findClass rW = some m.cls := findClass_of_methodNamed B.named
  have hlocks := B.notSynchronized
  subst hsz
  have hD := hD0.self (sz := s.heap.size)
  generalize hAe : va_A [(h0, .inr (3, [.int (w 0), .int (w 1), .int (w 2), .int (w 3), .int (w 4), .int (w 5), .int (w 6), .int (w 7)]))] s.heap.size = A at hD ⊢
  have hF : ∀ q : Nat, s.heap.size ≤ q → A q := fun q h => by rw [← hAe]; exact Or.inr h
  have hS : va_S A s.heap s.heap [] := va_S.rf
  have hl := lv_entry ([.ref h0, .int x]) (n := 2) (Nat.le_of_ble_eq_true rfl)
  rw [lg_entry_eq]
  generalize (lg_sl ([.ref h0, .int x]) ++ List.replicate (2 - (lg_sl ([.ref h0, .int x])).length) Slot.unset).toArray = ls at hl ⊢
  have hl : lv_has ls 2 [(0, .ref h0), (1, .int x)] := hl
  refine lv_aload_n hx hb dW_startGoingThrough_0 rfl (lv_at hl 0 rfl) ?_
  refine lv_iload_n hx hb dW_startGoingThrough_1 rfl (lv_at hl 1 rfl) ?_
  refine va_put (D := (dC, dI)) (ci := 3) (v := .int x) (ty := .int) (C := rW) (T := tW) (N := 8) hx hb hA inW tyW tyW_ok nmW hown hK hP hD hS 0 rfl rfl 1 (by decide) (hA _ wi_62) (fun _ h9 => h9) rfl (by decide +kernel) rfl rfl (Nat.le_of_ble_eq_true rfl) dW_startGoingThrough_2 (fun H locs hP hD hS => ?_)
  have hP : va_P (dC, dI) vwCl [(h0, .inr (3, [.int (w 0), .int x, .int (w 2), .int (w 3), .int (w 4), .int (w 5), .int (w 6), .int (w 7)]))] H := hP
  have hD : va_D A [(h0, .inr (3, [.int (w 0), .int x, .int (w 2), .int (w 3), .int (w 4), .int (w 5), .int (w 6), .int (w 7)]))] := hD
  refine lv_aload_n hx hb dW_startGoingThrough_5 rfl (lv_at hl 0 rfl) ?_
  refine lv_iconst (v := 0) hx hb dW_startGoingThrough_6 (by decide) ?_
  refine va_put (D := (dC, dI)) (ci := 3) (v := .int 0) (ty := .int) (C := rW) (T := tW) (N := 8) hx hb hA inW tyW tyW_ok nmW hown hK hP hD hS 0 rfl rfl 2 (by decide) (hA _ wi_63) (fun _ h9 => h9) rfl (by decide +kernel) rfl rfl (Nat.le_of_ble_eq_true rfl) dW_startGoingThrough_7 (fun H locs hP hD hS => ?_)
  have hP : va_P (dC, dI) vwCl [(h0, .inr (3, [.int (w 0), .int x, .int 0, .int (w 3), .int (w 4), .int (w 5), .int (w 6), .int (w 7)]))] H := hP
  have hD : va_D A [(h0, .inr (3, [.int (w 0), .int x, .int 0, .int (w 3), .int (w 4), .int (w 5), .int (w 6), .int (w 7)]))] := hD
  refine lv_aload_n hx hb dW_startGoingThrough_10 rfl (lv_at hl 0 rfl) ?_
  refine lv_iconst (v := 0) hx hb dW_startGoingThrough_11 (by decide) ?_
  refine va_put (D := (dC, dI)) (ci := 3) (v := .int 0) (ty := .boolean) (C := rW) (T := tW) (N := 8) hx hb hA inW tyW tyW_ok nmW hown hK hP hD hS 0 rfl rfl 3 (by decide) (hA _ wi_64) (fun _ h9 => h9) rfl (by decide +kernel) rfl rfl (Nat.le_of_ble_eq_true rfl) dW_startGoingThrough_12 (fun H locs hP hD hS => ?_)
  have hP : va_P (dC, dI) vwCl [(h0, .inr (3, [.int (w 0), .int x, .int 0, .int 0, .int (w 4), .int (w 5), .int (w 6), .int (w 7)]))] H := hP
  have hD : va_D A [(h0, .inr (3, [.int (w 0), .int x, .int 0, .int 0, .int (w 4), .int (w 5), .int (w 6), .int (w 7)]))] := hD
  have hPe : va_P (dC, dI) vwCl [(h0, .inr (3, [.int ((wk_sgt w x) 0), .int ((wk_sgt w x) 1), .int ((wk_sgt w x) 2), .int ((wk_sgt w x) 3), .int ((wk_sgt w x) 4), .int ((wk_sgt w x) 5), .int ((wk_sgt w x) 6), .int ((wk_sgt w x) 7)]))] H := by exact hP
  have hDe : va_D A [(h0, .inr (3, [.int ((wk_sgt w x) 0), .int ((wk_sgt w x) 1), .int ((wk_sgt w x) 2), .int ((wk_sgt w x) 3), .int ((wk_sgt w x) 4), .int ((wk_sgt w x) 5), .int ((wk_sgt w x) 6), .int ((wk_sgt w x) 7)]))] := sp_Dc hD rfl
  exact W.vret hx hb hr (sp_eWv hPe hDe hS) hS.2.2 dW_startGoingThrough_15
set_option maxHeartbeats 4000000 in
set_option maxRecDepth 100000 in
theorem kW_slow (l : Launch) (dC : Nat → ClassId) (dI : Nat → Nat → Nat) (cI cQ : ClassId) (h0 : Nat) (w : Nat → Int32) (sz : Nat)  : Met l yW_startLowering (.code yW_startLowering cW_startLowering 1 none :: wA) ({ frames := 0, cells := 0, slots := 0, locals := 0 }) (sp_P (dC, dI) (kT cI cQ) [.ref h0] [(h0, .inr (3, [.int (w 0), .int (w 1), .int (w 2), .int (w 3), .int (w 4), .int (w 5), .int (w 6), .int (w 7)]))] sz) (sp_QWv (dC, dI) [(h0, .inr (3, [.int ((wk_slow w) 0), .int ((wk_slow w) 1), .int ((wk_slow w) 2), .int ((wk_slow w) 3), .int ((wk_slow w) 4), .int ((wk_slow w) 5), .int ((wk_slow w) 6), .int ((wk_slow w) 7)]))] (va_A [(h0, .inr (3, [.int (w 0), .int (w 1), .int (w 2), .int (w 3), .int (w 4), .int (w 5), .int (w 6), .int (w 7)]))] sz)) 0 0 (va_A [(h0, .inr (3, [.int (w 0), .int (w 1), .int (w 2), .int (w 3), .int (w 4), .int (w 5), .int (w 6), .int (w 7)]))] sz) := by
  refine Met.ofW (cc := cW_startLowering) (maxL := 1) (ret := none) (by decide) rfl ?_
  intro p e s m args below meth c s₁ B hml hv
  obtain ⟨rfl, hsz, hP, hK, hD0, hG⟩ := hv
  have hx := B.exec
  have hb := B.bytes
  have hr := B.returns
  have hA := sp_hA (atoms_spec (ws := (.code yW_startLowering cW_startLowering 1 none :: wA)) B.pre)
  have hown : s.vm.findClass rW = some m.cls := findClass_of_methodNamed B.named
  have hlocks := B.notSynchronized
  subst hsz
  have hD := hD0.self (sz := s.heap.size)
  generalize hAe : va_A [(h0, .inr (3, [.int (w 0), .int (w 1), .int (w 2), .int (w 3), .int (w 4), .int (w 5), .int (w 6), .int (w 7)]))] s.heap.size = A at hD ⊢
  have hF : ∀ q : Nat, s.heap.size ≤ q → A q := fun q h => by rw [← hAe]; exact Or.inr h
  have hS : va_S A s.heap s.heap [] := va_S.rf
  have hl := lv_entry ([.ref h0]) (n := 1) (Nat.le_of_ble_eq_true rfl)
  rw [lg_entry_eq]
  generalize (lg_sl ([.ref h0]) ++ List.replicate (1 - (lg_sl ([.ref h0])).length) Slot.unset).toArray = ls at hl ⊢
  have hl : lv_has ls 1 [(0, .ref h0)] := hl
  refine lv_aload_n hx hb dW_startLowering_0 rfl (lv_at hl 0 rfl) ?_
  refine lv_iconst (v := 1) hx hb dW_startLowering_1 (by decide) ?_
  refine va_put (D := (dC, dI)) (ci := 3) (v := .int 1) (ty := .int) (C := rW) (T := tW) (N := 8) hx hb hA inW tyW tyW_ok nmW hown hK hP hD hS 0 rfl rfl 0 (by decide) (hA _ wi_61) (fun _ h9 => h9) rfl (by decide +kernel) rfl rfl (Nat.le_of_ble_eq_true rfl) dW_startLowering_2 (fun H locs hP hD hS => ?_)
  have hP : va_P (dC, dI) vwCl [(h0, .inr (3, [.int 1, .int (w 1), .int (w 2), .int (w 3), .int (w 4), .int (w 5), .int (w 6), .int (w 7)]))] H := hP
  have hD : va_D A [(h0, .inr (3, [.int 1, .int (w 1), .int (w 2), .int (w 3), .int (w 4), .int (w 5), .int (w 6), .int (w 7)]))] := hD
  refine lv_aload_n hx hb dW_startLowering_5 rfl (lv_at hl 0 rfl) ?_
  refine lv_iconst (v := 0) hx hb dW_startLowering_6 (by decide) ?_
  refine va_put (D := (dC, dI)) (ci := 3) (v := .int 0) (ty := .int) (C := rW) (T := tW) (N := 8) hx hb hA inW tyW tyW_ok nmW hown hK hP hD hS 0 rfl rfl 4 (by decide) (hA _ wi_65) (fun _ h9 => h9) rfl (by decide +kernel) rfl rfl (Nat.le_of_ble_eq_true rfl) dW_startLowering_7 (fun H locs hP hD hS => ?_)
  have hP : va_P (dC, dI) vwCl [(h0, .inr (3, [.int 1, .int (w 1), .int (w 2), .int (w 3), .int 0, .int (w 5), .int (w 6), .int (w 7)]))] H := hP
  have hD : va_D A [(h0, .inr (3, [.int 1, .int (w 1), .int (w 2), .int (w 3), .int 0, .int (w 5), .int (w 6), .int (w 7)]))] := hD
  refine lv_aload_n hx hb dW_startLowering_10 rfl (lv_at hl 0 rfl) ?_
  refine lv_iconst (v := 0) hx hb dW_startLowering_11 (by decide) ?_
  refine va_put (D := (dC, dI)) (ci := 3) (v := .int 0) (ty := .int) (C := rW) (T := tW) (N := 8) hx hb hA inW tyW tyW_ok nmW hown hK hP hD hS 0 rfl rfl 5 (by decide) (hA _ wi_66) (fun _ h9 => h9) rfl (by decide +kernel) rfl rfl (Nat.le_of_ble_eq_true rfl) dW_startLowering_12 (fun H locs hP hD hS => ?_)
  have hP : va_P (dC, dI) vwCl [(h0, .inr (3, [.int 1, .int (w 1), .int (w 2), .int (w 3), .int 0, .int 0, .int (w 6), .int (w 7)]))] H := hP
  have hD : va_D A [(h0, .inr (3, [.int 1, .int (w 1), .int (w 2), .int (w 3), .int 0, .int 0, .int (w 6), .int (w 7)]))] := hD
  refine lv_aload_n hx hb dW_startLowering_15 rfl (lv_at hl 0 rfl) ?_
  refine lv_iconst (v := 0) hx hb dW_startLowering_16 (by decide) ?_
  refine va_put (D := (dC, dI)) (ci := 3) (v := .int 0) (ty := .boolean) (C := rW) (T := tW) (N := 8) hx hb hA inW tyW tyW_ok nmW hown hK hP hD hS 0 rfl rfl 6 (by decide) (hA _ wi_67) (fun _ h9 => h9) rfl (by decide +kernel) rfl rfl (Nat.le_of_ble_eq_true rfl) dW_startLowering_17 (fun H locs hP hD hS => ?_)
  have hP : va_P (dC, dI) vwCl [(h0, .inr (3, [.int 1, .int (w 1), .int (w 2), .int (w 3), .int 0, .int 0, .int 0, .int (w 7)]))] H := hP
  have hD : va_D A [(h0, .inr (3, [.int 1, .int (w 1), .int (w 2), .int (w 3), .int 0, .int 0, .int 0, .int (w 7)]))] := hD
  have hPe : va_P (dC, dI) vwCl [(h0, .inr (3, [.int ((wk_slow w) 0), .int ((wk_slow w) 1), .int ((wk_slow w) 2), .int ((wk_slow w) 3), .int ((wk_slow w) 4), .int ((wk_slow w) 5), .int ((wk_slow w) 6), .int ((wk_slow w) 7)]))] H := by exact hP
  have hDe : va_D A [(h0, .inr (3, [.int ((wk_slow w) 0), .int ((wk_slow w) 1), .int ((wk_slow w) 2), .int ((wk_slow w) 3), .int ((wk_slow w) 4), .int ((wk_slow w) 5), .int ((wk_slow w) 6), .int ((wk_slow w) 7)]))] := sp_Dc hD rfl
  exact W.vret hx hb hr (sp_eWv hPe hDe hS) hS.2.2 dW_startLowering_20
set_option maxHeartbeats 4000000 in
set_option maxRecDepth 100000 in
theorem kW_sl (l : Launch) (dC : Nat → ClassId) (dI : Nat → Nat → Nat) (cI cQ : ClassId) (h0 : Nat) (w : Nat → Int32) (x : Int32) (sz : Nat)  : Met l yW_startLeaving (.code yW_startLeaving cW_startLeaving 2 none :: wA) ({ frames := 1, cells := 0, slots := 0, locals := 21 }) (sp_P (dC, dI) (kT cI cQ) [.ref h0, .int x] [(h0, .inr (3, [.int (w 0), .int (w 1), .int (w 2), .int (w 3), .int (w 4), .int (w 5), .int (w 6), .int (w 7)]))] sz) (sp_QWv (dC, dI) [(h0, .inr (3, [.int ((wk_sl w x) 0), .int ((wk_sl w x) 1), .int ((wk_sl w x) 2), .int ((wk_sl w x) 3), .int ((wk_sl w x) 4), .int ((wk_sl w x) 5), .int ((wk_sl w x) 6), .int ((wk_sl w x) 7)]))] (va_A [(h0, .inr (3, [.int (w 0), .int (w 1), .int (w 2), .int (w 3), .int (w 4), .int (w 5), .int (w 6), .int (w 7)]))] sz)) 0 0 (va_A [(h0, .inr (3, [.int (w 0), .int (w 1), .int (w 2), .int (w 3), .int (w 4), .int (w 5), .int (w 6), .int (w 7)]))] sz) := by
  refine Met.ofW (cc := cW_startLeaving) (maxL := 2) (ret := none) (by decide) rfl ?_
  intro p e s m args below meth c s₁ B hml hv
  obtain ⟨rfl, hsz, hP, hK, hD0, hG⟩ := hv
  have hx := B.exec
  have hb := B.bytes
  have hr := B.returns
  have hA := sp_hA (atoms_spec (ws := (.code yW_startLeaving cW_startLeaving 2 none :: wA)) B.pre)
  have hown : s.vm.findClass rW = some m.cls := findClass_of_methodNamed B.named
  have hlocks := B.notSynchronized
  subst hsz
  have hD := hD0.self (sz := s.heap.size)
  generalize hAe : va_A [(h0, .inr (3, [.int (w 0), .int (w 1), .int (w 2), .int (w 3), .int (w 4), .int (w 5), .int (w 6), .int (w 7)]))] s.heap.size = A at hD ⊢
  have hF : ∀ q : Nat, s.heap.size ≤ q → A q := fun q h => by rw [← hAe]; exact Or.inr h
  have hS : va_S A s.heap s.heap [] := va_S.rf
  have hl := lv_entry ([.ref h0, .int x]) (n := 2) (Nat.le_of_ble_eq_true rfl)
  rw [lg_entry_eq]
  generalize (lg_sl ([.ref h0, .int x]) ++ List.replicate (2 - (lg_sl ([.ref h0, .int x])).length) Slot.unset).toArray = ls at hl ⊢
  have hl : lv_has ls 2 [(0, .ref h0), (1, .int x)] := hl
  refine lv_aload_n hx hb dW_startLeaving_0 rfl (lv_at hl 0 rfl) ?_
  refine lv_dup hx hb dW_startLeaving_1 rfl ?_
  refine va_get (D := (dC, dI)) (ci := 3) (C := rW) (T := tW) (N := 8) hx hb hA inW hown hK hP 0 rfl rfl 7 (by decide) (hA _ wi_68) (fun _ h9 => h9) rfl dW_startLeaving_2 ?_
  refine lv_iconst (v := 1) hx hb dW_startLeaving_5 (by decide) ?_
  refine lv_iadd hx hb dW_startLeaving_6 ?_
  refine va_put (D := (dC, dI)) (ci := 3) (v := .int ((w 7) + 1)) (ty := .int) (C := rW) (T := tW) (N := 8) hx hb hA inW tyW tyW_ok nmW hown hK hP hD hS 0 rfl rfl 7 (by decide) (hA _ wi_68) (fun _ h9 => h9) rfl (by decide +kernel) rfl rfl (Nat.le_of_ble_eq_true rfl) dW_startLeaving_7 (fun H locs hP hD hS => ?_)
  have hP : va_P (dC, dI) vwCl [(h0, .inr (3, [.int (w 0), .int (w 1), .int (w 2), .int (w 3), .int (w 4), .int (w 5), .int (w 6), .int ((w 7) + 1)]))] H := hP
  have hD : va_D A [(h0, .inr (3, [.int (w 0), .int (w 1), .int (w 2), .int (w 3), .int (w 4), .int (w 5), .int (w 6), .int ((w 7) + 1)]))] := hD
  refine lv_aload_n hx hb dW_startLeaving_10 rfl (lv_at hl 0 rfl) ?_
  refine lv_iconst (v := 0) hx hb dW_startLeaving_11 (by decide) ?_
  refine va_put (D := (dC, dI)) (ci := 3) (v := .int 0) (ty := .int) (C := rW) (T := tW) (N := 8) hx hb hA inW tyW tyW_ok nmW hown hK hP hD hS 0 rfl rfl 0 (by decide) (hA _ wi_61) (fun _ h9 => h9) rfl (by decide +kernel) rfl rfl (Nat.le_of_ble_eq_true rfl) dW_startLeaving_12 (fun H locs hP hD hS => ?_)
  have hP : va_P (dC, dI) vwCl [(h0, .inr (3, [.int 0, .int (w 1), .int (w 2), .int (w 3), .int (w 4), .int (w 5), .int (w 6), .int ((w 7) + 1)]))] H := hP
  have hD : va_D A [(h0, .inr (3, [.int 0, .int (w 1), .int (w 2), .int (w 3), .int (w 4), .int (w 5), .int (w 6), .int ((w 7) + 1)]))] := hD
  refine lv_aload_n hx hb dW_startLeaving_15 rfl (lv_at hl 0 rfl) ?_
  refine lv_iload_n hx hb dW_startLeaving_16 rfl (lv_at hl 1 rfl) ?_
  have hP : va_P (dC, dI) vwCl [(h0, .inr (3, [.int ((upd (upd w 7 ((w 7) + 1)) 0 0) 0), .int ((upd (upd w 7 ((w 7) + 1)) 0 0) 1), .int ((upd (upd w 7 ((w 7) + 1)) 0 0) 2), .int ((upd (upd w 7 ((w 7) + 1)) 0 0) 3), .int ((upd (upd w 7 ((w 7) + 1)) 0 0) 4), .int ((upd (upd w 7 ((w 7) + 1)) 0 0) 5), .int ((upd (upd w 7 ((w 7) + 1)) 0 0) 6), .int ((upd (upd w 7 ((w 7) + 1)) 0 0) 7)]))] H := hP
  have hD : va_D A [(h0, .inr (3, [.int ((upd (upd w 7 ((w 7) + 1)) 0 0) 0), .int ((upd (upd w 7 ((w 7) + 1)) 0 0) 1), .int ((upd (upd w 7 ((w 7) + 1)) 0 0) 2), .int ((upd (upd w 7 ((w 7) + 1)) 0 0) 3), .int ((upd (upd w 7 ((w 7) + 1)) 0 0) 4), .int ((upd (upd w 7 ((w 7) + 1)) 0 0) 5), .int ((upd (upd w 7 ((w 7) + 1)) 0 0) 6), .int ((upd (upd w 7 ((w 7) + 1)) 0 0) 7)]))] := hD
  have hPc := hP.sub (ws' := [(h0, .inr (3, [.int ((upd (upd w 7 ((w 7) + 1)) 0 0) 0), .int ((upd (upd w 7 ((w 7) + 1)) 0 0) 1), .int ((upd (upd w 7 ((w 7) + 1)) 0 0) 2), .int ((upd (upd w 7 ((w 7) + 1)) 0 0) 3), .int ((upd (upd w 7 ((w 7) + 1)) 0 0) 4), .int ((upd (upd w 7 ((w 7) + 1)) 0 0) 5), .int ((upd (upd w 7 ((w 7) + 1)) 0 0) 6), .int ((upd (upd w 7 ((w 7) + 1)) 0 0) 7)]))]) [0] rfl
  have hDc := hD.sub (ws' := [(h0, .inr (3, [.int ((upd (upd w 7 ((w 7) + 1)) 0 0) 0), .int ((upd (upd w 7 ((w 7) + 1)) 0 0) 1), .int ((upd (upd w 7 ((w 7) + 1)) 0 0) 2), .int ((upd (upd w 7 ((w 7) + 1)) 0 0) 3), .int ((upd (upd w 7 ((w 7) + 1)) 0 0) 4), .int ((upd (upd w 7 ((w 7) + 1)) 0 0) 5), .int ((upd (upd w 7 ((w 7) + 1)) 0 0) 6), .int ((upd (upd w 7 ((w 7) + 1)) 0 0) 7)]))]) [0] (by decide) rfl
  have hFc := va_free (wc := [(h0, .inr (3, [.int ((upd (upd w 7 ((w 7) + 1)) 0 0) 0), .int ((upd (upd w 7 ((w 7) + 1)) 0 0) 1), .int ((upd (upd w 7 ((w 7) + 1)) 0 0) 2), .int ((upd (upd w 7 ((w 7) + 1)) 0 0) 3), .int ((upd (upd w 7 ((w 7) + 1)) 0 0) 4), .int ((upd (upd w 7 ((w 7) + 1)) 0 0) 5), .int ((upd (upd w 7 ((w 7) + 1)) 0 0) 6), .int ((upd (upd w 7 ((w 7) + 1)) 0 0) 7)]))]) hD hS hF [0] rfl
  refine va_callv (va_runV (As := [.int x]) (rest := []) ⟨hx, hb, hml, hown, hA⟩ (kW_sgt l dC dI cI cQ h0 (upd (upd w 7 ((w 7) + 1)) 0 0) x _) (cwV 1 hA (gd_V wi_369 wi_370 wi_670 wi_5 wi_371) rfl rfl rfl (by decide +kernel) ⟨Nat.le_of_ble_eq_true rfl, Nat.le_of_ble_eq_true rfl⟩) ⟨sp_Pb, va_recv hK hP (ci := 3) (q0 := 0) rfl rfl, sp_Po hPc hK hG hDc⟩ rfl rfl hl.1 rfl (lv_room (Nat.le_of_ble_eq_true rfl)) dW_startLeaving_17 ⟨Nat.le_of_ble_eq_true rfl, Nat.le_of_ble_eq_true rfl⟩) hS (fun q _ h => hFc q h) hFc (fun u_17 t H locs ht hvm hw hB hz1 hk1 hS => ?_)
  obtain ⟨hP1, hD1⟩ := hB
  rw [ht] at hP1
  obtain ⟨hP, hD⟩ := va_join (wr := []) (w1 := [(h0, .inr (3, [.int ((wk_sgt (upd (upd w 7 ((w 7) + 1)) 0 0) x) 0), .int ((wk_sgt (upd (upd w 7 ((w 7) + 1)) 0 0) x) 1), .int ((wk_sgt (upd (upd w 7 ((w 7) + 1)) 0 0) x) 2), .int ((wk_sgt (upd (upd w 7 ((w 7) + 1)) 0 0) x) 3), .int ((wk_sgt (upd (upd w 7 ((w 7) + 1)) 0 0) x) 4), .int ((wk_sgt (upd (upd w 7 ((w 7) + 1)) 0 0) x) 5), .int ((wk_sgt (upd (upd w 7 ((w 7) + 1)) 0 0) x) 6), .int ((wk_sgt (upd (upd w 7 ((w 7) + 1)) 0 0) x) 7)]))]) hP hD [0] [] rfl rfl (by decide) (by decide) hk1 hFc hP1 hD1
  have hP : va_P (dC, dI) vwCl [(h0, .inr (3, [.int ((wk_sgt (upd (upd w 7 ((w 7) + 1)) 0 0) x) 0), .int ((wk_sgt (upd (upd w 7 ((w 7) + 1)) 0 0) x) 1), .int ((wk_sgt (upd (upd w 7 ((w 7) + 1)) 0 0) x) 2), .int ((wk_sgt (upd (upd w 7 ((w 7) + 1)) 0 0) x) 3), .int ((wk_sgt (upd (upd w 7 ((w 7) + 1)) 0 0) x) 4), .int ((wk_sgt (upd (upd w 7 ((w 7) + 1)) 0 0) x) 5), .int ((wk_sgt (upd (upd w 7 ((w 7) + 1)) 0 0) x) 6), .int ((wk_sgt (upd (upd w 7 ((w 7) + 1)) 0 0) x) 7)]))] H := hP.sub [0] rfl
  have hD : va_D A [(h0, .inr (3, [.int ((wk_sgt (upd (upd w 7 ((w 7) + 1)) 0 0) x) 0), .int ((wk_sgt (upd (upd w 7 ((w 7) + 1)) 0 0) x) 1), .int ((wk_sgt (upd (upd w 7 ((w 7) + 1)) 0 0) x) 2), .int ((wk_sgt (upd (upd w 7 ((w 7) + 1)) 0 0) x) 3), .int ((wk_sgt (upd (upd w 7 ((w 7) + 1)) 0 0) x) 4), .int ((wk_sgt (upd (upd w 7 ((w 7) + 1)) 0 0) x) 5), .int ((wk_sgt (upd (upd w 7 ((w 7) + 1)) 0 0) x) 6), .int ((wk_sgt (upd (upd w 7 ((w 7) + 1)) 0 0) x) 7)]))] := hD.sub [0] (by decide) rfl
  have hPe : va_P (dC, dI) vwCl [(h0, .inr (3, [.int ((wk_sl w x) 0), .int ((wk_sl w x) 1), .int ((wk_sl w x) 2), .int ((wk_sl w x) 3), .int ((wk_sl w x) 4), .int ((wk_sl w x) 5), .int ((wk_sl w x) 6), .int ((wk_sl w x) 7)]))] H := by exact hP
  have hDe : va_D A [(h0, .inr (3, [.int ((wk_sl w x) 0), .int ((wk_sl w x) 1), .int ((wk_sl w x) 2), .int ((wk_sl w x) 3), .int ((wk_sl w x) 4), .int ((wk_sl w x) 5), .int ((wk_sl w x) 6), .int ((wk_sl w x) 7)]))] := sp_Dc hD rfl
  exact W.vret hx hb hr (sp_eWv hPe hDe hS) hS.2.2 dW_startLeaving_20
set_option maxHeartbeats 4000000 in
set_option maxRecDepth 100000 in
theorem kW_next (l : Launch) (dC : Nat → ClassId) (dI : Nat → Nat → Nat) (cI cQ : ClassId) (h0 : Nat) (w : Nat → Int32) (sz : Nat)  : Met l yW_nextByte (.code yW_nextByte cW_nextByte 1 none :: wA) ({ frames := 0, cells := 0, slots := 0, locals := 0 }) (sp_P (dC, dI) (kT cI cQ) [.ref h0] [(h0, .inr (3, [.int (w 0), .int (w 1), .int (w 2), .int (w 3), .int (w 4), .int (w 5), .int (w 6), .int (w 7)]))] sz) (sp_QWv (dC, dI) [(h0, .inr (3, [.int ((wk_next w) 0), .int ((wk_next w) 1), .int ((wk_next w) 2), .int ((wk_next w) 3), .int ((wk_next w) 4), .int ((wk_next w) 5), .int ((wk_next w) 6), .int ((wk_next w) 7)]))] (va_A [(h0, .inr (3, [.int (w 0), .int (w 1), .int (w 2), .int (w 3), .int (w 4), .int (w 5), .int (w 6), .int (w 7)]))] sz)) 0 0 (va_A [(h0, .inr (3, [.int (w 0), .int (w 1), .int (w 2), .int (w 3), .int (w 4), .int (w 5), .int (w 6), .int (w 7)]))] sz) := by
  refine Met.ofW (cc := cW_nextByte) (maxL := 1) (ret := none) (by decide) rfl ?_
  intro p e s m args below meth c s₁ B hml hv
  obtain ⟨rfl, hsz, hP, hK, hD0, hG⟩ := hv
  have hx := B.exec
  have hb := B.bytes
  have hr := B.returns
  have hA := sp_hA (atoms_spec (ws := (.code yW_nextByte cW_nextByte 1 none :: wA)) B.pre)
  have hown : s.vm.findClass rW = some m.cls := findClass_of_methodNamed B.named
  have hlocks := B.notSynchronized
  subst hsz
  have hD := hD0.self (sz := s.heap.size)
  generalize hAe : va_A [(h0, .inr (3, [.int (w 0), .int (w 1), .int (w 2), .int (w 3), .int (w 4), .int (w 5), .int (w 6), .int (w 7)]))] s.heap.size = A at hD ⊢
  have hF : ∀ q : Nat, s.heap.size ≤ q → A q := fun q h => by rw [← hAe]; exact Or.inr h
  have hS : va_S A s.heap s.heap [] := va_S.rf
  have hl := lv_entry ([.ref h0]) (n := 1) (Nat.le_of_ble_eq_true rfl)
  rw [lg_entry_eq]
  generalize (lg_sl ([.ref h0]) ++ List.replicate (1 - (lg_sl ([.ref h0])).length) Slot.unset).toArray = ls at hl ⊢
  have hl : lv_has ls 1 [(0, .ref h0)] := hl
  refine lv_aload_n hx hb dW_nextByte_0 rfl (lv_at hl 0 rfl) ?_
  refine lv_iconst (v := 1) hx hb dW_nextByte_1 (by decide) ?_
  refine va_put (D := (dC, dI)) (ci := 3) (v := .int 1) (ty := .int) (C := rW) (T := tW) (N := 8) hx hb hA inW tyW tyW_ok nmW hown hK hP hD hS 0 rfl rfl 0 (by decide) (hA _ wi_61) (fun _ h9 => h9) rfl (by decide +kernel) rfl rfl (Nat.le_of_ble_eq_true rfl) dW_nextByte_2 (fun H locs hP hD hS => ?_)
  have hP : va_P (dC, dI) vwCl [(h0, .inr (3, [.int 1, .int (w 1), .int (w 2), .int (w 3), .int (w 4), .int (w 5), .int (w 6), .int (w 7)]))] H := hP
  have hD : va_D A [(h0, .inr (3, [.int 1, .int (w 1), .int (w 2), .int (w 3), .int (w 4), .int (w 5), .int (w 6), .int (w 7)]))] := hD
  refine lv_aload_n hx hb dW_nextByte_5 rfl (lv_at hl 0 rfl) ?_
  refine lv_dup hx hb dW_nextByte_6 rfl ?_
  refine va_get (D := (dC, dI)) (ci := 3) (C := rW) (T := tW) (N := 8) hx hb hA inW hown hK hP 0 rfl rfl 5 (by decide) (hA _ wi_66) (fun _ h9 => h9) rfl dW_nextByte_7 ?_
  refine lv_iconst (v := 1) hx hb dW_nextByte_10 (by decide) ?_
  refine lv_iadd hx hb dW_nextByte_11 ?_
  refine va_put (D := (dC, dI)) (ci := 3) (v := .int ((w 5) + 1)) (ty := .int) (C := rW) (T := tW) (N := 8) hx hb hA inW tyW tyW_ok nmW hown hK hP hD hS 0 rfl rfl 5 (by decide) (hA _ wi_66) (fun _ h9 => h9) rfl (by decide +kernel) rfl rfl (Nat.le_of_ble_eq_true rfl) dW_nextByte_12 (fun H locs hP hD hS => ?_)
  have hP : va_P (dC, dI) vwCl [(h0, .inr (3, [.int 1, .int (w 1), .int (w 2), .int (w 3), .int (w 4), .int ((w 5) + 1), .int (w 6), .int (w 7)]))] H := hP
  have hD : va_D A [(h0, .inr (3, [.int 1, .int (w 1), .int (w 2), .int (w 3), .int (w 4), .int ((w 5) + 1), .int (w 6), .int (w 7)]))] := hD
  refine lv_aload_n hx hb dW_nextByte_15 rfl (lv_at hl 0 rfl) ?_
  refine va_get (D := (dC, dI)) (ci := 3) (C := rW) (T := tW) (N := 8) hx hb hA inW hown hK hP 0 rfl rfl 5 (by decide) (hA _ wi_66) (fun _ h9 => h9) rfl dW_nextByte_16 ?_
  refine lv_iconst (v := 4) hx hb dW_nextByte_19 (by decide) ?_
  refine lv_icmp_lt (tgt := 38) hx hb dW_nextByte_20 (by decide) (fun c_20 => ?_) (fun c_20 => ?_)
  · have hPe : va_P (dC, dI) vwCl [(h0, .inr (3, [.int ((wk_next w) 0), .int ((wk_next w) 1), .int ((wk_next w) 2), .int ((wk_next w) 3), .int ((wk_next w) 4), .int ((wk_next w) 5), .int ((wk_next w) 6), .int ((wk_next w) 7)]))] H := by simp only [wk_next, c_20, if_true, if_false, ↓reduceIte]; exact hP
    have hDe : va_D A [(h0, .inr (3, [.int ((wk_next w) 0), .int ((wk_next w) 1), .int ((wk_next w) 2), .int ((wk_next w) 3), .int ((wk_next w) 4), .int ((wk_next w) 5), .int ((wk_next w) 6), .int ((wk_next w) 7)]))] := sp_Dc hD rfl
    exact W.vret hx hb hr (sp_eWv hPe hDe hS) hS.2.2 dW_nextByte_38
  · refine lv_aload_n hx hb dW_nextByte_23 rfl (lv_at hl 0 rfl) ?_
    refine lv_iconst (v := 0) hx hb dW_nextByte_24 (by decide) ?_
    refine va_put (D := (dC, dI)) (ci := 3) (v := .int 0) (ty := .int) (C := rW) (T := tW) (N := 8) hx hb hA inW tyW tyW_ok nmW hown hK hP hD hS 0 rfl rfl 5 (by decide) (hA _ wi_66) (fun _ h9 => h9) rfl (by decide +kernel) rfl rfl (Nat.le_of_ble_eq_true rfl) dW_nextByte_25 (fun H locs hP hD hS => ?_)
    have hP : va_P (dC, dI) vwCl [(h0, .inr (3, [.int 1, .int (w 1), .int (w 2), .int (w 3), .int (w 4), .int 0, .int (w 6), .int (w 7)]))] H := hP
    have hD : va_D A [(h0, .inr (3, [.int 1, .int (w 1), .int (w 2), .int (w 3), .int (w 4), .int 0, .int (w 6), .int (w 7)]))] := hD
    refine lv_aload_n hx hb dW_nextByte_28 rfl (lv_at hl 0 rfl) ?_
    refine lv_dup hx hb dW_nextByte_29 rfl ?_
    refine va_get (D := (dC, dI)) (ci := 3) (C := rW) (T := tW) (N := 8) hx hb hA inW hown hK hP 0 rfl rfl 4 (by decide) (hA _ wi_65) (fun _ h9 => h9) rfl dW_nextByte_30 ?_
    refine lv_iconst (v := 1) hx hb dW_nextByte_33 (by decide) ?_
    refine lv_iadd hx hb dW_nextByte_34 ?_
    refine va_put (D := (dC, dI)) (ci := 3) (v := .int ((w 4) + 1)) (ty := .int) (C := rW) (T := tW) (N := 8) hx hb hA inW tyW tyW_ok nmW hown hK hP hD hS 0 rfl rfl 4 (by decide) (hA _ wi_65) (fun _ h9 => h9) rfl (by decide +kernel) rfl rfl (Nat.le_of_ble_eq_true rfl) dW_nextByte_35 (fun H locs hP hD hS => ?_)
    have hP : va_P (dC, dI) vwCl [(h0, .inr (3, [.int 1, .int (w 1), .int (w 2), .int (w 3), .int ((w 4) + 1), .int 0, .int (w 6), .int (w 7)]))] H := hP
    have hD : va_D A [(h0, .inr (3, [.int 1, .int (w 1), .int (w 2), .int (w 3), .int ((w 4) + 1), .int 0, .int (w 6), .int (w 7)]))] := hD
    have hPe : va_P (dC, dI) vwCl [(h0, .inr (3, [.int ((wk_next w) 0), .int ((wk_next w) 1), .int ((wk_next w) 2), .int ((wk_next w) 3), .int ((wk_next w) 4), .int ((wk_next w) 5), .int ((wk_next w) 6), .int ((wk_next w) 7)]))] H := by simp only [wk_next, c_20, if_true, if_false, ↓reduceIte]; exact hP
    have hDe : va_D A [(h0, .inr (3, [.int ((wk_next w) 0), .int ((wk_next w) 1), .int ((wk_next w) 2), .int ((wk_next w) 3), .int ((wk_next w) 4), .int ((wk_next w) 5), .int ((wk_next w) 6), .int ((wk_next w) 7)]))] := sp_Dc hD rfl
    exact W.vret hx hb hr (sp_eWv hPe hDe hS) hS.2.2 dW_nextByte_38
set_option maxHeartbeats 4000000 in
set_option maxRecDepth 100000 in
theorem kW_pass (l : Launch) (dC : Nat → ClassId) (dI : Nat → Nat → Nat) (cI cQ : ClassId) (h0 : Nat) (w : Nat → Int32) (sz : Nat)  : Met l yW_passOver (.code yW_passOver cW_passOver 1 none :: wA) ({ frames := 1, cells := 0, slots := 0, locals := 20 }) (sp_P (dC, dI) (kT cI cQ) [.ref h0] [(h0, .inr (3, [.int (w 0), .int (w 1), .int (w 2), .int (w 3), .int (w 4), .int (w 5), .int (w 6), .int (w 7)]))] sz) (sp_QWv (dC, dI) [(h0, .inr (3, [.int ((wk_pass w) 0), .int ((wk_pass w) 1), .int ((wk_pass w) 2), .int ((wk_pass w) 3), .int ((wk_pass w) 4), .int ((wk_pass w) 5), .int ((wk_pass w) 6), .int ((wk_pass w) 7)]))] (va_A [(h0, .inr (3, [.int (w 0), .int (w 1), .int (w 2), .int (w 3), .int (w 4), .int (w 5), .int (w 6), .int (w 7)]))] sz)) 0 0 (va_A [(h0, .inr (3, [.int (w 0), .int (w 1), .int (w 2), .int (w 3), .int (w 4), .int (w 5), .int (w 6), .int (w 7)]))] sz) := by
  refine Met.ofW (cc := cW_passOver) (maxL := 1) (ret := none) (by decide) rfl ?_
  intro p e s m args below meth c s₁ B hml hv
  obtain ⟨rfl, hsz, hP, hK, hD0, hG⟩ := hv
  have hx := B.exec
  have hb := B.bytes
  have hr := B.returns
  have hA := sp_hA (atoms_spec (ws := (.code yW_passOver cW_passOver 1 none :: wA)) B.pre)
  have hown : s.vm.findClass rW = some m.cls := findClass_of_methodNamed B.named
  have hlocks := B.notSynchronized
  subst hsz
  have hD := hD0.self (sz := s.heap.size)
  generalize hAe : va_A [(h0, .inr (3, [.int (w 0), .int (w 1), .int (w 2), .int (w 3), .int (w 4), .int (w 5), .int (w 6), .int (w 7)]))] s.heap.size = A at hD ⊢
  have hF : ∀ q : Nat, s.heap.size ≤ q → A q := fun q h => by rw [← hAe]; exact Or.inr h
  have hS : va_S A s.heap s.heap [] := va_S.rf
  have hl := lv_entry ([.ref h0]) (n := 1) (Nat.le_of_ble_eq_true rfl)
  rw [lg_entry_eq]
  generalize (lg_sl ([.ref h0]) ++ List.replicate (1 - (lg_sl ([.ref h0])).length) Slot.unset).toArray = ls at hl ⊢
  have hl : lv_has ls 1 [(0, .ref h0)] := hl
  refine lv_aload_n hx hb dW_passOver_0 rfl (lv_at hl 0 rfl) ?_
  refine va_get (D := (dC, dI)) (ci := 3) (C := rW) (T := tW) (N := 8) hx hb hA inW hown hK hP 0 rfl rfl 0 (by decide) (hA _ wi_61) (fun _ h9 => h9) rfl dW_passOver_1 ?_
  refine lv_if_ne (tgt := 23) hx hb dW_passOver_4 (by decide) (fun c_4 => ?_) (fun c_4 => ?_)
  · refine lv_aload_n hx hb dW_passOver_23 rfl (lv_at hl 0 rfl) ?_
    refine va_get (D := (dC, dI)) (ci := 3) (C := rW) (T := tW) (N := 8) hx hb hA inW hown hK hP 0 rfl rfl 0 (by decide) (hA _ wi_61) (fun _ h9 => h9) rfl dW_passOver_24 ?_
    refine lv_iconst (v := 1) hx hb dW_passOver_27 (by decide) ?_
    refine lv_icmp_ne (tgt := 39) hx hb dW_passOver_28 (by decide) (fun c_28 => ?_) (fun c_28 => ?_)
    · refine lv_aload_n hx hb dW_passOver_39 rfl (lv_at hl 0 rfl) ?_
      refine va_get (D := (dC, dI)) (ci := 3) (C := rW) (T := tW) (N := 8) hx hb hA inW hown hK hP 0 rfl rfl 0 (by decide) (hA _ wi_61) (fun _ h9 => h9) rfl dW_passOver_40 ?_
      refine lv_iconst (v := 2) hx hb dW_passOver_43 (by decide) ?_
      refine lv_icmp_ne (tgt := 55) hx hb dW_passOver_44 (by decide) (fun c_44 => ?_) (fun c_44 => ?_)
      · refine lv_aload_n hx hb dW_passOver_55 rfl (lv_at hl 0 rfl) ?_
        have hPc := hP.sub (ws' := [(h0, .inr (3, [.int (w 0), .int (w 1), .int (w 2), .int (w 3), .int (w 4), .int (w 5), .int (w 6), .int (w 7)]))]) [0] rfl
        have hDc := hD.sub (ws' := [(h0, .inr (3, [.int (w 0), .int (w 1), .int (w 2), .int (w 3), .int (w 4), .int (w 5), .int (w 6), .int (w 7)]))]) [0] (by decide) rfl
        have hFc := va_free (wc := [(h0, .inr (3, [.int (w 0), .int (w 1), .int (w 2), .int (w 3), .int (w 4), .int (w 5), .int (w 6), .int (w 7)]))]) hD hS hF [0] rfl
        refine va_callv (va_runV (As := []) (rest := []) ⟨hx, hb, hml, hown, hA⟩ (kW_next l dC dI cI cQ h0 w _) (cwV 0 hA (gd_V wi_379 wi_380 wi_672 wi_5 wi_381) rfl rfl rfl (by decide +kernel) ⟨Nat.le_of_ble_eq_true rfl, Nat.le_of_ble_eq_true rfl⟩) ⟨sp_Pb, va_recv hK hP (ci := 3) (q0 := 0) rfl rfl, sp_Po hPc hK hG hDc⟩ rfl rfl hl.1 rfl (lv_room (Nat.le_of_ble_eq_true rfl)) dW_passOver_56 ⟨Nat.le_of_ble_eq_true rfl, Nat.le_of_ble_eq_true rfl⟩) hS (fun q _ h => hFc q h) hFc (fun u_56 t H locs ht hvm hw hB hz1 hk1 hS => ?_)
        obtain ⟨hP1, hD1⟩ := hB
        rw [ht] at hP1
        obtain ⟨hP, hD⟩ := va_join (wr := []) (w1 := [(h0, .inr (3, [.int ((wk_next w) 0), .int ((wk_next w) 1), .int ((wk_next w) 2), .int ((wk_next w) 3), .int ((wk_next w) 4), .int ((wk_next w) 5), .int ((wk_next w) 6), .int ((wk_next w) 7)]))]) hP hD [0] [] rfl rfl (by decide) (by decide) hk1 hFc hP1 hD1
        have hP : va_P (dC, dI) vwCl [(h0, .inr (3, [.int ((wk_next w) 0), .int ((wk_next w) 1), .int ((wk_next w) 2), .int ((wk_next w) 3), .int ((wk_next w) 4), .int ((wk_next w) 5), .int ((wk_next w) 6), .int ((wk_next w) 7)]))] H := hP.sub [0] rfl
        have hD : va_D A [(h0, .inr (3, [.int ((wk_next w) 0), .int ((wk_next w) 1), .int ((wk_next w) 2), .int ((wk_next w) 3), .int ((wk_next w) 4), .int ((wk_next w) 5), .int ((wk_next w) 6), .int ((wk_next w) 7)]))] := hD.sub [0] (by decide) rfl
        have hPe : va_P (dC, dI) vwCl [(h0, .inr (3, [.int ((wk_pass w) 0), .int ((wk_pass w) 1), .int ((wk_pass w) 2), .int ((wk_pass w) 3), .int ((wk_pass w) 4), .int ((wk_pass w) 5), .int ((wk_pass w) 6), .int ((wk_pass w) 7)]))] H := by simp only [wk_pass, c_4, c_28, c_44, if_true, if_false, ↓reduceIte]; exact hP
        have hDe : va_D A [(h0, .inr (3, [.int ((wk_pass w) 0), .int ((wk_pass w) 1), .int ((wk_pass w) 2), .int ((wk_pass w) 3), .int ((wk_pass w) 4), .int ((wk_pass w) 5), .int ((wk_pass w) 6), .int ((wk_pass w) 7)]))] := sp_Dc hD rfl
        exact W.vret hx hb hr (sp_eWv hPe hDe hS) hS.2.2 dW_passOver_59
      · refine lv_aload_n hx hb dW_passOver_47 rfl (lv_at hl 0 rfl) ?_
        refine lv_iconst (v := 3) hx hb dW_passOver_48 (by decide) ?_
        refine va_put (D := (dC, dI)) (ci := 3) (v := .int 3) (ty := .int) (C := rW) (T := tW) (N := 8) hx hb hA inW tyW tyW_ok nmW hown hK hP hD hS 0 rfl rfl 0 (by decide) (hA _ wi_61) (fun _ h9 => h9) rfl (by decide +kernel) rfl rfl (Nat.le_of_ble_eq_true rfl) dW_passOver_49 (fun H locs hP hD hS => ?_)
        have hP : va_P (dC, dI) vwCl [(h0, .inr (3, [.int 3, .int (w 1), .int (w 2), .int (w 3), .int (w 4), .int (w 5), .int (w 6), .int (w 7)]))] H := hP
        have hD : va_D A [(h0, .inr (3, [.int 3, .int (w 1), .int (w 2), .int (w 3), .int (w 4), .int (w 5), .int (w 6), .int (w 7)]))] := hD
        refine lv_goto (tgt := 59) hx hb dW_passOver_52 (by decide) ?_
        have hPe : va_P (dC, dI) vwCl [(h0, .inr (3, [.int ((wk_pass w) 0), .int ((wk_pass w) 1), .int ((wk_pass w) 2), .int ((wk_pass w) 3), .int ((wk_pass w) 4), .int ((wk_pass w) 5), .int ((wk_pass w) 6), .int ((wk_pass w) 7)]))] H := by simp only [wk_pass, c_4, c_28, c_44, if_true, if_false, ↓reduceIte]; exact hP
        have hDe : va_D A [(h0, .inr (3, [.int ((wk_pass w) 0), .int ((wk_pass w) 1), .int ((wk_pass w) 2), .int ((wk_pass w) 3), .int ((wk_pass w) 4), .int ((wk_pass w) 5), .int ((wk_pass w) 6), .int ((wk_pass w) 7)]))] := sp_Dc hD rfl
        exact W.vret hx hb hr (sp_eWv hPe hDe hS) hS.2.2 dW_passOver_59
    · refine lv_aload_n hx hb dW_passOver_31 rfl (lv_at hl 0 rfl) ?_
      refine lv_iconst (v := 2) hx hb dW_passOver_32 (by decide) ?_
      refine va_put (D := (dC, dI)) (ci := 3) (v := .int 2) (ty := .int) (C := rW) (T := tW) (N := 8) hx hb hA inW tyW tyW_ok nmW hown hK hP hD hS 0 rfl rfl 0 (by decide) (hA _ wi_61) (fun _ h9 => h9) rfl (by decide +kernel) rfl rfl (Nat.le_of_ble_eq_true rfl) dW_passOver_33 (fun H locs hP hD hS => ?_)
      have hP : va_P (dC, dI) vwCl [(h0, .inr (3, [.int 2, .int (w 1), .int (w 2), .int (w 3), .int (w 4), .int (w 5), .int (w 6), .int (w 7)]))] H := hP
      have hD : va_D A [(h0, .inr (3, [.int 2, .int (w 1), .int (w 2), .int (w 3), .int (w 4), .int (w 5), .int (w 6), .int (w 7)]))] := hD
      refine lv_goto (tgt := 59) hx hb dW_passOver_36 (by decide) ?_
      have hPe : va_P (dC, dI) vwCl [(h0, .inr (3, [.int ((wk_pass w) 0), .int ((wk_pass w) 1), .int ((wk_pass w) 2), .int ((wk_pass w) 3), .int ((wk_pass w) 4), .int ((wk_pass w) 5), .int ((wk_pass w) 6), .int ((wk_pass w) 7)]))] H := by simp only [wk_pass, c_4, c_28, if_true, if_false, ↓reduceIte]; exact hP
      have hDe : va_D A [(h0, .inr (3, [.int ((wk_pass w) 0), .int ((wk_pass w) 1), .int ((wk_pass w) 2), .int ((wk_pass w) 3), .int ((wk_pass w) 4), .int ((wk_pass w) 5), .int ((wk_pass w) 6), .int ((wk_pass w) 7)]))] := sp_Dc hD rfl
      exact W.vret hx hb hr (sp_eWv hPe hDe hS) hS.2.2 dW_passOver_59
  · refine lv_aload_n hx hb dW_passOver_7 rfl (lv_at hl 0 rfl) ?_
    refine lv_dup hx hb dW_passOver_8 rfl ?_
    refine va_get (D := (dC, dI)) (ci := 3) (C := rW) (T := tW) (N := 8) hx hb hA inW hown hK hP 0 rfl rfl 2 (by decide) (hA _ wi_63) (fun _ h9 => h9) rfl dW_passOver_9 ?_
    refine lv_aload_n hx hb dW_passOver_12 rfl (lv_at hl 0 rfl) ?_
    refine va_get (D := (dC, dI)) (ci := 3) (C := rW) (T := tW) (N := 8) hx hb hA inW hown hK hP 0 rfl rfl 1 (by decide) (hA _ wi_62) (fun _ h9 => h9) rfl dW_passOver_13 ?_
    refine lv_iadd hx hb dW_passOver_16 ?_
    refine va_put (D := (dC, dI)) (ci := 3) (v := .int ((w 2) + (w 1))) (ty := .int) (C := rW) (T := tW) (N := 8) hx hb hA inW tyW tyW_ok nmW hown hK hP hD hS 0 rfl rfl 2 (by decide) (hA _ wi_63) (fun _ h9 => h9) rfl (by decide +kernel) rfl rfl (Nat.le_of_ble_eq_true rfl) dW_passOver_17 (fun H locs hP hD hS => ?_)
    have hP : va_P (dC, dI) vwCl [(h0, .inr (3, [.int (w 0), .int (w 1), .int ((w 2) + (w 1)), .int (w 3), .int (w 4), .int (w 5), .int (w 6), .int (w 7)]))] H := hP
    have hD : va_D A [(h0, .inr (3, [.int (w 0), .int (w 1), .int ((w 2) + (w 1)), .int (w 3), .int (w 4), .int (w 5), .int (w 6), .int (w 7)]))] := hD
    refine lv_goto (tgt := 59) hx hb dW_passOver_20 (by decide) ?_
    have hPe : va_P (dC, dI) vwCl [(h0, .inr (3, [.int ((wk_pass w) 0), .int ((wk_pass w) 1), .int ((wk_pass w) 2), .int ((wk_pass w) 3), .int ((wk_pass w) 4), .int ((wk_pass w) 5), .int ((wk_pass w) 6), .int ((wk_pass w) 7)]))] H := by simp only [wk_pass, c_4, if_true, if_false, ↓reduceIte]; exact hP
    have hDe : va_D A [(h0, .inr (3, [.int ((wk_pass w) 0), .int ((wk_pass w) 1), .int ((wk_pass w) 2), .int ((wk_pass w) 3), .int ((wk_pass w) 4), .int ((wk_pass w) 5), .int ((wk_pass w) 6), .int ((wk_pass w) 7)]))] := sp_Dc hD rfl
    exact W.vret hx hb hr (sp_eWv hPe hDe hS) hS.2.2 dW_passOver_59
set_option maxHeartbeats 4000000 in
set_option maxRecDepth 100000 in
theorem kW_go (l : Launch) (dC : Nat → ClassId) (dI : Nat → Nat → Nat) (cI cQ : ClassId) (h0 : Nat) (w : Nat → Int32) (sz : Nat)  : Met l yW_goOn (.code yW_goOn cW_goOn 1 none :: wA) ({ frames := 1, cells := 0, slots := 0, locals := 20 }) (sp_P (dC, dI) (kT cI cQ) [.ref h0] [(h0, .inr (3, [.int (w 0), .int (w 1), .int (w 2), .int (w 3), .int (w 4), .int (w 5), .int (w 6), .int (w 7)]))] sz) (sp_QWv (dC, dI) [(h0, .inr (3, [.int ((wk_go w) 0), .int ((wk_go w) 1), .int ((wk_go w) 2), .int ((wk_go w) 3), .int ((wk_go w) 4), .int ((wk_go w) 5), .int ((wk_go w) 6), .int ((wk_go w) 7)]))] (va_A [(h0, .inr (3, [.int (w 0), .int (w 1), .int (w 2), .int (w 3), .int (w 4), .int (w 5), .int (w 6), .int (w 7)]))] sz)) 0 0 (va_A [(h0, .inr (3, [.int (w 0), .int (w 1), .int (w 2), .int (w 3), .int (w 4), .int (w 5), .int (w 6), .int (w 7)]))] sz) := by
  refine Met.ofW (cc := cW_goOn) (maxL := 1) (ret := none) (by decide) rfl ?_
  intro p e s m args below meth c s₁ B hml hv
  obtain ⟨rfl, hsz, hP, hK, hD0, hG⟩ := hv
  have hx := B.exec
  have hb := B.bytes
  have hr := B.returns
  have hA := sp_hA (atoms_spec (ws := (.code yW_goOn cW_goOn 1 none :: wA)) B.pre)
  have hown : s.vm.findClass rW = some m.cls := findClass_of_methodNamed B.named
  have hlocks := B.notSynchronized
  subst hsz
  have hD := hD0.self (sz := s.heap.size)
  generalize hAe : va_A [(h0, .inr (3, [.int (w 0), .int (w 1), .int (w 2), .int (w 3), .int (w 4), .int (w 5), .int (w 6), .int (w 7)]))] s.heap.size = A at hD ⊢
  have hF : ∀ q : Nat, s.heap.size ≤ q → A q := fun q h => by rw [← hAe]; exact Or.inr h
  have hS : va_S A s.heap s.heap [] := va_S.rf
  have hl := lv_entry ([.ref h0]) (n := 1) (Nat.le_of_ble_eq_true rfl)
  rw [lg_entry_eq]
  generalize (lg_sl ([.ref h0]) ++ List.replicate (1 - (lg_sl ([.ref h0])).length) Slot.unset).toArray = ls at hl ⊢
  have hl : lv_has ls 1 [(0, .ref h0)] := hl
  refine lv_aload_n hx hb dW_goOn_0 rfl (lv_at hl 0 rfl) ?_
  refine va_get (D := (dC, dI)) (ci := 3) (C := rW) (T := tW) (N := 8) hx hb hA inW hown hK hP 0 rfl rfl 0 (by decide) (hA _ wi_61) (fun _ h9 => h9) rfl dW_goOn_1 ?_
  refine lv_if_ne (tgt := 13) hx hb dW_goOn_4 (by decide) (fun c_4 => ?_) (fun c_4 => ?_)
  · refine lv_aload_n hx hb dW_goOn_13 rfl (lv_at hl 0 rfl) ?_
    refine lv_iconst (v := 1) hx hb dW_goOn_14 (by decide) ?_
    refine va_put (D := (dC, dI)) (ci := 3) (v := .int 1) (ty := .boolean) (C := rW) (T := tW) (N := 8) hx hb hA inW tyW tyW_ok nmW hown hK hP hD hS 0 rfl rfl 6 (by decide) (hA _ wi_67) (fun _ h9 => h9) rfl (by decide +kernel) rfl rfl (Nat.le_of_ble_eq_true rfl) dW_goOn_15 (fun H locs hP hD hS => ?_)
    have hP : va_P (dC, dI) vwCl [(h0, .inr (3, [.int (w 0), .int (w 1), .int (w 2), .int (w 3), .int (w 4), .int (w 5), .int 1, .int (w 7)]))] H := hP
    have hD : va_D A [(h0, .inr (3, [.int (w 0), .int (w 1), .int (w 2), .int (w 3), .int (w 4), .int (w 5), .int 1, .int (w 7)]))] := hD
    refine lv_aload_n hx hb dW_goOn_18 rfl (lv_at hl 0 rfl) ?_
    refine va_get (D := (dC, dI)) (ci := 3) (C := rW) (T := tW) (N := 8) hx hb hA inW hown hK hP 0 rfl rfl 0 (by decide) (hA _ wi_61) (fun _ h9 => h9) rfl dW_goOn_19 ?_
    refine lv_iconst (v := 1) hx hb dW_goOn_22 (by decide) ?_
    refine lv_icmp_ne (tgt := 30) hx hb dW_goOn_23 (by decide) (fun c_23 => ?_) (fun c_23 => ?_)
    · have hPe : va_P (dC, dI) vwCl [(h0, .inr (3, [.int ((wk_go w) 0), .int ((wk_go w) 1), .int ((wk_go w) 2), .int ((wk_go w) 3), .int ((wk_go w) 4), .int ((wk_go w) 5), .int ((wk_go w) 6), .int ((wk_go w) 7)]))] H := by simp only [wk_go, c_4, c_23, if_true, if_false, ↓reduceIte]; exact hP
      have hDe : va_D A [(h0, .inr (3, [.int ((wk_go w) 0), .int ((wk_go w) 1), .int ((wk_go w) 2), .int ((wk_go w) 3), .int ((wk_go w) 4), .int ((wk_go w) 5), .int ((wk_go w) 6), .int ((wk_go w) 7)]))] := sp_Dc hD rfl
      exact W.vret hx hb hr (sp_eWv hPe hDe hS) hS.2.2 dW_goOn_30
    · refine lv_aload_n hx hb dW_goOn_26 rfl (lv_at hl 0 rfl) ?_
      have hP : va_P (dC, dI) vwCl [(h0, .inr (3, [.int ((upd w 6 1) 0), .int ((upd w 6 1) 1), .int ((upd w 6 1) 2), .int ((upd w 6 1) 3), .int ((upd w 6 1) 4), .int ((upd w 6 1) 5), .int ((upd w 6 1) 6), .int ((upd w 6 1) 7)]))] H := hP
      have hD : va_D A [(h0, .inr (3, [.int ((upd w 6 1) 0), .int ((upd w 6 1) 1), .int ((upd w 6 1) 2), .int ((upd w 6 1) 3), .int ((upd w 6 1) 4), .int ((upd w 6 1) 5), .int ((upd w 6 1) 6), .int ((upd w 6 1) 7)]))] := hD
      have hPc := hP.sub (ws' := [(h0, .inr (3, [.int ((upd w 6 1) 0), .int ((upd w 6 1) 1), .int ((upd w 6 1) 2), .int ((upd w 6 1) 3), .int ((upd w 6 1) 4), .int ((upd w 6 1) 5), .int ((upd w 6 1) 6), .int ((upd w 6 1) 7)]))]) [0] rfl
      have hDc := hD.sub (ws' := [(h0, .inr (3, [.int ((upd w 6 1) 0), .int ((upd w 6 1) 1), .int ((upd w 6 1) 2), .int ((upd w 6 1) 3), .int ((upd w 6 1) 4), .int ((upd w 6 1) 5), .int ((upd w 6 1) 6), .int ((upd w 6 1) 7)]))]) [0] (by decide) rfl
      have hFc := va_free (wc := [(h0, .inr (3, [.int ((upd w 6 1) 0), .int ((upd w 6 1) 1), .int ((upd w 6 1) 2), .int ((upd w 6 1) 3), .int ((upd w 6 1) 4), .int ((upd w 6 1) 5), .int ((upd w 6 1) 6), .int ((upd w 6 1) 7)]))]) hD hS hF [0] rfl
      refine va_callv (va_runV (As := []) (rest := []) ⟨hx, hb, hml, hown, hA⟩ (kW_next l dC dI cI cQ h0 (upd w 6 1) _) (cwV 0 hA (gd_V wi_379 wi_380 wi_672 wi_5 wi_381) rfl rfl rfl (by decide +kernel) ⟨Nat.le_of_ble_eq_true rfl, Nat.le_of_ble_eq_true rfl⟩) ⟨sp_Pb, va_recv hK hP (ci := 3) (q0 := 0) rfl rfl, sp_Po hPc hK hG hDc⟩ rfl rfl hl.1 rfl (lv_room (Nat.le_of_ble_eq_true rfl)) dW_goOn_27 ⟨Nat.le_of_ble_eq_true rfl, Nat.le_of_ble_eq_true rfl⟩) hS (fun q _ h => hFc q h) hFc (fun u_27 t H locs ht hvm hw hB hz1 hk1 hS => ?_)
      obtain ⟨hP1, hD1⟩ := hB
      rw [ht] at hP1
      obtain ⟨hP, hD⟩ := va_join (wr := []) (w1 := [(h0, .inr (3, [.int ((wk_next (upd w 6 1)) 0), .int ((wk_next (upd w 6 1)) 1), .int ((wk_next (upd w 6 1)) 2), .int ((wk_next (upd w 6 1)) 3), .int ((wk_next (upd w 6 1)) 4), .int ((wk_next (upd w 6 1)) 5), .int ((wk_next (upd w 6 1)) 6), .int ((wk_next (upd w 6 1)) 7)]))]) hP hD [0] [] rfl rfl (by decide) (by decide) hk1 hFc hP1 hD1
      have hP : va_P (dC, dI) vwCl [(h0, .inr (3, [.int ((wk_next (upd w 6 1)) 0), .int ((wk_next (upd w 6 1)) 1), .int ((wk_next (upd w 6 1)) 2), .int ((wk_next (upd w 6 1)) 3), .int ((wk_next (upd w 6 1)) 4), .int ((wk_next (upd w 6 1)) 5), .int ((wk_next (upd w 6 1)) 6), .int ((wk_next (upd w 6 1)) 7)]))] H := hP.sub [0] rfl
      have hD : va_D A [(h0, .inr (3, [.int ((wk_next (upd w 6 1)) 0), .int ((wk_next (upd w 6 1)) 1), .int ((wk_next (upd w 6 1)) 2), .int ((wk_next (upd w 6 1)) 3), .int ((wk_next (upd w 6 1)) 4), .int ((wk_next (upd w 6 1)) 5), .int ((wk_next (upd w 6 1)) 6), .int ((wk_next (upd w 6 1)) 7)]))] := hD.sub [0] (by decide) rfl
      have hPe : va_P (dC, dI) vwCl [(h0, .inr (3, [.int ((wk_go w) 0), .int ((wk_go w) 1), .int ((wk_go w) 2), .int ((wk_go w) 3), .int ((wk_go w) 4), .int ((wk_go w) 5), .int ((wk_go w) 6), .int ((wk_go w) 7)]))] H := by simp only [wk_go, c_4, c_23, if_true, if_false, ↓reduceIte]; exact hP
      have hDe : va_D A [(h0, .inr (3, [.int ((wk_go w) 0), .int ((wk_go w) 1), .int ((wk_go w) 2), .int ((wk_go w) 3), .int ((wk_go w) 4), .int ((wk_go w) 5), .int ((wk_go w) 6), .int ((wk_go w) 7)]))] := sp_Dc hD rfl
      exact W.vret hx hb hr (sp_eWv hPe hDe hS) hS.2.2 dW_goOn_30
  · refine lv_aload_n hx hb dW_goOn_7 rfl (lv_at hl 0 rfl) ?_
    refine lv_iconst (v := 1) hx hb dW_goOn_8 (by decide) ?_
    refine va_put (D := (dC, dI)) (ci := 3) (v := .int 1) (ty := .boolean) (C := rW) (T := tW) (N := 8) hx hb hA inW tyW tyW_ok nmW hown hK hP hD hS 0 rfl rfl 3 (by decide) (hA _ wi_64) (fun _ h9 => h9) rfl (by decide +kernel) rfl rfl (Nat.le_of_ble_eq_true rfl) dW_goOn_9 (fun H locs hP hD hS => ?_)
    have hP : va_P (dC, dI) vwCl [(h0, .inr (3, [.int (w 0), .int (w 1), .int (w 2), .int 1, .int (w 4), .int (w 5), .int (w 6), .int (w 7)]))] H := hP
    have hD : va_D A [(h0, .inr (3, [.int (w 0), .int (w 1), .int (w 2), .int 1, .int (w 4), .int (w 5), .int (w 6), .int (w 7)]))] := hD
    have hPe : va_P (dC, dI) vwCl [(h0, .inr (3, [.int ((wk_go w) 0), .int ((wk_go w) 1), .int ((wk_go w) 2), .int ((wk_go w) 3), .int ((wk_go w) 4), .int ((wk_go w) 5), .int ((wk_go w) 6), .int ((wk_go w) 7)]))] H := by simp only [wk_go, c_4, if_true, if_false, ↓reduceIte]; exact hP
    have hDe : va_D A [(h0, .inr (3, [.int ((wk_go w) 0), .int ((wk_go w) 1), .int ((wk_go w) 2), .int ((wk_go w) 3), .int ((wk_go w) 4), .int ((wk_go w) 5), .int ((wk_go w) 6), .int ((wk_go w) 7)]))] := sp_Dc hD rfl
    exact W.vret hx hb hr (sp_eWv hPe hDe hS) hS.2.2 dW_goOn_12
set_option maxHeartbeats 4000000 in
set_option maxRecDepth 100000 in
theorem kW_end (l : Launch) (dC : Nat → ClassId) (dI : Nat → Nat → Nat) (cI cQ : ClassId) (h0 : Nat) (w : Nat → Int32) (sz : Nat)  : Met l yW_endGoingThrough (.code yW_endGoingThrough cW_endGoingThrough 1 none :: wA) ({ frames := 1, cells := 0, slots := 0, locals := 21 }) (sp_P (dC, dI) (kT cI cQ) [.ref h0] [(h0, .inr (3, [.int (w 0), .int (w 1), .int (w 2), .int (w 3), .int (w 4), .int (w 5), .int (w 6), .int (w 7)]))] sz) (sp_QWv (dC, dI) [(h0, .inr (3, [.int ((wk_end w) 0), .int ((wk_end w) 1), .int ((wk_end w) 2), .int ((wk_end w) 3), .int ((wk_end w) 4), .int ((wk_end w) 5), .int ((wk_end w) 6), .int ((wk_end w) 7)]))] (va_A [(h0, .inr (3, [.int (w 0), .int (w 1), .int (w 2), .int (w 3), .int (w 4), .int (w 5), .int (w 6), .int (w 7)]))] sz)) 0 0 (va_A [(h0, .inr (3, [.int (w 0), .int (w 1), .int (w 2), .int (w 3), .int (w 4), .int (w 5), .int (w 6), .int (w 7)]))] sz) := by
  refine Met.ofW (cc := cW_endGoingThrough) (maxL := 1) (ret := none) (by decide) rfl ?_
  intro p e s m args below meth c s₁ B hml hv
  obtain ⟨rfl, hsz, hP, hK, hD0, hG⟩ := hv
  have hx := B.exec
  have hb := B.bytes
  have hr := B.returns
  have hA := sp_hA (atoms_spec (ws := (.code yW_endGoingThrough cW_endGoingThrough 1 none :: wA)) B.pre)
  have hown : s.vm.findClass rW = some m.cls := findClass_of_methodNamed B.named
  have hlocks := B.notSynchronized
  subst hsz
  have hD := hD0.self (sz := s.heap.size)
  generalize hAe : va_A [(h0, .inr (3, [.int (w 0), .int (w 1), .int (w 2), .int (w 3), .int (w 4), .int (w 5), .int (w 6), .int (w 7)]))] s.heap.size = A at hD ⊢
  have hF : ∀ q : Nat, s.heap.size ≤ q → A q := fun q h => by rw [← hAe]; exact Or.inr h
  have hS : va_S A s.heap s.heap [] := va_S.rf
  have hl := lv_entry ([.ref h0]) (n := 1) (Nat.le_of_ble_eq_true rfl)
  rw [lg_entry_eq]
  generalize (lg_sl ([.ref h0]) ++ List.replicate (1 - (lg_sl ([.ref h0])).length) Slot.unset).toArray = ls at hl ⊢
  have hl : lv_has ls 1 [(0, .ref h0)] := hl
  refine lv_aload_n hx hb dW_endGoingThrough_0 rfl (lv_at hl 0 rfl) ?_
  refine va_get (D := (dC, dI)) (ci := 3) (C := rW) (T := tW) (N := 8) hx hb hA inW hown hK hP 0 rfl rfl 1 (by decide) (hA _ wi_62) (fun _ h9 => h9) rfl dW_endGoingThrough_1 ?_
  refine lv_iconst (v := 1) hx hb dW_endGoingThrough_4 (by decide) ?_
  refine lv_icmp_le (tgt := 21) hx hb dW_endGoingThrough_5 (by decide) (fun c_5 => ?_) (fun c_5 => ?_)
  · refine lv_aload_n hx hb dW_endGoingThrough_21 rfl (lv_at hl 0 rfl) ?_
    refine va_get (D := (dC, dI)) (ci := 3) (C := rW) (T := tW) (N := 8) hx hb hA inW hown hK hP 0 rfl rfl 3 (by decide) (hA _ wi_64) (fun _ h9 => h9) rfl dW_endGoingThrough_22 ?_
    refine lv_if_eq (tgt := 36) hx hb dW_endGoingThrough_25 (by decide) (fun c_25 => ?_) (fun c_25 => ?_)
    · refine lv_aload_n hx hb dW_endGoingThrough_36 rfl (lv_at hl 0 rfl) ?_
      have hPc := hP.sub (ws' := [(h0, .inr (3, [.int (w 0), .int (w 1), .int (w 2), .int (w 3), .int (w 4), .int (w 5), .int (w 6), .int (w 7)]))]) [0] rfl
      have hDc := hD.sub (ws' := [(h0, .inr (3, [.int (w 0), .int (w 1), .int (w 2), .int (w 3), .int (w 4), .int (w 5), .int (w 6), .int (w 7)]))]) [0] (by decide) rfl
      have hFc := va_free (wc := [(h0, .inr (3, [.int (w 0), .int (w 1), .int (w 2), .int (w 3), .int (w 4), .int (w 5), .int (w 6), .int (w 7)]))]) hD hS hF [0] rfl
      refine va_callv (va_runV (As := []) (rest := []) ⟨hx, hb, hml, hown, hA⟩ (kW_slow l dC dI cI cQ h0 w _) (cwV 0 hA (gd_V wi_426 wi_427 wi_676 wi_5 wi_428) rfl rfl rfl (by decide +kernel) ⟨Nat.le_of_ble_eq_true rfl, Nat.le_of_ble_eq_true rfl⟩) ⟨sp_Pb, va_recv hK hP (ci := 3) (q0 := 0) rfl rfl, sp_Po hPc hK hG hDc⟩ rfl rfl hl.1 rfl (lv_room (Nat.le_of_ble_eq_true rfl)) dW_endGoingThrough_37 ⟨Nat.le_of_ble_eq_true rfl, Nat.le_of_ble_eq_true rfl⟩) hS (fun q _ h => hFc q h) hFc (fun u_37 t H locs ht hvm hw hB hz1 hk1 hS => ?_)
      obtain ⟨hP1, hD1⟩ := hB
      rw [ht] at hP1
      obtain ⟨hP, hD⟩ := va_join (wr := []) (w1 := [(h0, .inr (3, [.int ((wk_slow w) 0), .int ((wk_slow w) 1), .int ((wk_slow w) 2), .int ((wk_slow w) 3), .int ((wk_slow w) 4), .int ((wk_slow w) 5), .int ((wk_slow w) 6), .int ((wk_slow w) 7)]))]) hP hD [0] [] rfl rfl (by decide) (by decide) hk1 hFc hP1 hD1
      have hP : va_P (dC, dI) vwCl [(h0, .inr (3, [.int ((wk_slow w) 0), .int ((wk_slow w) 1), .int ((wk_slow w) 2), .int ((wk_slow w) 3), .int ((wk_slow w) 4), .int ((wk_slow w) 5), .int ((wk_slow w) 6), .int ((wk_slow w) 7)]))] H := hP.sub [0] rfl
      have hD : va_D A [(h0, .inr (3, [.int ((wk_slow w) 0), .int ((wk_slow w) 1), .int ((wk_slow w) 2), .int ((wk_slow w) 3), .int ((wk_slow w) 4), .int ((wk_slow w) 5), .int ((wk_slow w) 6), .int ((wk_slow w) 7)]))] := hD.sub [0] (by decide) rfl
      have hPe : va_P (dC, dI) vwCl [(h0, .inr (3, [.int ((wk_end w) 0), .int ((wk_end w) 1), .int ((wk_end w) 2), .int ((wk_end w) 3), .int ((wk_end w) 4), .int ((wk_end w) 5), .int ((wk_end w) 6), .int ((wk_end w) 7)]))] H := by simp only [wk_end, c_5, c_25, if_true, if_false, ↓reduceIte]; exact hP
      have hDe : va_D A [(h0, .inr (3, [.int ((wk_end w) 0), .int ((wk_end w) 1), .int ((wk_end w) 2), .int ((wk_end w) 3), .int ((wk_end w) 4), .int ((wk_end w) 5), .int ((wk_end w) 6), .int ((wk_end w) 7)]))] := sp_Dc hD rfl
      exact W.vret hx hb hr (sp_eWv hPe hDe hS) hS.2.2 dW_endGoingThrough_40
    · refine lv_aload_n hx hb dW_endGoingThrough_28 rfl (lv_at hl 0 rfl) ?_
      refine lv_iconst (v := 1) hx hb dW_endGoingThrough_29 (by decide) ?_
      have hPc := hP.sub (ws' := [(h0, .inr (3, [.int (w 0), .int (w 1), .int (w 2), .int (w 3), .int (w 4), .int (w 5), .int (w 6), .int (w 7)]))]) [0] rfl
      have hDc := hD.sub (ws' := [(h0, .inr (3, [.int (w 0), .int (w 1), .int (w 2), .int (w 3), .int (w 4), .int (w 5), .int (w 6), .int (w 7)]))]) [0] (by decide) rfl
      have hFc := va_free (wc := [(h0, .inr (3, [.int (w 0), .int (w 1), .int (w 2), .int (w 3), .int (w 4), .int (w 5), .int (w 6), .int (w 7)]))]) hD hS hF [0] rfl
      refine va_callv (va_runV (As := [.int 1]) (rest := []) ⟨hx, hb, hml, hown, hA⟩ (kW_sgt l dC dI cI cQ h0 w 1 _) (cwV 1 hA (gd_V wi_369 wi_370 wi_670 wi_5 wi_371) rfl rfl rfl (by decide +kernel) ⟨Nat.le_of_ble_eq_true rfl, Nat.le_of_ble_eq_true rfl⟩) ⟨sp_Pb, va_recv hK hP (ci := 3) (q0 := 0) rfl rfl, sp_Po hPc hK hG hDc⟩ rfl rfl hl.1 rfl (lv_room (Nat.le_of_ble_eq_true rfl)) dW_endGoingThrough_30 ⟨Nat.le_of_ble_eq_true rfl, Nat.le_of_ble_eq_true rfl⟩) hS (fun q _ h => hFc q h) hFc (fun u_30 t H locs ht hvm hw hB hz1 hk1 hS => ?_)
      obtain ⟨hP1, hD1⟩ := hB
      rw [ht] at hP1
      obtain ⟨hP, hD⟩ := va_join (wr := []) (w1 := [(h0, .inr (3, [.int ((wk_sgt w 1) 0), .int ((wk_sgt w 1) 1), .int ((wk_sgt w 1) 2), .int ((wk_sgt w 1) 3), .int ((wk_sgt w 1) 4), .int ((wk_sgt w 1) 5), .int ((wk_sgt w 1) 6), .int ((wk_sgt w 1) 7)]))]) hP hD [0] [] rfl rfl (by decide) (by decide) hk1 hFc hP1 hD1
      have hP : va_P (dC, dI) vwCl [(h0, .inr (3, [.int ((wk_sgt w 1) 0), .int ((wk_sgt w 1) 1), .int ((wk_sgt w 1) 2), .int ((wk_sgt w 1) 3), .int ((wk_sgt w 1) 4), .int ((wk_sgt w 1) 5), .int ((wk_sgt w 1) 6), .int ((wk_sgt w 1) 7)]))] H := hP.sub [0] rfl
      have hD : va_D A [(h0, .inr (3, [.int ((wk_sgt w 1) 0), .int ((wk_sgt w 1) 1), .int ((wk_sgt w 1) 2), .int ((wk_sgt w 1) 3), .int ((wk_sgt w 1) 4), .int ((wk_sgt w 1) 5), .int ((wk_sgt w 1) 6), .int ((wk_sgt w 1) 7)]))] := hD.sub [0] (by decide) rfl
      refine lv_goto (tgt := 40) hx hb dW_endGoingThrough_33 (by decide) ?_
      have hPe : va_P (dC, dI) vwCl [(h0, .inr (3, [.int ((wk_end w) 0), .int ((wk_end w) 1), .int ((wk_end w) 2), .int ((wk_end w) 3), .int ((wk_end w) 4), .int ((wk_end w) 5), .int ((wk_end w) 6), .int ((wk_end w) 7)]))] H := by simp only [wk_end, c_5, c_25, if_true, if_false, ↓reduceIte]; exact hP
      have hDe : va_D A [(h0, .inr (3, [.int ((wk_end w) 0), .int ((wk_end w) 1), .int ((wk_end w) 2), .int ((wk_end w) 3), .int ((wk_end w) 4), .int ((wk_end w) 5), .int ((wk_end w) 6), .int ((wk_end w) 7)]))] := sp_Dc hD rfl
      exact W.vret hx hb hr (sp_eWv hPe hDe hS) hS.2.2 dW_endGoingThrough_40
  · refine lv_aload_n hx hb dW_endGoingThrough_8 rfl (lv_at hl 0 rfl) ?_
    refine lv_aload_n hx hb dW_endGoingThrough_9 rfl (lv_at hl 0 rfl) ?_
    refine va_get (D := (dC, dI)) (ci := 3) (C := rW) (T := tW) (N := 8) hx hb hA inW hown hK hP 0 rfl rfl 1 (by decide) (hA _ wi_62) (fun _ h9 => h9) rfl dW_endGoingThrough_10 ?_
    refine lv_iconst (v := 2) hx hb dW_endGoingThrough_13 (by decide) ?_
    refine lv_idiv hx hb dW_endGoingThrough_14 (by decide) ?_
    have hPc := hP.sub (ws' := [(h0, .inr (3, [.int (w 0), .int (w 1), .int (w 2), .int (w 3), .int (w 4), .int (w 5), .int (w 6), .int (w 7)]))]) [0] rfl
    have hDc := hD.sub (ws' := [(h0, .inr (3, [.int (w 0), .int (w 1), .int (w 2), .int (w 3), .int (w 4), .int (w 5), .int (w 6), .int (w 7)]))]) [0] (by decide) rfl
    have hFc := va_free (wc := [(h0, .inr (3, [.int (w 0), .int (w 1), .int (w 2), .int (w 3), .int (w 4), .int (w 5), .int (w 6), .int (w 7)]))]) hD hS hF [0] rfl
    refine va_callv (va_runV (As := [.int ((w 1) / 2)]) (rest := []) ⟨hx, hb, hml, hown, hA⟩ (kW_sgt l dC dI cI cQ h0 w ((w 1) / 2) _) (cwV 1 hA (gd_V wi_369 wi_370 wi_670 wi_5 wi_371) rfl rfl rfl (by decide +kernel) ⟨Nat.le_of_ble_eq_true rfl, Nat.le_of_ble_eq_true rfl⟩) ⟨sp_Pb, va_recv hK hP (ci := 3) (q0 := 0) rfl rfl, sp_Po hPc hK hG hDc⟩ rfl rfl hl.1 rfl (lv_room (Nat.le_of_ble_eq_true rfl)) dW_endGoingThrough_15 ⟨Nat.le_of_ble_eq_true rfl, Nat.le_of_ble_eq_true rfl⟩) hS (fun q _ h => hFc q h) hFc (fun u_15 t H locs ht hvm hw hB hz1 hk1 hS => ?_)
    obtain ⟨hP1, hD1⟩ := hB
    rw [ht] at hP1
    obtain ⟨hP, hD⟩ := va_join (wr := []) (w1 := [(h0, .inr (3, [.int ((wk_sgt w ((w 1) / 2)) 0), .int ((wk_sgt w ((w 1) / 2)) 1), .int ((wk_sgt w ((w 1) / 2)) 2), .int ((wk_sgt w ((w 1) / 2)) 3), .int ((wk_sgt w ((w 1) / 2)) 4), .int ((wk_sgt w ((w 1) / 2)) 5), .int ((wk_sgt w ((w 1) / 2)) 6), .int ((wk_sgt w ((w 1) / 2)) 7)]))]) hP hD [0] [] rfl rfl (by decide) (by decide) hk1 hFc hP1 hD1
    have hP : va_P (dC, dI) vwCl [(h0, .inr (3, [.int ((wk_sgt w ((w 1) / 2)) 0), .int ((wk_sgt w ((w 1) / 2)) 1), .int ((wk_sgt w ((w 1) / 2)) 2), .int ((wk_sgt w ((w 1) / 2)) 3), .int ((wk_sgt w ((w 1) / 2)) 4), .int ((wk_sgt w ((w 1) / 2)) 5), .int ((wk_sgt w ((w 1) / 2)) 6), .int ((wk_sgt w ((w 1) / 2)) 7)]))] H := hP.sub [0] rfl
    have hD : va_D A [(h0, .inr (3, [.int ((wk_sgt w ((w 1) / 2)) 0), .int ((wk_sgt w ((w 1) / 2)) 1), .int ((wk_sgt w ((w 1) / 2)) 2), .int ((wk_sgt w ((w 1) / 2)) 3), .int ((wk_sgt w ((w 1) / 2)) 4), .int ((wk_sgt w ((w 1) / 2)) 5), .int ((wk_sgt w ((w 1) / 2)) 6), .int ((wk_sgt w ((w 1) / 2)) 7)]))] := hD.sub [0] (by decide) rfl
    refine lv_goto (tgt := 40) hx hb dW_endGoingThrough_18 (by decide) ?_
    have hPe : va_P (dC, dI) vwCl [(h0, .inr (3, [.int ((wk_end w) 0), .int ((wk_end w) 1), .int ((wk_end w) 2), .int ((wk_end w) 3), .int ((wk_end w) 4), .int ((wk_end w) 5), .int ((wk_end w) 6), .int ((wk_end w) 7)]))] H := by simp only [wk_end, c_5, if_true, if_false, ↓reduceIte]; exact hP
    have hDe : va_D A [(h0, .inr (3, [.int ((wk_end w) 0), .int ((wk_end w) 1), .int ((wk_end w) 2), .int ((wk_end w) 3), .int ((wk_end w) 4), .int ((wk_end w) 5), .int ((wk_end w) 6), .int ((wk_end w) 7)]))] := sp_Dc hD rfl
    exact W.vret hx hb hr (sp_eWv hPe hDe hS) hS.2.2 dW_endGoingThrough_40
set_option maxHeartbeats 4000000 in
set_option maxRecDepth 100000 in
theorem kW_lv (l : Launch) (dC : Nat → ClassId) (dI : Nat → Nat → Nat) (cI cQ : ClassId) (h0 : Nat) (w : Nat → Int32) (v : Int32)  : Met l yW_lowerValue (.code yW_lowerValue cW_lowerValue 2 (some .int) :: wA) ({ frames := 0, cells := 0, slots := 0, locals := 0 }) (sp_R (dC, dI) (kT cI cQ) [.ref h0, .int v] [(h0, .inr (3, [.int (w 0), .int (w 1), .int (w 2), .int (w 3), .int (w 4), .int (w 5), .int (w 6), .int (w 7)]))]) (sp_QRi (wk_lv w v)) 0 0 (fun _ => False) := by
  refine Met.ofW (cc := cW_lowerValue) (maxL := 2) (ret := (some .int)) (by decide) rfl ?_
  intro p e s m args below meth c s₁ B hml hv
  obtain ⟨rfl, hP, hK, hG⟩ := hv
  have hx := B.exec
  have hb := B.bytes
  have hr := B.returns
  have hA := sp_hA (atoms_spec (ws := (.code yW_lowerValue cW_lowerValue 2 (some .int) :: wA)) B.pre)
  have hown : s.vm.findClass rW = some m.cls := findClass_of_methodNamed B.named
  have hlocks := B.notSynchronized
  have hS : va_S (fun _ => False) s.heap s.heap [] := va_S.rf
  have hl := lv_entry ([.ref h0, .int v]) (n := 2) (Nat.le_of_ble_eq_true rfl)
  rw [lg_entry_eq]
  generalize (lg_sl ([.ref h0, .int v]) ++ List.replicate (2 - (lg_sl ([.ref h0, .int v])).length) Slot.unset).toArray = ls at hl ⊢
  have hl : lv_has ls 2 [(0, .ref h0), (1, .int v)] := hl
  refine lv_aload_n hx hb dW_lowerValue_0 rfl (lv_at hl 0 rfl) ?_
  refine va_get (D := (dC, dI)) (ci := 3) (C := rW) (T := tW) (N := 8) hx hb hA inW hown hK hP 0 rfl rfl 0 (by decide) (hA _ wi_61) (fun _ h9 => h9) rfl dW_lowerValue_1 ?_
  refine lv_iconst (v := 1) hx hb dW_lowerValue_4 (by decide) ?_
  refine lv_icmp_ne (tgt := 10) hx hb dW_lowerValue_5 (by decide) (fun c_5 => ?_) (fun c_5 => ?_)
  · refine lv_aload_n hx hb dW_lowerValue_10 rfl (lv_at hl 0 rfl) ?_
    refine va_get (D := (dC, dI)) (ci := 3) (C := rW) (T := tW) (N := 8) hx hb hA inW hown hK hP 0 rfl rfl 0 (by decide) (hA _ wi_61) (fun _ h9 => h9) rfl dW_lowerValue_11 ?_
    refine lv_iconst (v := 2) hx hb dW_lowerValue_14 (by decide) ?_
    refine lv_icmp_ne (tgt := 24) hx hb dW_lowerValue_15 (by decide) (fun c_15 => ?_) (fun c_15 => ?_)
    · refine lv_iload_n hx hb dW_lowerValue_24 rfl (lv_at hl 1 rfl) ?_
      refine lv_iconst (v := 1) hx hb dW_lowerValue_25 (by decide) ?_
      refine lv_isub hx hb dW_lowerValue_26 ?_
      exact W.iret hx hb hr (sp_eRi (by simp [wk_lv, c_5, c_15]) hS) hS.2.2 dW_lowerValue_27
    · refine lv_iload_n hx hb dW_lowerValue_18 rfl (lv_at hl 1 rfl) ?_
      refine lv_iconst (v := 2) hx hb dW_lowerValue_19 (by decide) ?_
      refine lv_idiv hx hb dW_lowerValue_20 (by decide) ?_
      refine lv_goto (tgt := 27) hx hb dW_lowerValue_21 (by decide) ?_
      exact W.iret hx hb hr (sp_eRi (by simp [wk_lv, c_5, c_15]) hS) hS.2.2 dW_lowerValue_27
  · refine lv_iconst (v := 0) hx hb dW_lowerValue_8 (by decide) ?_
    exact W.iret hx hb hr (sp_eRi (by simp [wk_lv, c_5]) hS) hS.2.2 dW_lowerValue_9
set_option maxHeartbeats 4000000 in
set_option maxRecDepth 100000 in
theorem kW_can (l : Launch) (dC : Nat → ClassId) (dI : Nat → Nat → Nat) (cI cQ : ClassId) (h0 : Nat) (w : Nat → Int32) (v : Int32)  : Met l yW_canLower (.code yW_canLower cW_canLower 2 (some .boolean) :: wA) ({ frames := 1, cells := 0, slots := 0, locals := 21 }) (sp_R (dC, dI) (kT cI cQ) [.ref h0, .int v] [(h0, .inr (3, [.int (w 0), .int (w 1), .int (w 2), .int (w 3), .int (w 4), .int (w 5), .int (w 6), .int (w 7)]))]) (sp_QRi (wk_can w v)) 0 0 (fun _ => False) := by
  refine Met.ofW (cc := cW_canLower) (maxL := 2) (ret := (some .boolean)) (by decide) rfl ?_
  intro p e s m args below meth c s₁ B hml hv
  obtain ⟨rfl, hP, hK, hG⟩ := hv
  have hx := B.exec
  have hb := B.bytes
  have hr := B.returns
  have hA := sp_hA (atoms_spec (ws := (.code yW_canLower cW_canLower 2 (some .boolean) :: wA)) B.pre)
  have hown : s.vm.findClass rW = some m.cls := findClass_of_methodNamed B.named
  have hlocks := B.notSynchronized
  have hS : va_S (fun _ => False) s.heap s.heap [] := va_S.rf
  have hl := lv_entry ([.ref h0, .int v]) (n := 2) (Nat.le_of_ble_eq_true rfl)
  rw [lg_entry_eq]
  generalize (lg_sl ([.ref h0, .int v]) ++ List.replicate (2 - (lg_sl ([.ref h0, .int v])).length) Slot.unset).toArray = ls at hl ⊢
  have hl : lv_has ls 2 [(0, .ref h0), (1, .int v)] := hl
  refine lv_aload_n hx hb dW_canLower_0 rfl (lv_at hl 0 rfl) ?_
  refine va_get (D := (dC, dI)) (ci := 3) (C := rW) (T := tW) (N := 8) hx hb hA inW hown hK hP 0 rfl rfl 0 (by decide) (hA _ wi_61) (fun _ h9 => h9) rfl dW_canLower_1 ?_
  refine lv_iconst (v := 1) hx hb dW_canLower_4 (by decide) ?_
  refine lv_icmp_ne (tgt := 20) hx hb dW_canLower_5 (by decide) (fun c_5 => ?_) (fun c_5 => ?_)
  · refine lv_aload_n hx hb dW_canLower_20 rfl (lv_at hl 0 rfl) ?_
    refine lv_iload_n hx hb dW_canLower_21 rfl (lv_at hl 1 rfl) ?_
    refine va_calli (va_runV (As := [.int v]) (rest := []) ⟨hx, hb, hml, hown, hA⟩ (kW_lv l dC dI cI cQ h0 w v) (cwV 1 hA (gd_V wi_398 wi_399 wi_673 wi_5 wi_400) rfl rfl rfl (by decide +kernel) ⟨Nat.le_of_ble_eq_true rfl, Nat.le_of_ble_eq_true rfl⟩) ⟨sp_Rb, va_recv hK hP (ci := 3) (q0 := 0) rfl rfl, sp_Ro (hP.sub [0] rfl) hK hG⟩ rfl rfl hl.1 rfl (lv_room (Nat.le_of_ble_eq_true rfl)) dW_canLower_22 ⟨Nat.le_of_ble_eq_true rfl, Nat.le_of_ble_eq_true rfl⟩) hS (fun _ _ h => h.elim) (fun _ h => h.elim) (fun r_22 u_22 t H locs ht hvm hw hB hz1 hk1 hS => ?_)
    subst hw
    have hP := sp_kp hP hk1
    refine lv_if_le (tgt := 32) hx hb dW_canLower_25 (by decide) (fun c_25 => ?_) (fun c_25 => ?_)
    · refine lv_iconst (v := 0) hx hb dW_canLower_32 (by decide) ?_
      exact W.zret hx hb hr rfl (sp_eRi (by simp [wk_can, c_5, c_25]) hS) hS.2.2 dW_canLower_33
    · refine lv_iconst (v := 1) hx hb dW_canLower_28 (by decide) ?_
      refine lv_goto (tgt := 33) hx hb dW_canLower_29 (by decide) ?_
      exact W.zret hx hb hr rfl (sp_eRi (by simp [wk_can, c_5, c_25]) hS) hS.2.2 dW_canLower_33
  · refine lv_iload_n hx hb dW_canLower_8 rfl (lv_at hl 1 rfl) ?_
    refine lv_if_le (tgt := 16) hx hb dW_canLower_9 (by decide) (fun c_9 => ?_) (fun c_9 => ?_)
    · refine lv_iconst (v := 0) hx hb dW_canLower_16 (by decide) ?_
      refine lv_goto (tgt := 33) hx hb dW_canLower_17 (by decide) ?_
      exact W.zret hx hb hr rfl (sp_eRi (by simp [wk_can, c_5, c_9]) hS) hS.2.2 dW_canLower_33
    · refine lv_iconst (v := 1) hx hb dW_canLower_12 (by decide) ?_
      refine lv_goto (tgt := 33) hx hb dW_canLower_13 (by decide) ?_
      exact W.zret hx hb hr rfl (sp_eRi (by simp [wk_can, c_5, c_9]) hS) hS.2.2 dW_canLower_33
set_option maxHeartbeats 4000000 in
set_option maxRecDepth 100000 in
theorem kW_init (l : Launch) (dC : Nat → ClassId) (dI : Nat → Nat → Nat) (cI cQ : ClassId) (h0 : Nat) (sz : Nat)  : Met l yW_init (.code yW_init cW_init 1 none :: wA) ({ frames := 1, cells := 0, slots := 0, locals := 12 }) (sp_P (dC, dI) (kT cI cQ) [.ref h0] [(h0, .inr (3, [.int ((fun _ => 0) 0), .int ((fun _ => 0) 1), .int ((fun _ => 0) 2), .int ((fun _ => 0) 3), .int ((fun _ => 0) 4), .int ((fun _ => 0) 5), .int ((fun _ => 0) 6), .int ((fun _ => 0) 7)]))] sz) (sp_QWv (dC, dI) [(h0, .inr (3, [.int ((fun _ => 0) 0), .int ((fun _ => 0) 1), .int ((fun _ => 0) 2), .int ((fun _ => 0) 3), .int ((fun _ => 0) 4), .int ((fun _ => 0) 5), .int ((fun _ => 0) 6), .int ((fun _ => 0) 7)]))] (va_A [(h0, .inr (3, [.int ((fun _ => 0) 0), .int ((fun _ => 0) 1), .int ((fun _ => 0) 2), .int ((fun _ => 0) 3), .int ((fun _ => 0) 4), .int ((fun _ => 0) 5), .int ((fun _ => 0) 6), .int ((fun _ => 0) 7)]))] sz)) 0 0 (va_A [(h0, .inr (3, [.int ((fun _ => 0) 0), .int ((fun _ => 0) 1), .int ((fun _ => 0) 2), .int ((fun _ => 0) 3), .int ((fun _ => 0) 4), .int ((fun _ => 0) 5), .int ((fun _ => 0) 6), .int ((fun _ => 0) 7)]))] sz) := by
  refine Met.ofW (cc := cW_init) (maxL := 1) (ret := none) (by decide) rfl ?_
  intro p e s m args below meth c s₁ B hml hv
  obtain ⟨rfl, hsz, hP, hK, hD0, hG⟩ := hv
  have hx := B.exec
  have hb := B.bytes
  have hr := B.returns
  have hA := sp_hA (atoms_spec (ws := (.code yW_init cW_init 1 none :: wA)) B.pre)
  have hown : s.vm.findClass rW = some m.cls := findClass_of_methodNamed B.named
  have hlocks := B.notSynchronized
  have hin : meth.name = "<init>" := (name_of_methodNamed B.named B.method).1
  subst hsz
  have hD := hD0.self (sz := s.heap.size)
  generalize hAe : va_A [(h0, .inr (3, [.int ((fun _ => 0) 0), .int ((fun _ => 0) 1), .int ((fun _ => 0) 2), .int ((fun _ => 0) 3), .int ((fun _ => 0) 4), .int ((fun _ => 0) 5), .int ((fun _ => 0) 6), .int ((fun _ => 0) 7)]))] s.heap.size = A at hD ⊢
  have hF : ∀ q : Nat, s.heap.size ≤ q → A q := fun q h => by rw [← hAe]; exact Or.inr h
  have hS : va_S A s.heap s.heap [] := va_S.rf
  have hl := lv_entry ([.ref h0]) (n := 1) (Nat.le_of_ble_eq_true rfl)
  rw [lg_entry_eq]
  generalize (lg_sl ([.ref h0]) ++ List.replicate (1 - (lg_sl ([.ref h0])).length) Slot.unset).toArray = ls at hl ⊢
  have hl : lv_has ls 1 [(0, .ref h0)] := hl
  refine lv_aload_n hx hb dW_init_0 rfl (lv_at hl 0 rfl) ?_
  refine W.objInit hx hb hown (hA _ wi_60) (hA _ wi_21) (hA _ wi_22) rfl (by rw [hml]; exact hl.1) rfl dW_init_1 (Nat.le_of_ble_eq_true rfl) (Nat.le_of_ble_eq_true rfl) ?_
  refine W.eq (g2 := F0 m 4 ls []) rfl ?_
  have hPe : va_P (dC, dI) vwCl [(h0, .inr (3, [.int ((fun _ => 0) 0), .int ((fun _ => 0) 1), .int ((fun _ => 0) 2), .int ((fun _ => 0) 3), .int ((fun _ => 0) 4), .int ((fun _ => 0) 5), .int ((fun _ => 0) 6), .int ((fun _ => 0) 7)]))] s.heap := by exact hP
  have hDe : va_D A [(h0, .inr (3, [.int ((fun _ => 0) 0), .int ((fun _ => 0) 1), .int ((fun _ => 0) 2), .int ((fun _ => 0) 3), .int ((fun _ => 0) 4), .int ((fun _ => 0) 5), .int ((fun _ => 0) 6), .int ((fun _ => 0) 7)]))] := sp_Dc hD rfl
  exact W.vret hx hb hr (sp_eWv hPe hDe hS) hS.2.2 dW_init_4
set_option maxHeartbeats 4000000 in
set_option maxRecDepth 100000 in
theorem kW_change (l : Launch) (dC : Nat → ClassId) (dI : Nat → Nat → Nat) (cI cQ : ClassId) (h0 : Nat) (w : Nat → Int32) (g0 gw go : Nat) (n : Int32) (ws os : Nat → Int32) (sz : Nat)  : Met l yW_change (.code yW_change cW_change 3 none :: wA) ({ frames := 3, cells := 0, slots := 0, locals := 64 }) (sp_P (dC, dI) (kT cI cQ) [.ref h0, .ref g0] [(h0, .inr (3, [.int (w 0), .int (w 1), .int (w 2), .int (w 3), .int (w 4), .int (w 5), .int (w 6), .int (w 7)])), (g0, .inr (0, [.ref gw, .ref go, .int n])), (gw, .inl (cI, 48, .inl ws)), (go, .inl (cI, 48, .inl os))] sz) (sp_QWv (dC, dI) [(h0, .inr (3, [.int (w 0), .int (w 1), .int (w 2), .int (w 3), .int (w 4), .int (w 5), .int (w 6), .int (w 7)])), (g0, .inr (0, [.ref gw, .ref go, .int (ch_N ws os n w)])), (gw, .inl (cI, 48, .inl (ch_W ws os n w))), (go, .inl (cI, 48, .inl (ch_O ws os n w)))] (va_A [(h0, .inr (3, [.int (w 0), .int (w 1), .int (w 2), .int (w 3), .int (w 4), .int (w 5), .int (w 6), .int (w 7)])), (g0, .inr (0, [.ref gw, .ref go, .int n])), (gw, .inl (cI, 48, .inl ws)), (go, .inl (cI, 48, .inl os))] sz)) 0 0 (va_A [(h0, .inr (3, [.int (w 0), .int (w 1), .int (w 2), .int (w 3), .int (w 4), .int (w 5), .int (w 6), .int (w 7)])), (g0, .inr (0, [.ref gw, .ref go, .int n])), (gw, .inl (cI, 48, .inl ws)), (go, .inl (cI, 48, .inl os))] sz) := by
  refine Met.ofW (cc := cW_change) (maxL := 3) (ret := none) (by decide) rfl ?_
  intro p e s m args below meth c s₁ B hml hv
  obtain ⟨rfl, hsz, hP, hK, hD0, hG⟩ := hv
  have hx := B.exec
  have hb := B.bytes
  have hr := B.returns
  have hA := sp_hA (atoms_spec (ws := (.code yW_change cW_change 3 none :: wA)) B.pre)
  have hown : s.vm.findClass rW = some m.cls := findClass_of_methodNamed B.named
  have hlocks := B.notSynchronized
  subst hsz
  have hD := hD0.self (sz := s.heap.size)
  generalize hAe : va_A [(h0, .inr (3, [.int (w 0), .int (w 1), .int (w 2), .int (w 3), .int (w 4), .int (w 5), .int (w 6), .int (w 7)])), (g0, .inr (0, [.ref gw, .ref go, .int n])), (gw, .inl (cI, 48, .inl ws)), (go, .inl (cI, 48, .inl os))] s.heap.size = A at hD ⊢
  have hF : ∀ q : Nat, s.heap.size ≤ q → A q := fun q h => by rw [← hAe]; exact Or.inr h
  have hS : va_S A s.heap s.heap [] := va_S.rf
  have hl := lv_entry ([.ref h0, .ref g0]) (n := 3) (Nat.le_of_ble_eq_true rfl)
  rw [lg_entry_eq]
  generalize (lg_sl ([.ref h0, .ref g0]) ++ List.replicate (3 - (lg_sl ([.ref h0, .ref g0])).length) Slot.unset).toArray = ls at hl ⊢
  have hl : lv_has ls 3 [(0, .ref h0), (1, .ref g0)] := hl
  refine lv_aload_n hx hb dW_change_0 rfl (lv_at hl 0 rfl) ?_
  refine va_get (D := (dC, dI)) (ci := 3) (C := rW) (T := tW) (N := 8) hx hb hA inW hown hK hP 0 rfl rfl 0 (by decide) (hA _ wi_61) (fun _ h9 => h9) rfl dW_change_1 ?_
  refine lv_if_ne (tgt := 22) hx hb dW_change_4 (by decide) (fun c_4 => ?_) (fun c_4 => ?_)
  · refine lv_aload_n hx hb dW_change_22 rfl (lv_at hl 1 rfl) ?_
    refine lv_aload_n hx hb dW_change_23 rfl (lv_at hl 0 rfl) ?_
    refine va_get (D := (dC, dI)) (ci := 3) (C := rW) (T := tW) (N := 8) hx hb hA inW hown hK hP 0 rfl rfl 4 (by decide) (hA _ wi_65) (fun _ h9 => h9) rfl dW_change_24 ?_
    refine lv_aload_n hx hb dW_change_27 rfl (lv_at hl 0 rfl) ?_
    refine va_get (D := (dC, dI)) (ci := 3) (C := rW) (T := tW) (N := 8) hx hb hA inW hown hK hP 0 rfl rfl 5 (by decide) (hA _ wi_66) (fun _ h9 => h9) rfl dW_change_28 ?_
    refine va_calli (va_runV (As := [.int (w 4), .int (w 5)]) (rest := []) ⟨hx, hb, hml, hown, hA⟩ (kP_byteOf l dC dI cI cQ g0 gw go n ws (w 4) (w 5)) (cwV 2 hA (gd_V wi_390 wi_391 wi_392 wi_3 wi_393) rfl rfl rfl (by decide +kernel) ⟨Nat.le_of_ble_eq_true rfl, Nat.le_of_ble_eq_true rfl⟩) ⟨sp_Rb, va_recv hK hP (ci := 0) (q0 := 1) rfl rfl, sp_Ro (hP.sub [1, 2] rfl) hK hG⟩ rfl rfl hl.1 rfl (lv_room (Nat.le_of_ble_eq_true rfl)) dW_change_31 ⟨Nat.le_of_ble_eq_true rfl, Nat.le_of_ble_eq_true rfl⟩) hS (fun _ _ h => h.elim) (fun _ h => h.elim) (fun r_31 u_31 t H locs ht hvm hw hB hz1 hk1 hS => ?_)
    subst hw
    have hP := sp_kp hP hk1
    refine lv_istore_n (lv' := [(2, .int (pg_byte ws n (w 4) (w 5))), (0, .ref h0), (1, .ref g0)]) hx hb dW_change_34 rfl hl (by decide) rfl (fun ls hl => ?_)
    refine lv_aload_n hx hb dW_change_35 rfl (lv_at hl 2 rfl) ?_
    refine lv_aload_n hx hb dW_change_36 rfl (lv_at hl 1 rfl) ?_
    refine va_get (D := (dC, dI)) (ci := 3) (C := rW) (T := tW) (N := 8) hx hb hA inW hown hK hP 0 rfl rfl 4 (by decide) (hA _ wi_65) (fun _ h9 => h9) rfl dW_change_37 ?_
    refine lv_aload_n hx hb dW_change_40 rfl (lv_at hl 1 rfl) ?_
    refine va_get (D := (dC, dI)) (ci := 3) (C := rW) (T := tW) (N := 8) hx hb hA inW hown hK hP 0 rfl rfl 5 (by decide) (hA _ wi_66) (fun _ h9 => h9) rfl dW_change_41 ?_
    refine lv_aload_n hx hb dW_change_44 rfl (lv_at hl 1 rfl) ?_
    refine lv_iload_n hx hb dW_change_45 rfl (lv_at hl 0 rfl) ?_
    refine va_calli (va_runV (As := [.int (pg_byte ws n (w 4) (w 5))]) (rest := [.int (w 5), .int (w 4), .ref g0]) ⟨hx, hb, hml, hown, hA⟩ (kW_lv l dC dI cI cQ h0 w (pg_byte ws n (w 4) (w 5))) (cwV 1 hA (gd_V wi_398 wi_399 wi_673 wi_5 wi_400) rfl rfl rfl (by decide +kernel) ⟨Nat.le_of_ble_eq_true rfl, Nat.le_of_ble_eq_true rfl⟩) ⟨sp_Rb, va_recv hK hP (ci := 3) (q0 := 0) rfl rfl, sp_Ro (hP.sub [0] rfl) hK hG⟩ rfl rfl hl.1 rfl (lv_room (Nat.le_of_ble_eq_true rfl)) dW_change_46 ⟨Nat.le_of_ble_eq_true rfl, Nat.le_of_ble_eq_true rfl⟩) hS (fun _ _ h => h.elim) (fun _ h => h.elim) (fun r_46 u_46 t H locs ht hvm hw hB hz1 hk1 hS => ?_)
    subst hw
    have hP := sp_kp hP hk1
    have hPc := hP.sub (ws' := [(g0, .inr (0, [.ref gw, .ref go, .int n])), (gw, .inl (cI, 48, .inl ws)), (go, .inl (cI, 48, .inl os))]) [1, 2, 3] rfl
    have hDc := hD.sub (ws' := [(g0, .inr (0, [.ref gw, .ref go, .int n])), (gw, .inl (cI, 48, .inl ws)), (go, .inl (cI, 48, .inl os))]) [1, 2, 3] (by decide) rfl
    have hFc := va_free (wc := [(g0, .inr (0, [.ref gw, .ref go, .int n])), (gw, .inl (cI, 48, .inl ws)), (go, .inl (cI, 48, .inl os))]) hD hS hF [1, 2, 3] rfl
    refine va_callv (va_runV (As := [.int (w 4), .int (w 5), .int (wk_lv w (pg_byte ws n (w 4) (w 5)))]) (rest := []) ⟨hx, hb, hml, hown, hA⟩ (kP_setByte l dC dI cI cQ g0 gw go n ws os (w 4) (w 5) (wk_lv w (pg_byte ws n (w 4) (w 5))) _) (cwV 3 hA (gd_V wi_401 wi_402 wi_403 wi_3 wi_404) rfl rfl rfl (by decide +kernel) ⟨Nat.le_of_ble_eq_true rfl, Nat.le_of_ble_eq_true rfl⟩) ⟨sp_Pb, va_recv hK hP (ci := 0) (q0 := 1) rfl rfl, sp_Po hPc hK hG hDc⟩ rfl rfl hl.1 rfl (lv_room (Nat.le_of_ble_eq_true rfl)) dW_change_49 ⟨Nat.le_of_ble_eq_true rfl, Nat.le_of_ble_eq_true rfl⟩) hS (fun q _ h => hFc q h) hFc (fun u_49 t H locs ht hvm hw hB hz1 hk1 hS => ?_)
    obtain ⟨hP1, hD1⟩ := hB
    rw [ht] at hP1
    obtain ⟨hP, hD⟩ := va_join (wr := [(h0, .inr (3, [.int (w 0), .int (w 1), .int (w 2), .int (w 3), .int (w 4), .int (w 5), .int (w 6), .int (w 7)]))]) (w1 := [(g0, .inr (0, [.ref gw, .ref go, .int n])), (gw, .inl (cI, 48, .inl (pg_sbW ws n (w 4) (w 5) (wk_lv w (pg_byte ws n (w 4) (w 5)))))), (go, .inl (cI, 48, .inl os))]) hP hD [1, 2, 3] [0] rfl rfl (by decide) (by decide) hk1 hFc hP1 hD1
    have hP : va_P (dC, dI) vwCl [(h0, .inr (3, [.int (w 0), .int (w 1), .int (w 2), .int (w 3), .int (w 4), .int (w 5), .int (w 6), .int (w 7)])), (g0, .inr (0, [.ref gw, .ref go, .int n])), (gw, .inl (cI, 48, .inl (pg_sbW ws n (w 4) (w 5) (wk_lv w (pg_byte ws n (w 4) (w 5)))))), (go, .inl (cI, 48, .inl os))] H := hP.sub [0, 1, 2, 3] rfl
    have hD : va_D A [(h0, .inr (3, [.int (w 0), .int (w 1), .int (w 2), .int (w 3), .int (w 4), .int (w 5), .int (w 6), .int (w 7)])), (g0, .inr (0, [.ref gw, .ref go, .int n])), (gw, .inl (cI, 48, .inl (pg_sbW ws n (w 4) (w 5) (wk_lv w (pg_byte ws n (w 4) (w 5)))))), (go, .inl (cI, 48, .inl os))] := hD.sub [0, 1, 2, 3] (by decide) rfl
    have hPe : va_P (dC, dI) vwCl [(h0, .inr (3, [.int (w 0), .int (w 1), .int (w 2), .int (w 3), .int (w 4), .int (w 5), .int (w 6), .int (w 7)])), (g0, .inr (0, [.ref gw, .ref go, .int (ch_N ws os n w)])), (gw, .inl (cI, 48, .inl (ch_W ws os n w))), (go, .inl (cI, 48, .inl (ch_O ws os n w)))] H := by first | (rw [ch_N, ch_W, ch_O, if_pos c_4, if_pos c_4, if_pos c_4]; exact hP) | (rw [ch_N, ch_W, ch_O, if_neg c_4, if_neg c_4, if_neg c_4]; exact hP)
    have hDe : va_D A [(h0, .inr (3, [.int (w 0), .int (w 1), .int (w 2), .int (w 3), .int (w 4), .int (w 5), .int (w 6), .int (w 7)])), (g0, .inr (0, [.ref gw, .ref go, .int (ch_N ws os n w)])), (gw, .inl (cI, 48, .inl (ch_W ws os n w))), (go, .inl (cI, 48, .inl (ch_O ws os n w)))] := sp_Dc hD rfl
    exact W.vret hx hb hr (sp_eWv hPe hDe hS) hS.2.2 dW_change_52
  · refine lv_aload_n hx hb dW_change_7 rfl (lv_at hl 1 rfl) ?_
    refine lv_aload_n hx hb dW_change_8 rfl (lv_at hl 0 rfl) ?_
    refine va_get (D := (dC, dI)) (ci := 3) (C := rW) (T := tW) (N := 8) hx hb hA inW hown hK hP 0 rfl rfl 2 (by decide) (hA _ wi_63) (fun _ h9 => h9) rfl dW_change_9 ?_
    refine lv_aload_n hx hb dW_change_12 rfl (lv_at hl 0 rfl) ?_
    refine va_get (D := (dC, dI)) (ci := 3) (C := rW) (T := tW) (N := 8) hx hb hA inW hown hK hP 0 rfl rfl 1 (by decide) (hA _ wi_62) (fun _ h9 => h9) rfl dW_change_13 ?_
    have hPc := hP.sub (ws' := [(g0, .inr (0, [.ref gw, .ref go, .int n])), (gw, .inl (cI, 48, .inl ws)), (go, .inl (cI, 48, .inl os))]) [1, 2, 3] rfl
    have hDc := hD.sub (ws' := [(g0, .inr (0, [.ref gw, .ref go, .int n])), (gw, .inl (cI, 48, .inl ws)), (go, .inl (cI, 48, .inl os))]) [1, 2, 3] (by decide) rfl
    have hFc := va_free (wc := [(g0, .inr (0, [.ref gw, .ref go, .int n])), (gw, .inl (cI, 48, .inl ws)), (go, .inl (cI, 48, .inl os))]) hD hS hF [1, 2, 3] rfl
    refine va_callv (va_runV (As := [.int (w 2), .int (w 1)]) (rest := []) ⟨hx, hb, hml, hown, hA⟩ (kP_leaveOut l dC dI cI cQ g0 gw go n ws os (w 2) (w 1) _) (cwV 2 hA (gd_V wi_386 wi_387 wi_388 wi_3 wi_389) rfl rfl rfl (by decide +kernel) ⟨Nat.le_of_ble_eq_true rfl, Nat.le_of_ble_eq_true rfl⟩) ⟨sp_Pb, va_recv hK hP (ci := 0) (q0 := 1) rfl rfl, sp_Po hPc hK hG hDc⟩ rfl rfl hl.1 rfl (lv_room (Nat.le_of_ble_eq_true rfl)) dW_change_16 ⟨Nat.le_of_ble_eq_true rfl, Nat.le_of_ble_eq_true rfl⟩) hS (fun q _ h => hFc q h) hFc (fun u_16 t H locs ht hvm hw hB hz1 hk1 hS => ?_)
    obtain ⟨hP1, hD1⟩ := hB
    rw [ht] at hP1
    obtain ⟨hP, hD⟩ := va_join (wr := [(h0, .inr (3, [.int (w 0), .int (w 1), .int (w 2), .int (w 3), .int (w 4), .int (w 5), .int (w 6), .int (w 7)]))]) (w1 := [(g0, .inr (0, [.ref gw, .ref go, .int (pg_loN ws os n (w 2) (w 1))])), (gw, .inl (cI, 48, .inl (pg_loW ws os n (w 2) (w 1)))), (go, .inl (cI, 48, .inl (pg_loO ws os n (w 2) (w 1))))]) hP hD [1, 2, 3] [0] rfl rfl (by decide) (by decide) hk1 hFc hP1 hD1
    have hP : va_P (dC, dI) vwCl [(h0, .inr (3, [.int (w 0), .int (w 1), .int (w 2), .int (w 3), .int (w 4), .int (w 5), .int (w 6), .int (w 7)])), (g0, .inr (0, [.ref gw, .ref go, .int (pg_loN ws os n (w 2) (w 1))])), (gw, .inl (cI, 48, .inl (pg_loW ws os n (w 2) (w 1)))), (go, .inl (cI, 48, .inl (pg_loO ws os n (w 2) (w 1))))] H := hP.sub [0, 1, 2, 3] rfl
    have hD : va_D A [(h0, .inr (3, [.int (w 0), .int (w 1), .int (w 2), .int (w 3), .int (w 4), .int (w 5), .int (w 6), .int (w 7)])), (g0, .inr (0, [.ref gw, .ref go, .int (pg_loN ws os n (w 2) (w 1))])), (gw, .inl (cI, 48, .inl (pg_loW ws os n (w 2) (w 1)))), (go, .inl (cI, 48, .inl (pg_loO ws os n (w 2) (w 1))))] := hD.sub [0, 1, 2, 3] (by decide) rfl
    refine lv_goto (tgt := 52) hx hb dW_change_19 (by decide) ?_
    have hPe : va_P (dC, dI) vwCl [(h0, .inr (3, [.int (w 0), .int (w 1), .int (w 2), .int (w 3), .int (w 4), .int (w 5), .int (w 6), .int (w 7)])), (g0, .inr (0, [.ref gw, .ref go, .int (ch_N ws os n w)])), (gw, .inl (cI, 48, .inl (ch_W ws os n w))), (go, .inl (cI, 48, .inl (ch_O ws os n w)))] H := by first | (rw [ch_N, ch_W, ch_O, if_pos c_4, if_pos c_4, if_pos c_4]; exact hP) | (rw [ch_N, ch_W, ch_O, if_neg c_4, if_neg c_4, if_neg c_4]; exact hP)
    have hDe : va_D A [(h0, .inr (3, [.int (w 0), .int (w 1), .int (w 2), .int (w 3), .int (w 4), .int (w 5), .int (w 6), .int (w 7)])), (g0, .inr (0, [.ref gw, .ref go, .int (ch_N ws os n w)])), (gw, .inl (cI, 48, .inl (ch_W ws os n w))), (go, .inl (cI, 48, .inl (ch_O ws os n w)))] := sp_Dc hD rfl
    exact W.vret hx hb hr (sp_eWv hPe hDe hS) hS.2.2 dW_change_52
set_option maxHeartbeats 4000000 in
set_option maxRecDepth 100000 in
theorem kW_fc (l : Launch) (dC : Nat → ClassId) (dI : Nat → Nat → Nat) (cI cQ : ClassId) (h0 : Nat) (w : Nat → Int32) (g0 gw go : Nat) (n : Int32) (ws : Nat → Int32) (sz : Nat)  : Met l yW_findChange (.code yW_findChange cW_findChange 3 (some .boolean) :: wA) ({ frames := 3, cells := 0, slots := 0, locals := 64 }) (sp_P (dC, dI) (kT cI cQ) [.ref h0, .ref g0] [(h0, .inr (3, [.int (w 0), .int (w 1), .int (w 2), .int (w 3), .int (w 4), .int (w 5), .int (w 6), .int (w 7)])), (g0, .inr (0, [.ref gw, .ref go, .int n])), (gw, .inl (cI, 48, .inl ws))] sz) (sp_QWi ((wk_fc ws n 1000000 w).2) (dC, dI) [(h0, .inr (3, [.int (((wk_fc ws n 1000000 w).1) 0), .int (((wk_fc ws n 1000000 w).1) 1), .int (((wk_fc ws n 1000000 w).1) 2), .int (((wk_fc ws n 1000000 w).1) 3), .int (((wk_fc ws n 1000000 w).1) 4), .int (((wk_fc ws n 1000000 w).1) 5), .int (((wk_fc ws n 1000000 w).1) 6), .int (((wk_fc ws n 1000000 w).1) 7)])), (g0, .inr (0, [.ref gw, .ref go, .int n])), (gw, .inl (cI, 48, .inl ws))] (va_A [(h0, .inr (3, [.int (w 0), .int (w 1), .int (w 2), .int (w 3), .int (w 4), .int (w 5), .int (w 6), .int (w 7)])), (g0, .inr (0, [.ref gw, .ref go, .int n])), (gw, .inl (cI, 48, .inl ws))] sz)) 0 0 (va_A [(h0, .inr (3, [.int (w 0), .int (w 1), .int (w 2), .int (w 3), .int (w 4), .int (w 5), .int (w 6), .int (w 7)])), (g0, .inr (0, [.ref gw, .ref go, .int n])), (gw, .inl (cI, 48, .inl ws))] sz) := by
  refine Met.ofW (cc := cW_findChange) (maxL := 3) (ret := (some .boolean)) (by decide) rfl ?_
  intro p e s m args below meth c s₁ B hml hv
  obtain ⟨rfl, hsz, hP, hK, hD0, hG⟩ := hv
  have hx := B.exec
  have hb := B.bytes
  have hr := B.returns
  have hA := sp_hA (atoms_spec (ws := (.code yW_findChange cW_findChange 3 (some .boolean) :: wA)) B.pre)
  have hown : s.vm.findClass rW = some m.cls := findClass_of_methodNamed B.named
  have hlocks := B.notSynchronized
  subst hsz
  have hD := hD0.self (sz := s.heap.size)
  generalize hAe : va_A [(h0, .inr (3, [.int (w 0), .int (w 1), .int (w 2), .int (w 3), .int (w 4), .int (w 5), .int (w 6), .int (w 7)])), (g0, .inr (0, [.ref gw, .ref go, .int n])), (gw, .inl (cI, 48, .inl ws))] s.heap.size = A at hD ⊢
  have hF : ∀ q : Nat, s.heap.size ≤ q → A q := fun q h => by rw [← hAe]; exact Or.inr h
  have hS : va_S A s.heap s.heap [] := va_S.rf
  have hl := lv_entry ([.ref h0, .ref g0]) (n := 3) (Nat.le_of_ble_eq_true rfl)
  rw [lg_entry_eq]
  generalize (lg_sl ([.ref h0, .ref g0]) ++ List.replicate (3 - (lg_sl ([.ref h0, .ref g0])).length) Slot.unset).toArray = ls at hl ⊢
  have hl : lv_has ls 3 [(0, .ref h0), (1, .ref g0)] := hl
  refine lv_iconst (v := 0) hx hb dW_findChange_0 (by decide) ?_
  refine lv_istore_n (lv' := [(2, .int 0), (0, .ref h0), (1, .ref g0)]) hx hb dW_findChange_1 rfl hl (by decide) rfl (fun ls hl => ?_)
  have loop : ∀ (n9 : Nat) (i : Nat) (w9 : Nat → Int32) (H : Heap) (locs : List Loc) (ls : Array Slot), 1000000 - i < n9 → (i ≤ 1000000) → (wk_fc ws n (1000000 - i) w9 = wk_fc ws n 1000000 w) → va_P (dC, dI) vwCl [(h0, .inr (3, [.int (w9 0), .int (w9 1), .int (w9 2), .int (w9 3), .int (w9 4), .int (w9 5), .int (w9 6), .int (w9 7)])), (g0, .inr (0, [.ref gw, .ref go, .int n])), (gw, .inl (cI, 48, .inl ws))] H → va_D A [(h0, .inr (3, [.int (w9 0), .int (w9 1), .int (w9 2), .int (w9 3), .int (w9 4), .int (w9 5), .int (w9 6), .int (w9 7)])), (g0, .inr (0, [.ref gw, .ref go, .int n])), (gw, .inl (cI, 48, .inl ws))] → va_S A s.heap H locs → lv_has ls 3 [(2, .int (nI i)), (0, .ref h0), (1, .ref g0)] → W p l e (headSpec (.code yW_findChange cW_findChange 3 (some .boolean) :: wA) ({ frames := 3, cells := 0, slots := 0, locals := 64 })).room s m ([.ref h0, .ref g0]).toArray below meth c H locs 0 0 (MQ below (sp_QWi ((wk_fc ws n 1000000 w).2) (dC, dI) [(h0, .inr (3, [.int (((wk_fc ws n 1000000 w).1) 0), .int (((wk_fc ws n 1000000 w).1) 1), .int (((wk_fc ws n 1000000 w).1) 2), .int (((wk_fc ws n 1000000 w).1) 3), .int (((wk_fc ws n 1000000 w).1) 4), .int (((wk_fc ws n 1000000 w).1) 5), .int (((wk_fc ws n 1000000 w).1) 6), .int (((wk_fc ws n 1000000 w).1) 7)])), (g0, .inr (0, [.ref gw, .ref go, .int n])), (gw, .inl (cI, 48, .inl ws))] A) ([.ref h0, .ref g0]).toArray s 0 0 A) (F0 m 2 ls []) := by
    intro n9
    induction n9 with
    | zero => intro i w9 H locs ls hm9 hi hfc hP hD hS hl; exact absurd hm9 (Nat.not_lt_zero _)
    | succ n9 ih =>
      intro i w9 H locs ls hm9 hi hfc hP hD hS hl
      refine lv_iload_n hx hb dW_findChange_2 rfl (lv_at hl 0 rfl) ?_
      refine lv_ldc (v := 1000000) hx hb hown (hA _ wi_421) dW_findChange_3 ?_
      refine lv_icmp_ge (tgt := 97) hx hb dW_findChange_5 (by decide) (fun c_5 => ?_) (fun c_5 => ?_)
      · refine lv_iconst (v := 0) hx hb dW_findChange_97 (by decide) ?_
        have e9 : wk_fc ws n 1000000 w = (w9, 0) := by rw [← hfc, show 1000000 - i = 0 by have := ml_le (show i < 2 ^ 31 by omega) c_5; omega]; rfl
        have hPe : va_P (dC, dI) vwCl [(h0, .inr (3, [.int (((wk_fc ws n 1000000 w).1) 0), .int (((wk_fc ws n 1000000 w).1) 1), .int (((wk_fc ws n 1000000 w).1) 2), .int (((wk_fc ws n 1000000 w).1) 3), .int (((wk_fc ws n 1000000 w).1) 4), .int (((wk_fc ws n 1000000 w).1) 5), .int (((wk_fc ws n 1000000 w).1) 6), .int (((wk_fc ws n 1000000 w).1) 7)])), (g0, .inr (0, [.ref gw, .ref go, .int n])), (gw, .inl (cI, 48, .inl ws))] H := by rw [e9]; exact hP
        have hDe : va_D A [(h0, .inr (3, [.int (((wk_fc ws n 1000000 w).1) 0), .int (((wk_fc ws n 1000000 w).1) 1), .int (((wk_fc ws n 1000000 w).1) 2), .int (((wk_fc ws n 1000000 w).1) 3), .int (((wk_fc ws n 1000000 w).1) 4), .int (((wk_fc ws n 1000000 w).1) 5), .int (((wk_fc ws n 1000000 w).1) 6), .int (((wk_fc ws n 1000000 w).1) 7)])), (g0, .inr (0, [.ref gw, .ref go, .int n])), (gw, .inl (cI, 48, .inl ws))] := sp_Dc hD rfl
        exact W.zret hx hb hr rfl (sp_eWi (by rw [e9]) hPe hDe hS) hS.2.2 dW_findChange_98
      · refine lv_aload_n hx hb dW_findChange_8 rfl (lv_at hl 1 rfl) ?_
        refine va_get (D := (dC, dI)) (ci := 3) (C := rW) (T := tW) (N := 8) hx hb hA inW hown hK hP 0 rfl rfl 0 (by decide) (hA _ wi_61) (fun _ h9 => h9) rfl dW_findChange_9 ?_
        refine lv_if_ne (tgt := 35) hx hb dW_findChange_12 (by decide) (fun c_12 => ?_) (fun c_12 => ?_)
        · refine lv_aload_n hx hb dW_findChange_35 rfl (lv_at hl 2 rfl) ?_
          refine lv_aload_n hx hb dW_findChange_36 rfl (lv_at hl 1 rfl) ?_
          refine va_get (D := (dC, dI)) (ci := 3) (C := rW) (T := tW) (N := 8) hx hb hA inW hown hK hP 0 rfl rfl 4 (by decide) (hA _ wi_65) (fun _ h9 => h9) rfl dW_findChange_37 ?_
          refine va_calli (va_runV (As := [.int (w9 4)]) (rest := []) ⟨hx, hb, hml, hown, hA⟩ (kP_has l dC dI cI cQ g0 gw go n (w9 4)) (cwV 1 hA (gd_V wi_422 wi_304 wi_305 wi_3 wi_306) rfl rfl rfl (by decide +kernel) ⟨Nat.le_of_ble_eq_true rfl, Nat.le_of_ble_eq_true rfl⟩) ⟨sp_Rb, va_recv hK hP (ci := 0) (q0 := 1) rfl rfl, sp_Ro (hP.sub [1] rfl) hK hG⟩ rfl rfl hl.1 rfl (lv_room (Nat.le_of_ble_eq_true rfl)) dW_findChange_40 ⟨Nat.le_of_ble_eq_true rfl, Nat.le_of_ble_eq_true rfl⟩) hS (fun _ _ h => h.elim) (fun _ h => h.elim) (fun r_40 u_40 t H locs ht hvm hw hB hz1 hk1 hS => ?_)
          subst hw
          have hP := sp_kp hP hk1
          refine lv_if_eq (tgt := 74) hx hb dW_findChange_43 (by decide) (fun c_43 => ?_) (fun c_43 => ?_)
          · refine lv_aload_n hx hb dW_findChange_74 rfl (lv_at hl 1 rfl) ?_
            refine va_get (D := (dC, dI)) (ci := 3) (C := rW) (T := tW) (N := 8) hx hb hA inW hown hK hP 0 rfl rfl 6 (by decide) (hA _ wi_67) (fun _ h9 => h9) rfl dW_findChange_75 ?_
            refine lv_if_eq (tgt := 89) hx hb dW_findChange_78 (by decide) (fun c_78 => ?_) (fun c_78 => ?_)
            · refine lv_iconst (v := 0) hx hb dW_findChange_89 (by decide) ?_
              have hi9 := ml_lt (show i < 2 ^ 31 by omega) c_5
              have e9 : wk_fc ws n 1000000 w = (w9, 0) := by rw [← hfc, show 1000000 - i = (1000000 - (i + 1)) + 1 by omega, wk_fc]; simp only [c_12, c_43, c_78, if_true, if_false, ↓reduceIte]
              have hPe : va_P (dC, dI) vwCl [(h0, .inr (3, [.int (((wk_fc ws n 1000000 w).1) 0), .int (((wk_fc ws n 1000000 w).1) 1), .int (((wk_fc ws n 1000000 w).1) 2), .int (((wk_fc ws n 1000000 w).1) 3), .int (((wk_fc ws n 1000000 w).1) 4), .int (((wk_fc ws n 1000000 w).1) 5), .int (((wk_fc ws n 1000000 w).1) 6), .int (((wk_fc ws n 1000000 w).1) 7)])), (g0, .inr (0, [.ref gw, .ref go, .int n])), (gw, .inl (cI, 48, .inl ws))] H := by rw [e9]; exact hP
              have hDe : va_D A [(h0, .inr (3, [.int (((wk_fc ws n 1000000 w).1) 0), .int (((wk_fc ws n 1000000 w).1) 1), .int (((wk_fc ws n 1000000 w).1) 2), .int (((wk_fc ws n 1000000 w).1) 3), .int (((wk_fc ws n 1000000 w).1) 4), .int (((wk_fc ws n 1000000 w).1) 5), .int (((wk_fc ws n 1000000 w).1) 6), .int (((wk_fc ws n 1000000 w).1) 7)])), (g0, .inr (0, [.ref gw, .ref go, .int n])), (gw, .inl (cI, 48, .inl ws))] := sp_Dc hD rfl
              exact W.zret hx hb hr rfl (sp_eWi (by rw [e9]) hPe hDe hS) hS.2.2 dW_findChange_90
            · refine lv_aload_n hx hb dW_findChange_81 rfl (lv_at hl 1 rfl) ?_
              refine lv_iconst (v := 1) hx hb dW_findChange_82 (by decide) ?_
              have hPc := hP.sub (ws' := [(h0, .inr (3, [.int (w9 0), .int (w9 1), .int (w9 2), .int (w9 3), .int (w9 4), .int (w9 5), .int (w9 6), .int (w9 7)]))]) [0] rfl
              have hDc := hD.sub (ws' := [(h0, .inr (3, [.int (w9 0), .int (w9 1), .int (w9 2), .int (w9 3), .int (w9 4), .int (w9 5), .int (w9 6), .int (w9 7)]))]) [0] (by decide) rfl
              have hFc := va_free (wc := [(h0, .inr (3, [.int (w9 0), .int (w9 1), .int (w9 2), .int (w9 3), .int (w9 4), .int (w9 5), .int (w9 6), .int (w9 7)]))]) hD hS hF [0] rfl
              refine va_callv (va_runV (As := [.int 1]) (rest := []) ⟨hx, hb, hml, hown, hA⟩ (kW_sl l dC dI cI cQ h0 w9 1 _) (cwV 1 hA (gd_V wi_433 wi_366 wi_367 wi_5 wi_368) rfl rfl rfl (by decide +kernel) ⟨Nat.le_of_ble_eq_true rfl, Nat.le_of_ble_eq_true rfl⟩) ⟨sp_Pb, va_recv hK hP (ci := 3) (q0 := 0) rfl rfl, sp_Po hPc hK hG hDc⟩ rfl rfl hl.1 rfl (lv_room (Nat.le_of_ble_eq_true rfl)) dW_findChange_83 ⟨Nat.le_of_ble_eq_true rfl, Nat.le_of_ble_eq_true rfl⟩) hS (fun q _ h => hFc q h) hFc (fun u_83 t H locs ht hvm hw hB hz1 hk1 hS => ?_)
              obtain ⟨hP1, hD1⟩ := hB
              rw [ht] at hP1
              obtain ⟨hP, hD⟩ := va_join (wr := [(g0, .inr (0, [.ref gw, .ref go, .int n])), (gw, .inl (cI, 48, .inl ws))]) (w1 := [(h0, .inr (3, [.int ((wk_sl w9 1) 0), .int ((wk_sl w9 1) 1), .int ((wk_sl w9 1) 2), .int ((wk_sl w9 1) 3), .int ((wk_sl w9 1) 4), .int ((wk_sl w9 1) 5), .int ((wk_sl w9 1) 6), .int ((wk_sl w9 1) 7)]))]) hP hD [0] [1, 2] rfl rfl (by decide) (by decide) hk1 hFc hP1 hD1
              have hP : va_P (dC, dI) vwCl [(h0, .inr (3, [.int ((wk_sl w9 1) 0), .int ((wk_sl w9 1) 1), .int ((wk_sl w9 1) 2), .int ((wk_sl w9 1) 3), .int ((wk_sl w9 1) 4), .int ((wk_sl w9 1) 5), .int ((wk_sl w9 1) 6), .int ((wk_sl w9 1) 7)])), (g0, .inr (0, [.ref gw, .ref go, .int n])), (gw, .inl (cI, 48, .inl ws))] H := hP.sub [2, 0, 1] rfl
              have hD : va_D A [(h0, .inr (3, [.int ((wk_sl w9 1) 0), .int ((wk_sl w9 1) 1), .int ((wk_sl w9 1) 2), .int ((wk_sl w9 1) 3), .int ((wk_sl w9 1) 4), .int ((wk_sl w9 1) 5), .int ((wk_sl w9 1) 6), .int ((wk_sl w9 1) 7)])), (g0, .inr (0, [.ref gw, .ref go, .int n])), (gw, .inl (cI, 48, .inl ws))] := hD.sub [2, 0, 1] (by decide) rfl
              refine lv_goto (tgt := 91) hx hb dW_findChange_86 (by decide) ?_
              refine lv_iinc (v := ((nI i) + 1)) (lv' := [(2, .int ((nI i) + 1)), (0, .ref h0), (1, .ref g0)]) hx hb dW_findChange_91 hl (k := 0) rfl rfl (by decide) rfl (fun ls hl => ?_)
              refine lv_goto (tgt := 2) hx hb dW_findChange_94 (by decide) ?_
              have hi9 := ml_lt (show i < 2 ^ 31 by omega) c_5
              have ek : 1000000 - i = (1000000 - (i + 1)) + 1 := by omega
              refine ih (i + 1) (wk_sl w9 1) H locs ls (by omega) (by omega) (by rw [← hfc, ek, wk_fc]; simp only [c_12, c_43, c_78, if_true, if_false, ↓reduceIte]) hP (sp_Dc hD rfl) hS ?_
              have h9 := lv_sub hl [0, 1, 2] rfl
              rw [nI_1] at h9
              exact h9
          · refine lv_aload_n hx hb dW_findChange_46 rfl (lv_at hl 1 rfl) ?_
            refine lv_aload_n hx hb dW_findChange_47 rfl (lv_at hl 2 rfl) ?_
            refine lv_aload_n hx hb dW_findChange_48 rfl (lv_at hl 1 rfl) ?_
            refine va_get (D := (dC, dI)) (ci := 3) (C := rW) (T := tW) (N := 8) hx hb hA inW hown hK hP 0 rfl rfl 4 (by decide) (hA _ wi_65) (fun _ h9 => h9) rfl dW_findChange_49 ?_
            refine lv_aload_n hx hb dW_findChange_52 rfl (lv_at hl 1 rfl) ?_
            refine va_get (D := (dC, dI)) (ci := 3) (C := rW) (T := tW) (N := 8) hx hb hA inW hown hK hP 0 rfl rfl 5 (by decide) (hA _ wi_66) (fun _ h9 => h9) rfl dW_findChange_53 ?_
            refine va_calli (va_runV (As := [.int (w9 4), .int (w9 5)]) (rest := [.ref h0]) ⟨hx, hb, hml, hown, hA⟩ (kP_byteOf l dC dI cI cQ g0 gw go n ws (w9 4) (w9 5)) (cwV 2 hA (gd_V wi_390 wi_391 wi_392 wi_3 wi_393) rfl rfl rfl (by decide +kernel) ⟨Nat.le_of_ble_eq_true rfl, Nat.le_of_ble_eq_true rfl⟩) ⟨sp_Rb, va_recv hK hP (ci := 0) (q0 := 1) rfl rfl, sp_Ro (hP.sub [1, 2] rfl) hK hG⟩ rfl rfl hl.1 rfl (lv_room (Nat.le_of_ble_eq_true rfl)) dW_findChange_56 ⟨Nat.le_of_ble_eq_true rfl, Nat.le_of_ble_eq_true rfl⟩) hS (fun _ _ h => h.elim) (fun _ h => h.elim) (fun r_56 u_56 t H locs ht hvm hw hB hz1 hk1 hS => ?_)
            subst hw
            have hP := sp_kp hP hk1
            refine va_calli (va_runV (As := [.int (pg_byte ws n (w9 4) (w9 5))]) (rest := []) ⟨hx, hb, hml, hown, hA⟩ (kW_can l dC dI cI cQ h0 w9 (pg_byte ws n (w9 4) (w9 5))) (cwV 1 hA (gd_V wi_429 wi_430 wi_677 wi_5 wi_431) rfl rfl rfl (by decide +kernel) ⟨Nat.le_of_ble_eq_true rfl, Nat.le_of_ble_eq_true rfl⟩) ⟨sp_Rb, va_recv hK hP (ci := 3) (q0 := 0) rfl rfl, sp_Ro (hP.sub [0] rfl) hK hG⟩ rfl rfl hl.1 rfl (lv_room (Nat.le_of_ble_eq_true rfl)) dW_findChange_59 ⟨Nat.le_of_ble_eq_true rfl, Nat.le_of_ble_eq_true rfl⟩) hS (fun _ _ h => h.elim) (fun _ h => h.elim) (fun r_59 u_59 t H locs ht hvm hw hB hz1 hk1 hS => ?_)
            subst hw
            have hP := sp_kp hP hk1
            refine lv_if_eq (tgt := 67) hx hb dW_findChange_62 (by decide) (fun c_62 => ?_) (fun c_62 => ?_)
            · refine lv_aload_n hx hb dW_findChange_67 rfl (lv_at hl 1 rfl) ?_
              have hPc := hP.sub (ws' := [(h0, .inr (3, [.int (w9 0), .int (w9 1), .int (w9 2), .int (w9 3), .int (w9 4), .int (w9 5), .int (w9 6), .int (w9 7)]))]) [0] rfl
              have hDc := hD.sub (ws' := [(h0, .inr (3, [.int (w9 0), .int (w9 1), .int (w9 2), .int (w9 3), .int (w9 4), .int (w9 5), .int (w9 6), .int (w9 7)]))]) [0] (by decide) rfl
              have hFc := va_free (wc := [(h0, .inr (3, [.int (w9 0), .int (w9 1), .int (w9 2), .int (w9 3), .int (w9 4), .int (w9 5), .int (w9 6), .int (w9 7)]))]) hD hS hF [0] rfl
              refine va_callv (va_runV (As := []) (rest := []) ⟨hx, hb, hml, hown, hA⟩ (kW_pass l dC dI cI cQ h0 w9 _) (cwV 0 hA (gd_V wi_432 wi_376 wi_377 wi_5 wi_378) rfl rfl rfl (by decide +kernel) ⟨Nat.le_of_ble_eq_true rfl, Nat.le_of_ble_eq_true rfl⟩) ⟨sp_Pb, va_recv hK hP (ci := 3) (q0 := 0) rfl rfl, sp_Po hPc hK hG hDc⟩ rfl rfl hl.1 rfl (lv_room (Nat.le_of_ble_eq_true rfl)) dW_findChange_68 ⟨Nat.le_of_ble_eq_true rfl, Nat.le_of_ble_eq_true rfl⟩) hS (fun q _ h => hFc q h) hFc (fun u_68 t H locs ht hvm hw hB hz1 hk1 hS => ?_)
              obtain ⟨hP1, hD1⟩ := hB
              rw [ht] at hP1
              obtain ⟨hP, hD⟩ := va_join (wr := [(g0, .inr (0, [.ref gw, .ref go, .int n])), (gw, .inl (cI, 48, .inl ws))]) (w1 := [(h0, .inr (3, [.int ((wk_pass w9) 0), .int ((wk_pass w9) 1), .int ((wk_pass w9) 2), .int ((wk_pass w9) 3), .int ((wk_pass w9) 4), .int ((wk_pass w9) 5), .int ((wk_pass w9) 6), .int ((wk_pass w9) 7)]))]) hP hD [0] [1, 2] rfl rfl (by decide) (by decide) hk1 hFc hP1 hD1
              have hP : va_P (dC, dI) vwCl [(h0, .inr (3, [.int ((wk_pass w9) 0), .int ((wk_pass w9) 1), .int ((wk_pass w9) 2), .int ((wk_pass w9) 3), .int ((wk_pass w9) 4), .int ((wk_pass w9) 5), .int ((wk_pass w9) 6), .int ((wk_pass w9) 7)])), (g0, .inr (0, [.ref gw, .ref go, .int n])), (gw, .inl (cI, 48, .inl ws))] H := hP.sub [2, 0, 1] rfl
              have hD : va_D A [(h0, .inr (3, [.int ((wk_pass w9) 0), .int ((wk_pass w9) 1), .int ((wk_pass w9) 2), .int ((wk_pass w9) 3), .int ((wk_pass w9) 4), .int ((wk_pass w9) 5), .int ((wk_pass w9) 6), .int ((wk_pass w9) 7)])), (g0, .inr (0, [.ref gw, .ref go, .int n])), (gw, .inl (cI, 48, .inl ws))] := hD.sub [2, 0, 1] (by decide) rfl
              refine lv_goto (tgt := 91) hx hb dW_findChange_71 (by decide) ?_
              refine lv_iinc (v := ((nI i) + 1)) (lv' := [(2, .int ((nI i) + 1)), (0, .ref h0), (1, .ref g0)]) hx hb dW_findChange_91 hl (k := 0) rfl rfl (by decide) rfl (fun ls hl => ?_)
              refine lv_goto (tgt := 2) hx hb dW_findChange_94 (by decide) ?_
              have hi9 := ml_lt (show i < 2 ^ 31 by omega) c_5
              have ek : 1000000 - i = (1000000 - (i + 1)) + 1 := by omega
              refine ih (i + 1) (wk_pass w9) H locs ls (by omega) (by omega) (by rw [← hfc, ek, wk_fc]; simp only [c_12, c_43, c_62, if_true, if_false, ↓reduceIte]) hP (sp_Dc hD rfl) hS ?_
              have h9 := lv_sub hl [0, 1, 2] rfl
              rw [nI_1] at h9
              exact h9
            · refine lv_iconst (v := 1) hx hb dW_findChange_65 (by decide) ?_
              have hi9 := ml_lt (show i < 2 ^ 31 by omega) c_5
              have e9 : wk_fc ws n 1000000 w = (w9, 1) := by rw [← hfc, show 1000000 - i = (1000000 - (i + 1)) + 1 by omega, wk_fc]; simp only [c_12, c_43, c_62, if_true, if_false, ↓reduceIte]
              have hPe : va_P (dC, dI) vwCl [(h0, .inr (3, [.int (((wk_fc ws n 1000000 w).1) 0), .int (((wk_fc ws n 1000000 w).1) 1), .int (((wk_fc ws n 1000000 w).1) 2), .int (((wk_fc ws n 1000000 w).1) 3), .int (((wk_fc ws n 1000000 w).1) 4), .int (((wk_fc ws n 1000000 w).1) 5), .int (((wk_fc ws n 1000000 w).1) 6), .int (((wk_fc ws n 1000000 w).1) 7)])), (g0, .inr (0, [.ref gw, .ref go, .int n])), (gw, .inl (cI, 48, .inl ws))] H := by rw [e9]; exact hP
              have hDe : va_D A [(h0, .inr (3, [.int (((wk_fc ws n 1000000 w).1) 0), .int (((wk_fc ws n 1000000 w).1) 1), .int (((wk_fc ws n 1000000 w).1) 2), .int (((wk_fc ws n 1000000 w).1) 3), .int (((wk_fc ws n 1000000 w).1) 4), .int (((wk_fc ws n 1000000 w).1) 5), .int (((wk_fc ws n 1000000 w).1) 6), .int (((wk_fc ws n 1000000 w).1) 7)])), (g0, .inr (0, [.ref gw, .ref go, .int n])), (gw, .inl (cI, 48, .inl ws))] := sp_Dc hD rfl
              exact W.zret hx hb hr rfl (sp_eWi (by rw [e9]) hPe hDe hS) hS.2.2 dW_findChange_66
        · refine lv_aload_n hx hb dW_findChange_15 rfl (lv_at hl 2 rfl) ?_
          refine lv_aload_n hx hb dW_findChange_16 rfl (lv_at hl 1 rfl) ?_
          refine va_get (D := (dC, dI)) (ci := 3) (C := rW) (T := tW) (N := 8) hx hb hA inW hown hK hP 0 rfl rfl 2 (by decide) (hA _ wi_63) (fun _ h9 => h9) rfl dW_findChange_17 ?_
          refine va_calli (va_runV (As := [.int (w9 2)]) (rest := []) ⟨hx, hb, hml, hown, hA⟩ (kP_has l dC dI cI cQ g0 gw go n (w9 2)) (cwV 1 hA (gd_V wi_422 wi_304 wi_305 wi_3 wi_306) rfl rfl rfl (by decide +kernel) ⟨Nat.le_of_ble_eq_true rfl, Nat.le_of_ble_eq_true rfl⟩) ⟨sp_Rb, va_recv hK hP (ci := 0) (q0 := 1) rfl rfl, sp_Ro (hP.sub [1] rfl) hK hG⟩ rfl rfl hl.1 rfl (lv_room (Nat.le_of_ble_eq_true rfl)) dW_findChange_20 ⟨Nat.le_of_ble_eq_true rfl, Nat.le_of_ble_eq_true rfl⟩) hS (fun _ _ h => h.elim) (fun _ h => h.elim) (fun r_20 u_20 t H locs ht hvm hw hB hz1 hk1 hS => ?_)
          subst hw
          have hP := sp_kp hP hk1
          refine lv_if_eq (tgt := 28) hx hb dW_findChange_23 (by decide) (fun c_23 => ?_) (fun c_23 => ?_)
          · refine lv_aload_n hx hb dW_findChange_28 rfl (lv_at hl 1 rfl) ?_
            have hPc := hP.sub (ws' := [(h0, .inr (3, [.int (w9 0), .int (w9 1), .int (w9 2), .int (w9 3), .int (w9 4), .int (w9 5), .int (w9 6), .int (w9 7)]))]) [0] rfl
            have hDc := hD.sub (ws' := [(h0, .inr (3, [.int (w9 0), .int (w9 1), .int (w9 2), .int (w9 3), .int (w9 4), .int (w9 5), .int (w9 6), .int (w9 7)]))]) [0] (by decide) rfl
            have hFc := va_free (wc := [(h0, .inr (3, [.int (w9 0), .int (w9 1), .int (w9 2), .int (w9 3), .int (w9 4), .int (w9 5), .int (w9 6), .int (w9 7)]))]) hD hS hF [0] rfl
            refine va_callv (va_runV (As := []) (rest := []) ⟨hx, hb, hml, hown, hA⟩ (kW_end l dC dI cI cQ h0 w9 _) (cwV 0 hA (gd_V wi_423 wi_424 wi_675 wi_5 wi_425) rfl rfl rfl (by decide +kernel) ⟨Nat.le_of_ble_eq_true rfl, Nat.le_of_ble_eq_true rfl⟩) ⟨sp_Pb, va_recv hK hP (ci := 3) (q0 := 0) rfl rfl, sp_Po hPc hK hG hDc⟩ rfl rfl hl.1 rfl (lv_room (Nat.le_of_ble_eq_true rfl)) dW_findChange_29 ⟨Nat.le_of_ble_eq_true rfl, Nat.le_of_ble_eq_true rfl⟩) hS (fun q _ h => hFc q h) hFc (fun u_29 t H locs ht hvm hw hB hz1 hk1 hS => ?_)
            obtain ⟨hP1, hD1⟩ := hB
            rw [ht] at hP1
            obtain ⟨hP, hD⟩ := va_join (wr := [(g0, .inr (0, [.ref gw, .ref go, .int n])), (gw, .inl (cI, 48, .inl ws))]) (w1 := [(h0, .inr (3, [.int ((wk_end w9) 0), .int ((wk_end w9) 1), .int ((wk_end w9) 2), .int ((wk_end w9) 3), .int ((wk_end w9) 4), .int ((wk_end w9) 5), .int ((wk_end w9) 6), .int ((wk_end w9) 7)]))]) hP hD [0] [1, 2] rfl rfl (by decide) (by decide) hk1 hFc hP1 hD1
            have hP : va_P (dC, dI) vwCl [(h0, .inr (3, [.int ((wk_end w9) 0), .int ((wk_end w9) 1), .int ((wk_end w9) 2), .int ((wk_end w9) 3), .int ((wk_end w9) 4), .int ((wk_end w9) 5), .int ((wk_end w9) 6), .int ((wk_end w9) 7)])), (g0, .inr (0, [.ref gw, .ref go, .int n])), (gw, .inl (cI, 48, .inl ws))] H := hP.sub [2, 0, 1] rfl
            have hD : va_D A [(h0, .inr (3, [.int ((wk_end w9) 0), .int ((wk_end w9) 1), .int ((wk_end w9) 2), .int ((wk_end w9) 3), .int ((wk_end w9) 4), .int ((wk_end w9) 5), .int ((wk_end w9) 6), .int ((wk_end w9) 7)])), (g0, .inr (0, [.ref gw, .ref go, .int n])), (gw, .inl (cI, 48, .inl ws))] := hD.sub [2, 0, 1] (by decide) rfl
            refine lv_goto (tgt := 91) hx hb dW_findChange_32 (by decide) ?_
            refine lv_iinc (v := ((nI i) + 1)) (lv' := [(2, .int ((nI i) + 1)), (0, .ref h0), (1, .ref g0)]) hx hb dW_findChange_91 hl (k := 0) rfl rfl (by decide) rfl (fun ls hl => ?_)
            refine lv_goto (tgt := 2) hx hb dW_findChange_94 (by decide) ?_
            have hi9 := ml_lt (show i < 2 ^ 31 by omega) c_5
            have ek : 1000000 - i = (1000000 - (i + 1)) + 1 := by omega
            refine ih (i + 1) (wk_end w9) H locs ls (by omega) (by omega) (by rw [← hfc, ek, wk_fc]; simp only [c_12, c_23, if_true, if_false, ↓reduceIte]) hP (sp_Dc hD rfl) hS ?_
            have h9 := lv_sub hl [0, 1, 2] rfl
            rw [nI_1] at h9
            exact h9
          · refine lv_iconst (v := 1) hx hb dW_findChange_26 (by decide) ?_
            have hi9 := ml_lt (show i < 2 ^ 31 by omega) c_5
            have e9 : wk_fc ws n 1000000 w = (w9, 1) := by rw [← hfc, show 1000000 - i = (1000000 - (i + 1)) + 1 by omega, wk_fc]; simp only [c_12, c_23, if_true, if_false, ↓reduceIte]
            have hPe : va_P (dC, dI) vwCl [(h0, .inr (3, [.int (((wk_fc ws n 1000000 w).1) 0), .int (((wk_fc ws n 1000000 w).1) 1), .int (((wk_fc ws n 1000000 w).1) 2), .int (((wk_fc ws n 1000000 w).1) 3), .int (((wk_fc ws n 1000000 w).1) 4), .int (((wk_fc ws n 1000000 w).1) 5), .int (((wk_fc ws n 1000000 w).1) 6), .int (((wk_fc ws n 1000000 w).1) 7)])), (g0, .inr (0, [.ref gw, .ref go, .int n])), (gw, .inl (cI, 48, .inl ws))] H := by rw [e9]; exact hP
            have hDe : va_D A [(h0, .inr (3, [.int (((wk_fc ws n 1000000 w).1) 0), .int (((wk_fc ws n 1000000 w).1) 1), .int (((wk_fc ws n 1000000 w).1) 2), .int (((wk_fc ws n 1000000 w).1) 3), .int (((wk_fc ws n 1000000 w).1) 4), .int (((wk_fc ws n 1000000 w).1) 5), .int (((wk_fc ws n 1000000 w).1) 6), .int (((wk_fc ws n 1000000 w).1) 7)])), (g0, .inr (0, [.ref gw, .ref go, .int n])), (gw, .inl (cI, 48, .inl ws))] := sp_Dc hD rfl
            exact W.zret hx hb hr rfl (sp_eWi (by rw [e9]) hPe hDe hS) hS.2.2 dW_findChange_27
  exact loop ((1000000 - 0) + 1) 0 w _ _ ls (Nat.lt_succ_self _) (by omega) rfl hP (sp_Dc hD rfl) hS (lv_sub hl [0, 1, 2] rfl)
end
section
-- Ask and Memory: what their methods compute
def ak_is (mk : Int32) (n : Int32) (ws : Nat → Int32) (gm gn : Int32) (gs : Nat → Int32) : Int32 := if mk = gm then (if pg_same ws n gs gn = 0 then 0 else 1) else 0
/-- an ask: its addresses (ask, program, words, origins), then mark, answer, length, words, origins -/
abbrev AR : Type := (Nat × Nat × Nat × Nat) × Int32 × Int32 × Int32 × (Nat → Int32) × (Nat → Int32)
def ar_cells (cI : ClassId) (r : AR) : va_W := [(r.1.1, .inr (1, [.ref r.1.2.1, .int r.2.1, .int r.2.2.1])), (r.1.2.1, .inr (0, [.ref r.1.2.2.1, .ref r.1.2.2.2, .int r.2.2.2.1])), (r.1.2.2.1, .inl (cI, 48, .inl r.2.2.2.2.1)), (r.1.2.2.2, .inl (cI, 48, .inl r.2.2.2.2.2))]
def ar_W (cI : ClassId) : List AR → va_W
  | [] => []
  | r :: l => ar_cells cI r ++ ar_W cI l
def ar_f (as : List AR) : Nat → Option Nat := fun i => (as[i]?).map (fun r => r.1.1)
def mm_lim (fl : Int32) : Nat := min fl.toNatClampNeg 600
def mm_hit (gm gn : Int32) (gs : Nat → Int32) (r : AR) : Bool := decide (¬ ak_is r.2.1 r.2.2.2.1 r.2.2.2.2.1 gm gn gs = 0)
def mm_find (as : List AR) (fl gn : Int32) (gs : Nat → Int32) : Option AR := (as.take (mm_lim fl)).find? (mm_hit (pg_mark gs gn) gn gs)
def mm_last (as : List AR) (fl : Int32) : Option Nat := if fl ≤ 0 then none else if 600 < fl then none else ar_f as (fl - 1).toNatClampNeg
theorem fd_some {α : Type} {p : α → Bool} {r : α} : ∀ (l : List α) (i : Nat), l[i]? = some r → p r = true → (∀ j, j < i → ∀ x, l[j]? = some x → p x = false) → l.find? p = some r
  | [], i, h, _, _ => by simp at h
  | x :: l, 0, h, hr, _ => by
    simp at h; subst h
    rw [List.find?_cons, hr]
  | x :: l, i + 1, h, hr, hno => by
    have h0 : p x = false := hno 0 (by omega) x rfl
    rw [List.find?_cons, h0]
    exact fd_some l i (by simpa using h) hr (fun j hj y hy => hno (j + 1) (by omega) y (by simpa using hy))
theorem fd_none {α : Type} {p : α → Bool} (l : List α) (h : ∀ (j : Nat) (x : α), l[j]? = some x → p x = false) : l.find? p = none := by
  rw [List.find?_eq_none]
  intro x hx
  obtain ⟨j, hj⟩ := List.getElem?_of_mem hx
  rw [h j x hj]; decide
theorem mm_some {as : List AR} {fl gn : Int32} {gs : Nat → Int32} {r : AR} {i : Nat} (hi : i < mm_lim fl) (h : as[i]? = some r) (hr : ¬ ak_is r.2.1 r.2.2.2.1 r.2.2.2.2.1 (pg_mark gs gn) gn gs = 0) (hno : ∀ j, j < i → ∀ x, as[j]? = some x → ak_is x.2.1 x.2.2.2.1 x.2.2.2.2.1 (pg_mark gs gn) gn gs = 0) : mm_find as fl gn gs = some r := by
  refine fd_some _ i (by rw [List.getElem?_take, if_pos hi]; exact h) (by simp [mm_hit, hr]) (fun j hj x hx => ?_)
  rw [List.getElem?_take, if_pos (by omega)] at hx
  simp [mm_hit, hno j hj x hx]
theorem mm_none {as : List AR} {fl gn : Int32} {gs : Nat → Int32} (hno : ∀ j, j < mm_lim fl → ∀ x, as[j]? = some x → ak_is x.2.1 x.2.2.2.1 x.2.2.2.2.1 (pg_mark gs gn) gn gs = 0) : mm_find as fl gn gs = none := by
  refine fd_none _ (fun j x hx => ?_)
  rw [List.getElem?_take] at hx
  by_cases h : j < mm_lim fl
  · rw [if_pos h] at hx
    simp [mm_hit, hno j h x hx]
  · rw [if_neg h] at hx; cases hx
/-- the cells of an ask stand among the pool's -/
theorem ar_split {cI : ClassId} : ∀ {as : List AR} {i : Nat} {r : AR}, as[i]? = some r → ∃ l1 l2, as = l1 ++ r :: l2 ∧ l1.length = i ∧ ar_W cI as = ar_W cI l1 ++ (ar_cells cI r ++ ar_W cI l2)
  | [], i, r, h => by simp at h
  | x :: l, 0, r, h => by
    simp at h; subst h
    exact ⟨[], l, rfl, rfl, rfl⟩
  | x :: l, i + 1, r, h => by
    obtain ⟨l1, l2, e, e2, e3⟩ := ar_split (cI := cI) (as := l) (i := i) (by simpa using h)
    exact ⟨x :: l1, l2, by rw [e]; rfl, by rw [List.length_cons, e2], by rw [ar_W, e3, ar_W, List.append_assoc]⟩
theorem ar_app (cI : ClassId) : ∀ (l1 l2 : List AR), ar_W cI (l1 ++ l2) = ar_W cI l1 ++ ar_W cI l2
  | [], _ => rfl
  | r :: l, l2 => by rw [List.cons_append, ar_W, ar_app cI l l2, ar_W, List.append_assoc]
theorem va_P_mid {D : va_G} {cl : List vw_C} {X Y Z : va_W} {H : Heap} (h : va_P D cl (X ++ (Y ++ Z)) H) : va_P D cl Y H := by
  intro k q hk
  have hl : k < Y.length := (List.getElem?_eq_some_iff.mp hk).1
  refine h (X.length + k) q ?_
  rw [List.getElem?_append_right (by omega), Nat.add_sub_cancel_left, List.getElem?_append_left hl]
  exact hk
theorem ar_at {D : va_G} {cl : List vw_C} {cI : ClassId} {X : va_W} {as : List AR} {i : Nat} {r : AR} {H : Heap} (h : va_P D cl (X ++ ar_W cI as) H) (hi : as[i]? = some r) : va_P D cl (ar_cells cI r) H := by
  obtain ⟨l1, l2, -, -, e⟩ := ar_split (cI := cI) hi
  rw [e, ← List.append_assoc] at h
  exact va_P_mid h
theorem va_P_l {D : va_G} {cl : List vw_C} {X Y : va_W} {H : Heap} (h : va_P D cl (X ++ Y) H) : va_P D cl X H := fun k q hk => h k q (by rw [List.getElem?_append_left (List.getElem?_eq_some_iff.mp hk).1]; exact hk)
end
section
-- Ask: contracts (by wip/gen/askc.py)
set_option maxHeartbeats 4000000 in
set_option maxRecDepth 100000 in
theorem kA_program (l : Launch) (dC : Nat → ClassId) (dI : Nat → Nat → Nat) (cI cQ : ClassId) (a0 p0 : Nat) (mk an : Int32)  : Met l yA_program (.code yA_program cA_program 1 (some (.object "ShortenPrograms$Program")) :: wA) ({ frames := 0, cells := 0, slots := 0, locals := 0 }) (sp_R (dC, dI) (kT cI cQ) [.ref a0] [(a0, .inr (1, [.ref p0, .int mk, .int an]))]) (sp_QRq (some p0)) 0 0 (fun _ => False) := by
  refine Met.ofW (cc := cA_program) (maxL := 1) (ret := (some (.object "ShortenPrograms$Program"))) (by decide) rfl ?_
  intro p e s m args below meth c s₁ B hml hv
  obtain ⟨rfl, hP, hK, hG⟩ := hv
  have hx := B.exec
  have hb := B.bytes
  have hr := B.returns
  have hA := sp_hA (atoms_spec (ws := (.code yA_program cA_program 1 (some (.object "ShortenPrograms$Program")) :: wA)) B.pre)
  have hown : s.vm.findClass rA = some m.cls := findClass_of_methodNamed B.named
  have hlocks := B.notSynchronized
  have hS : va_S (fun _ => False) s.heap s.heap [] := va_S.rf
  have hl := lv_entry ([.ref a0]) (n := 1) (Nat.le_of_ble_eq_true rfl)
  rw [lg_entry_eq]
  generalize (lg_sl ([.ref a0]) ++ List.replicate (1 - (lg_sl ([.ref a0])).length) Slot.unset).toArray = ls at hl ⊢
  have hl : lv_has ls 1 [(0, .ref a0)] := hl
  refine lv_aload_n hx hb dA_program_0 rfl (lv_at hl 0 rfl) ?_
  refine va_get (D := (dC, dI)) (ci := 1) (C := rA) (T := tA) (N := 3) hx hb hA inA hown hK hP 0 rfl rfl 0 (by decide) (hA _ wi_259) (fun _ h9 => h9) rfl dA_program_1 ?_
  exact W.aret hx hb hr (Or.inl ⟨_, rfl⟩) (Or.inr ⟨_, rfl⟩) (sp_eRq (w := (some p0)) rfl (rfl) hS) hS.2.2 dA_program_4
set_option maxHeartbeats 4000000 in
set_option maxRecDepth 100000 in
theorem kA_answer (l : Launch) (dC : Nat → ClassId) (dI : Nat → Nat → Nat) (cI cQ : ClassId) (a0 p0 : Nat) (mk an : Int32)  : Met l yA_answer (.code yA_answer cA_answer 1 (some .int) :: wA) ({ frames := 0, cells := 0, slots := 0, locals := 0 }) (sp_R (dC, dI) (kT cI cQ) [.ref a0] [(a0, .inr (1, [.ref p0, .int mk, .int an]))]) (sp_QRi an) 0 0 (fun _ => False) := by
  refine Met.ofW (cc := cA_answer) (maxL := 1) (ret := (some .int)) (by decide) rfl ?_
  intro p e s m args below meth c s₁ B hml hv
  obtain ⟨rfl, hP, hK, hG⟩ := hv
  have hx := B.exec
  have hb := B.bytes
  have hr := B.returns
  have hA := sp_hA (atoms_spec (ws := (.code yA_answer cA_answer 1 (some .int) :: wA)) B.pre)
  have hown : s.vm.findClass rA = some m.cls := findClass_of_methodNamed B.named
  have hlocks := B.notSynchronized
  have hS : va_S (fun _ => False) s.heap s.heap [] := va_S.rf
  have hl := lv_entry ([.ref a0]) (n := 1) (Nat.le_of_ble_eq_true rfl)
  rw [lg_entry_eq]
  generalize (lg_sl ([.ref a0]) ++ List.replicate (1 - (lg_sl ([.ref a0])).length) Slot.unset).toArray = ls at hl ⊢
  have hl : lv_has ls 1 [(0, .ref a0)] := hl
  refine lv_aload_n hx hb dA_answer_0 rfl (lv_at hl 0 rfl) ?_
  refine va_get (D := (dC, dI)) (ci := 1) (C := rA) (T := tA) (N := 3) hx hb hA inA hown hK hP 0 rfl rfl 2 (by decide) (hA _ wi_261) (fun _ h9 => h9) rfl dA_answer_1 ?_
  exact W.iret hx hb hr (sp_eRi (rfl) hS) hS.2.2 dA_answer_4
set_option maxHeartbeats 4000000 in
set_option maxRecDepth 100000 in
theorem kA_set (l : Launch) (dC : Nat → ClassId) (dI : Nat → Nat → Nat) (cI cQ : ClassId) (a0 p0 : Nat) (mk an : Int32) (x : Int32) (sz : Nat)  : Met l yA_setAnswer (.code yA_setAnswer cA_setAnswer 2 none :: wA) ({ frames := 0, cells := 0, slots := 0, locals := 0 }) (sp_P (dC, dI) (kT cI cQ) [.ref a0, .int x] [(a0, .inr (1, [.ref p0, .int mk, .int an]))] sz) (sp_QWv (dC, dI) [(a0, .inr (1, [.ref p0, .int mk, .int x]))] (va_A [(a0, .inr (1, [.ref p0, .int mk, .int an]))] sz)) 0 0 (va_A [(a0, .inr (1, [.ref p0, .int mk, .int an]))] sz) := by
  refine Met.ofW (cc := cA_setAnswer) (maxL := 2) (ret := none) (by decide) rfl ?_
  intro p e s m args below meth c s₁ B hml hv
  obtain ⟨rfl, hsz, hP, hK, hD0, hG⟩ := hv
  have hx := B.exec
  have hb := B.bytes
  have hr := B.returns
  have hA := sp_hA (atoms_spec (ws := (.code yA_setAnswer cA_setAnswer 2 none :: wA)) B.pre)
  have hown : s.vm.findClass rA = some m.cls := findClass_of_methodNamed B.named
  have hlocks := B.notSynchronized
  subst hsz
  have hD := hD0.self (sz := s.heap.size)
  generalize hAe : va_A [(a0, .inr (1, [.ref p0, .int mk, .int an]))] s.heap.size = A at hD ⊢
  have hF : ∀ q : Nat, s.heap.size ≤ q → A q := fun q h => by rw [← hAe]; exact Or.inr h
  have hS : va_S A s.heap s.heap [] := va_S.rf
  have hl := lv_entry ([.ref a0, .int x]) (n := 2) (Nat.le_of_ble_eq_true rfl)
  rw [lg_entry_eq]
  generalize (lg_sl ([.ref a0, .int x]) ++ List.replicate (2 - (lg_sl ([.ref a0, .int x])).length) Slot.unset).toArray = ls at hl ⊢
  have hl : lv_has ls 2 [(0, .ref a0), (1, .int x)] := hl
  refine lv_aload_n hx hb dA_setAnswer_0 rfl (lv_at hl 0 rfl) ?_
  refine lv_iload_n hx hb dA_setAnswer_1 rfl (lv_at hl 1 rfl) ?_
  refine va_put (D := (dC, dI)) (ci := 1) (v := .int x) (ty := .int) (C := rA) (T := tA) (N := 3) hx hb hA inA tyA tyA_ok nmA hown hK hP hD hS 0 rfl rfl 2 (by decide) (hA _ wi_261) (fun _ h9 => h9) rfl (by decide +kernel) rfl rfl (Nat.le_of_ble_eq_true rfl) dA_setAnswer_2 (fun H locs hP hD hS => ?_)
  have hP : va_P (dC, dI) vwCl [(a0, .inr (1, [.ref p0, .int mk, .int x]))] H := hP
  have hD : va_D A [(a0, .inr (1, [.ref p0, .int mk, .int x]))] := hD
  have hPe : va_P (dC, dI) vwCl [(a0, .inr (1, [.ref p0, .int mk, .int x]))] H := by exact hP
  have hDe : va_D A [(a0, .inr (1, [.ref p0, .int mk, .int x]))] := sp_Dc hD rfl
  exact W.vret hx hb hr (sp_eWv hPe hDe hS) hS.2.2 dA_setAnswer_5
set_option maxHeartbeats 4000000 in
set_option maxRecDepth 100000 in
theorem kA_open (l : Launch) (dC : Nat → ClassId) (dI : Nat → Nat → Nat) (cI cQ : ClassId) (a0 p0 : Nat) (mk an : Int32) (w0 o0 : Nat) (n : Int32) (ws os : Nat → Int32) (g0 gw go : Nat) (n' : Int32) (ws' os' : Nat → Int32) (sz : Nat)  : Met l yA_open (.code yA_open cA_open 2 none :: wA) ({ frames := 2, cells := 0, slots := 0, locals := 36 }) (sp_P (dC, dI) (kT cI cQ) [.ref a0, .ref g0] [(a0, .inr (1, [.ref p0, .int mk, .int an])), (p0, .inr (0, [.ref w0, .ref o0, .int n])), (w0, .inl (cI, 48, .inl ws)), (o0, .inl (cI, 48, .inl os)), (g0, .inr (0, [.ref gw, .ref go, .int n'])), (gw, .inl (cI, 48, .inl ws')), (go, .inl (cI, 48, .inl os'))] sz) (sp_QWv (dC, dI) [(a0, .inr (1, [.ref p0, .int (pg_mark (pg_cp ws' ws (pg_cpN n').toNatClampNeg) (pg_cpN n')), .int (-2)])), (p0, .inr (0, [.ref w0, .ref o0, .int (pg_cpN n')])), (w0, .inl (cI, 48, .inl (pg_cp ws' ws (pg_cpN n').toNatClampNeg))), (o0, .inl (cI, 48, .inl (pg_cp os' os (pg_cpN n').toNatClampNeg))), (g0, .inr (0, [.ref gw, .ref go, .int n'])), (gw, .inl (cI, 48, .inl ws')), (go, .inl (cI, 48, .inl os'))] (va_A [(a0, .inr (1, [.ref p0, .int mk, .int an])), (p0, .inr (0, [.ref w0, .ref o0, .int n])), (w0, .inl (cI, 48, .inl ws)), (o0, .inl (cI, 48, .inl os)), (g0, .inr (0, [.ref gw, .ref go, .int n'])), (gw, .inl (cI, 48, .inl ws')), (go, .inl (cI, 48, .inl os'))] sz)) 0 0 (va_A [(a0, .inr (1, [.ref p0, .int mk, .int an])), (p0, .inr (0, [.ref w0, .ref o0, .int n])), (w0, .inl (cI, 48, .inl ws)), (o0, .inl (cI, 48, .inl os)), (g0, .inr (0, [.ref gw, .ref go, .int n'])), (gw, .inl (cI, 48, .inl ws')), (go, .inl (cI, 48, .inl os'))] sz) := by
  refine Met.ofW (cc := cA_open) (maxL := 2) (ret := none) (by decide) rfl ?_
  intro p e s m args below meth c s₁ B hml hv
  obtain ⟨rfl, hsz, hP, hK, hD0, hG⟩ := hv
  have hx := B.exec
  have hb := B.bytes
  have hr := B.returns
  have hA := sp_hA (atoms_spec (ws := (.code yA_open cA_open 2 none :: wA)) B.pre)
  have hown : s.vm.findClass rA = some m.cls := findClass_of_methodNamed B.named
  have hlocks := B.notSynchronized
  subst hsz
  have hD := hD0.self (sz := s.heap.size)
  generalize hAe : va_A [(a0, .inr (1, [.ref p0, .int mk, .int an])), (p0, .inr (0, [.ref w0, .ref o0, .int n])), (w0, .inl (cI, 48, .inl ws)), (o0, .inl (cI, 48, .inl os)), (g0, .inr (0, [.ref gw, .ref go, .int n'])), (gw, .inl (cI, 48, .inl ws')), (go, .inl (cI, 48, .inl os'))] s.heap.size = A at hD ⊢
  have hF : ∀ q : Nat, s.heap.size ≤ q → A q := fun q h => by rw [← hAe]; exact Or.inr h
  have hS : va_S A s.heap s.heap [] := va_S.rf
  have hl := lv_entry ([.ref a0, .ref g0]) (n := 2) (Nat.le_of_ble_eq_true rfl)
  rw [lg_entry_eq]
  generalize (lg_sl ([.ref a0, .ref g0]) ++ List.replicate (2 - (lg_sl ([.ref a0, .ref g0])).length) Slot.unset).toArray = ls at hl ⊢
  have hl : lv_has ls 2 [(0, .ref a0), (1, .ref g0)] := hl
  refine lv_aload_n hx hb dA_open_0 rfl (lv_at hl 0 rfl) ?_
  refine va_get (D := (dC, dI)) (ci := 1) (C := rA) (T := tA) (N := 3) hx hb hA inA hown hK hP 0 rfl rfl 0 (by decide) (hA _ wi_259) (fun _ h9 => h9) rfl dA_open_1 ?_
  refine lv_aload_n hx hb dA_open_4 rfl (lv_at hl 1 rfl) ?_
  have hPc := hP.sub (ws' := [(p0, .inr (0, [.ref w0, .ref o0, .int n])), (w0, .inl (cI, 48, .inl ws)), (o0, .inl (cI, 48, .inl os)), (g0, .inr (0, [.ref gw, .ref go, .int n'])), (gw, .inl (cI, 48, .inl ws')), (go, .inl (cI, 48, .inl os'))]) [1, 2, 3, 4, 5, 6] rfl
  have hDc := hD.sub (ws' := [(p0, .inr (0, [.ref w0, .ref o0, .int n])), (w0, .inl (cI, 48, .inl ws)), (o0, .inl (cI, 48, .inl os)), (g0, .inr (0, [.ref gw, .ref go, .int n'])), (gw, .inl (cI, 48, .inl ws')), (go, .inl (cI, 48, .inl os'))]) [1, 2, 3, 4, 5, 6] (by decide) rfl
  have hFc := va_free (wc := [(p0, .inr (0, [.ref w0, .ref o0, .int n])), (w0, .inl (cI, 48, .inl ws)), (o0, .inl (cI, 48, .inl os)), (g0, .inr (0, [.ref gw, .ref go, .int n'])), (gw, .inl (cI, 48, .inl ws')), (go, .inl (cI, 48, .inl os'))]) hD hS hF [1, 2, 3, 4, 5, 6] rfl
  refine va_callv (va_runV (As := [.ref g0]) (rest := []) ⟨hx, hb, hml, hown, hA⟩ (kP_copy l dC dI cI cQ p0 w0 o0 n ws os g0 gw go n' ws' os' _) (cwV 1 hA (gd_V wi_273 wi_274 wi_275 wi_3 wi_276) rfl rfl rfl (by decide +kernel) ⟨Nat.le_of_ble_eq_true rfl, Nat.le_of_ble_eq_true rfl⟩) ⟨sp_Pb, va_recv hK hP (ci := 0) (q0 := 1) rfl rfl, sp_Po hPc hK hG hDc⟩ rfl rfl hl.1 rfl (lv_room (Nat.le_of_ble_eq_true rfl)) dA_open_5 ⟨Nat.le_of_ble_eq_true rfl, Nat.le_of_ble_eq_true rfl⟩) hS (fun q _ h => hFc q h) hFc (fun u_5 t H locs ht hvm hw hB hz1 hk1 hS => ?_)
  obtain ⟨hP1, hD1⟩ := hB
  rw [ht] at hP1
  obtain ⟨hP, hD⟩ := va_join (wr := [(a0, .inr (1, [.ref p0, .int mk, .int an]))]) (w1 := [(p0, .inr (0, [.ref w0, .ref o0, .int (pg_cpN n')])), (w0, .inl (cI, 48, .inl (pg_cp ws' ws (pg_cpN n').toNatClampNeg))), (o0, .inl (cI, 48, .inl (pg_cp os' os (pg_cpN n').toNatClampNeg))), (g0, .inr (0, [.ref gw, .ref go, .int n'])), (gw, .inl (cI, 48, .inl ws')), (go, .inl (cI, 48, .inl os'))]) hP hD [1, 2, 3, 4, 5, 6] [0] rfl rfl (by decide) (by decide) hk1 hFc hP1 hD1
  have hP : va_P (dC, dI) vwCl [(a0, .inr (1, [.ref p0, .int mk, .int an])), (p0, .inr (0, [.ref w0, .ref o0, .int (pg_cpN n')])), (w0, .inl (cI, 48, .inl (pg_cp ws' ws (pg_cpN n').toNatClampNeg))), (o0, .inl (cI, 48, .inl (pg_cp os' os (pg_cpN n').toNatClampNeg))), (g0, .inr (0, [.ref gw, .ref go, .int n'])), (gw, .inl (cI, 48, .inl ws')), (go, .inl (cI, 48, .inl os'))] H := hP.sub [0, 1, 2, 3, 4, 5, 6] rfl
  have hD : va_D A [(a0, .inr (1, [.ref p0, .int mk, .int an])), (p0, .inr (0, [.ref w0, .ref o0, .int (pg_cpN n')])), (w0, .inl (cI, 48, .inl (pg_cp ws' ws (pg_cpN n').toNatClampNeg))), (o0, .inl (cI, 48, .inl (pg_cp os' os (pg_cpN n').toNatClampNeg))), (g0, .inr (0, [.ref gw, .ref go, .int n'])), (gw, .inl (cI, 48, .inl ws')), (go, .inl (cI, 48, .inl os'))] := hD.sub [0, 1, 2, 3, 4, 5, 6] (by decide) rfl
  refine lv_aload_n hx hb dA_open_8 rfl (lv_at hl 0 rfl) ?_
  refine lv_aload_n hx hb dA_open_9 rfl (lv_at hl 0 rfl) ?_
  refine va_get (D := (dC, dI)) (ci := 1) (C := rA) (T := tA) (N := 3) hx hb hA inA hown hK hP 0 rfl rfl 0 (by decide) (hA _ wi_259) (fun _ h9 => h9) rfl dA_open_10 ?_
  refine va_calli (va_runV (As := []) (rest := [.ref a0]) ⟨hx, hb, hml, hown, hA⟩ (kP_mark l dC dI cI cQ p0 w0 o0 (pg_cpN n') (pg_cp ws' ws (pg_cpN n').toNatClampNeg)) (cwV 0 hA (gd_V wi_280 wi_281 wi_282 wi_3 wi_283) rfl rfl rfl (by decide +kernel) ⟨Nat.le_of_ble_eq_true rfl, Nat.le_of_ble_eq_true rfl⟩) ⟨sp_Rb, va_recv hK hP (ci := 0) (q0 := 1) rfl rfl, sp_Ro (hP.sub [1, 2] rfl) hK hG⟩ rfl rfl hl.1 rfl (lv_room (Nat.le_of_ble_eq_true rfl)) dA_open_13 ⟨Nat.le_of_ble_eq_true rfl, Nat.le_of_ble_eq_true rfl⟩) hS (fun _ _ h => h.elim) (fun _ h => h.elim) (fun r_13 u_13 t H locs ht hvm hw hB hz1 hk1 hS => ?_)
  subst hw
  have hP := sp_kp hP hk1
  refine va_put (D := (dC, dI)) (ci := 1) (v := .int (pg_mark (pg_cp ws' ws (pg_cpN n').toNatClampNeg) (pg_cpN n') )) (ty := .int) (C := rA) (T := tA) (N := 3) hx hb hA inA tyA tyA_ok nmA hown hK hP hD hS 0 rfl rfl 1 (by decide) (hA _ wi_260) (fun _ h9 => h9) rfl (by decide +kernel) rfl rfl (Nat.le_of_ble_eq_true rfl) dA_open_16 (fun H locs hP hD hS => ?_)
  have hP : va_P (dC, dI) vwCl [(a0, .inr (1, [.ref p0, .int (pg_mark (pg_cp ws' ws (pg_cpN n').toNatClampNeg) (pg_cpN n') ), .int an])), (p0, .inr (0, [.ref w0, .ref o0, .int (pg_cpN n')])), (w0, .inl (cI, 48, .inl (pg_cp ws' ws (pg_cpN n').toNatClampNeg))), (o0, .inl (cI, 48, .inl (pg_cp os' os (pg_cpN n').toNatClampNeg))), (g0, .inr (0, [.ref gw, .ref go, .int n'])), (gw, .inl (cI, 48, .inl ws')), (go, .inl (cI, 48, .inl os'))] H := hP
  have hD : va_D A [(a0, .inr (1, [.ref p0, .int (pg_mark (pg_cp ws' ws (pg_cpN n').toNatClampNeg) (pg_cpN n') ), .int an])), (p0, .inr (0, [.ref w0, .ref o0, .int (pg_cpN n')])), (w0, .inl (cI, 48, .inl (pg_cp ws' ws (pg_cpN n').toNatClampNeg))), (o0, .inl (cI, 48, .inl (pg_cp os' os (pg_cpN n').toNatClampNeg))), (g0, .inr (0, [.ref gw, .ref go, .int n'])), (gw, .inl (cI, 48, .inl ws')), (go, .inl (cI, 48, .inl os'))] := hD
  refine lv_aload_n hx hb dA_open_19 rfl (lv_at hl 0 rfl) ?_
  refine lv_bipush (v := (-2)) hx hb dA_open_20 (by decide) ?_
  refine va_put (D := (dC, dI)) (ci := 1) (v := .int (-2)) (ty := .int) (C := rA) (T := tA) (N := 3) hx hb hA inA tyA tyA_ok nmA hown hK hP hD hS 0 rfl rfl 2 (by decide) (hA _ wi_261) (fun _ h9 => h9) rfl (by decide +kernel) rfl rfl (Nat.le_of_ble_eq_true rfl) dA_open_22 (fun H locs hP hD hS => ?_)
  have hP : va_P (dC, dI) vwCl [(a0, .inr (1, [.ref p0, .int (pg_mark (pg_cp ws' ws (pg_cpN n').toNatClampNeg) (pg_cpN n') ), .int (-2)])), (p0, .inr (0, [.ref w0, .ref o0, .int (pg_cpN n')])), (w0, .inl (cI, 48, .inl (pg_cp ws' ws (pg_cpN n').toNatClampNeg))), (o0, .inl (cI, 48, .inl (pg_cp os' os (pg_cpN n').toNatClampNeg))), (g0, .inr (0, [.ref gw, .ref go, .int n'])), (gw, .inl (cI, 48, .inl ws')), (go, .inl (cI, 48, .inl os'))] H := hP
  have hD : va_D A [(a0, .inr (1, [.ref p0, .int (pg_mark (pg_cp ws' ws (pg_cpN n').toNatClampNeg) (pg_cpN n') ), .int (-2)])), (p0, .inr (0, [.ref w0, .ref o0, .int (pg_cpN n')])), (w0, .inl (cI, 48, .inl (pg_cp ws' ws (pg_cpN n').toNatClampNeg))), (o0, .inl (cI, 48, .inl (pg_cp os' os (pg_cpN n').toNatClampNeg))), (g0, .inr (0, [.ref gw, .ref go, .int n'])), (gw, .inl (cI, 48, .inl ws')), (go, .inl (cI, 48, .inl os'))] := hD
  have hPe : va_P (dC, dI) vwCl [(a0, .inr (1, [.ref p0, .int (pg_mark (pg_cp ws' ws (pg_cpN n').toNatClampNeg) (pg_cpN n')), .int (-2)])), (p0, .inr (0, [.ref w0, .ref o0, .int (pg_cpN n')])), (w0, .inl (cI, 48, .inl (pg_cp ws' ws (pg_cpN n').toNatClampNeg))), (o0, .inl (cI, 48, .inl (pg_cp os' os (pg_cpN n').toNatClampNeg))), (g0, .inr (0, [.ref gw, .ref go, .int n'])), (gw, .inl (cI, 48, .inl ws')), (go, .inl (cI, 48, .inl os'))] H := by exact hP
  have hDe : va_D A [(a0, .inr (1, [.ref p0, .int (pg_mark (pg_cp ws' ws (pg_cpN n').toNatClampNeg) (pg_cpN n')), .int (-2)])), (p0, .inr (0, [.ref w0, .ref o0, .int (pg_cpN n')])), (w0, .inl (cI, 48, .inl (pg_cp ws' ws (pg_cpN n').toNatClampNeg))), (o0, .inl (cI, 48, .inl (pg_cp os' os (pg_cpN n').toNatClampNeg))), (g0, .inr (0, [.ref gw, .ref go, .int n'])), (gw, .inl (cI, 48, .inl ws')), (go, .inl (cI, 48, .inl os'))] := sp_Dc hD rfl
  exact W.vret hx hb hr (sp_eWv hPe hDe hS) hS.2.2 dA_open_25
set_option maxHeartbeats 4000000 in
set_option maxRecDepth 100000 in
theorem kA_is (l : Launch) (dC : Nat → ClassId) (dI : Nat → Nat → Nat) (cI cQ : ClassId) (a0 p0 : Nat) (mk an : Int32) (w0 o0 : Nat) (n : Int32) (ws : Nat → Int32) (g0 gw go : Nat) (n' : Int32) (ws' : Nat → Int32) (gm : Int32)  : Met l yA_isOf (.code yA_isOf cA_isOf 3 (some .boolean) :: wA) ({ frames := 1, cells := 0, slots := 0, locals := 22 }) (sp_R (dC, dI) (kT cI cQ) [.ref a0, .ref g0, .int gm] [(a0, .inr (1, [.ref p0, .int mk, .int an])), (p0, .inr (0, [.ref w0, .ref o0, .int n])), (w0, .inl (cI, 48, .inl ws)), (g0, .inr (0, [.ref gw, .ref go, .int n'])), (gw, .inl (cI, 48, .inl ws'))]) (sp_QRi (ak_is mk n ws gm n' ws')) 0 0 (fun _ => False) := by
  refine Met.ofW (cc := cA_isOf) (maxL := 3) (ret := (some .boolean)) (by decide) rfl ?_
  intro p e s m args below meth c s₁ B hml hv
  obtain ⟨rfl, hP, hK, hG⟩ := hv
  have hx := B.exec
  have hb := B.bytes
  have hr := B.returns
  have hA := sp_hA (atoms_spec (ws := (.code yA_isOf cA_isOf 3 (some .boolean) :: wA)) B.pre)
  have hown : s.vm.findClass rA = some m.cls := findClass_of_methodNamed B.named
  have hlocks := B.notSynchronized
  have hS : va_S (fun _ => False) s.heap s.heap [] := va_S.rf
  have hl := lv_entry ([.ref a0, .ref g0, .int gm]) (n := 3) (Nat.le_of_ble_eq_true rfl)
  rw [lg_entry_eq]
  generalize (lg_sl ([.ref a0, .ref g0, .int gm]) ++ List.replicate (3 - (lg_sl ([.ref a0, .ref g0, .int gm])).length) Slot.unset).toArray = ls at hl ⊢
  have hl : lv_has ls 3 [(0, .ref a0), (1, .ref g0), (2, .int gm)] := hl
  refine lv_aload_n hx hb dA_isOf_0 rfl (lv_at hl 0 rfl) ?_
  refine va_get (D := (dC, dI)) (ci := 1) (C := rA) (T := tA) (N := 3) hx hb hA inA hown hK hP 0 rfl rfl 1 (by decide) (hA _ wi_260) (fun _ h9 => h9) rfl dA_isOf_1 ?_
  refine lv_iload_n hx hb dA_isOf_4 rfl (lv_at hl 2 rfl) ?_
  refine lv_icmp_ne (tgt := 23) hx hb dA_isOf_5 (by decide) (fun c_5 => ?_) (fun c_5 => ?_)
  · refine lv_iconst (v := 0) hx hb dA_isOf_23 (by decide) ?_
    exact W.zret hx hb hr rfl (sp_eRi (by simp [ak_is, c_5]) hS) hS.2.2 dA_isOf_24
  · refine lv_aload_n hx hb dA_isOf_8 rfl (lv_at hl 0 rfl) ?_
    refine va_get (D := (dC, dI)) (ci := 1) (C := rA) (T := tA) (N := 3) hx hb hA inA hown hK hP 0 rfl rfl 0 (by decide) (hA _ wi_259) (fun _ h9 => h9) rfl dA_isOf_9 ?_
    refine lv_aload_n hx hb dA_isOf_12 rfl (lv_at hl 1 rfl) ?_
    refine va_calli (va_runV (As := [.ref g0]) (rest := []) ⟨hx, hb, hml, hown, hA⟩ (kP_same l dC dI cI cQ p0 w0 o0 n ws g0 gw go n' ws') (cwV 1 hA (gd_V wi_444 wi_445 wi_446 wi_3 wi_447) rfl rfl rfl (by decide +kernel) ⟨Nat.le_of_ble_eq_true rfl, Nat.le_of_ble_eq_true rfl⟩) ⟨sp_Rb, va_recv hK hP (ci := 0) (q0 := 1) rfl rfl, sp_Ro (hP.sub [1, 2, 3, 4] rfl) hK hG⟩ rfl rfl hl.1 rfl (lv_room (Nat.le_of_ble_eq_true rfl)) dA_isOf_13 ⟨Nat.le_of_ble_eq_true rfl, Nat.le_of_ble_eq_true rfl⟩) hS (fun _ _ h => h.elim) (fun _ h => h.elim) (fun r_13 u_13 t H locs ht hvm hw hB hz1 hk1 hS => ?_)
    subst hw
    have hP := sp_kp hP hk1
    refine lv_if_eq (tgt := 23) hx hb dA_isOf_16 (by decide) (fun c_16 => ?_) (fun c_16 => ?_)
    · refine lv_iconst (v := 0) hx hb dA_isOf_23 (by decide) ?_
      exact W.zret hx hb hr rfl (sp_eRi (by simp [ak_is, c_5, c_16]) hS) hS.2.2 dA_isOf_24
    · refine lv_iconst (v := 1) hx hb dA_isOf_19 (by decide) ?_
      refine lv_goto (tgt := 24) hx hb dA_isOf_20 (by decide) ?_
      exact W.zret hx hb hr rfl (sp_eRi (by simp [ak_is, c_5, c_16]) hS) hS.2.2 dA_isOf_24
set_option maxHeartbeats 4000000 in
set_option maxRecDepth 100000 in
theorem kA_init (l : Launch) (dC : Nat → ClassId) (dI : Nat → Nat → Nat) (cI cQ : ClassId) (a0 : Nat) (sz : Nat)  : Met l yA_init (.code yA_init cA_init 1 none :: wA) ({ frames := 2, cells := 3, slots := 99, locals := 32 }) (sp_P (dC, dI) (kT cI cQ) [.ref a0] [(a0, .inr (1, [.null, .int 0, .int 0]))] sz) (va_Qv (fun (_ : Nat × Nat × Nat) => True) (fun u t => va_P (dC, dI) vwCl [(a0, .inr (1, [.ref u.1, .int 0, .int 0])), (u.1, .inr (0, [.ref u.2.1, .ref u.2.2, .int 0])), (u.2.1, .inl (cI, 48, .inl (fun _ => 0))), (u.2.2, .inl (cI, 48, .inl (fun _ => 0)))] t.heap ∧ va_D (va_A [(a0, .inr (1, [.null, .int 0, .int 0]))] sz) [(a0, .inr (1, [.ref u.1, .int 0, .int 0])), (u.1, .inr (0, [.ref u.2.1, .ref u.2.2, .int 0])), (u.2.1, .inl (cI, 48, .inl (fun _ => 0))), (u.2.2, .inl (cI, 48, .inl (fun _ => 0)))]) (va_A [(a0, .inr (1, [.null, .int 0, .int 0]))] sz)) 3 99 (va_A [(a0, .inr (1, [.null, .int 0, .int 0]))] sz) := by
  refine Met.ofW (cc := cA_init) (maxL := 1) (ret := none) (by decide) rfl ?_
  intro p e s m args below meth c s₁ B hml hv
  obtain ⟨rfl, hsz, hP, hK, hD0, hG⟩ := hv
  have hx := B.exec
  have hb := B.bytes
  have hr := B.returns
  have hA := sp_hA (atoms_spec (ws := (.code yA_init cA_init 1 none :: wA)) B.pre)
  have hown : s.vm.findClass rA = some m.cls := findClass_of_methodNamed B.named
  have hlocks := B.notSynchronized
  have hin : meth.name = "<init>" := (name_of_methodNamed B.named B.method).1
  subst hsz
  have hD := hD0.self (sz := s.heap.size)
  generalize hAe : va_A [(a0, .inr (1, [.null, .int 0, .int 0]))] s.heap.size = A at hD ⊢
  have hF : ∀ q : Nat, s.heap.size ≤ q → A q := fun q h => by rw [← hAe]; exact Or.inr h
  have hS : va_S A s.heap s.heap [] := va_S.rf
  have hl := lv_entry ([.ref a0]) (n := 1) (Nat.le_of_ble_eq_true rfl)
  rw [lg_entry_eq]
  generalize (lg_sl ([.ref a0]) ++ List.replicate (1 - (lg_sl ([.ref a0])).length) Slot.unset).toArray = ls at hl ⊢
  have hl : lv_has ls 1 [(0, .ref a0)] := hl
  refine lv_aload_n hx hb dA_init_0 rfl (lv_at hl 0 rfl) ?_
  refine W.objInit hx hb hown (hA _ wi_257) (hA _ wi_21) (hA _ wi_22) rfl (by rw [hml]; exact hl.1) rfl dA_init_1 (Nat.le_of_ble_eq_true rfl) (Nat.le_of_ble_eq_true rfl) ?_
  refine W.eq (g2 := F0 m 4 ls []) rfl ?_
  refine lv_aload_n hx hb dA_init_4 rfl (lv_at hl 0 rfl) ?_
  refine va_new (ci := 0) (fs := [.null, .null, .int 0]) (C := rP) (T := tP) (N := 3) hx hb hA inP tyP tyP_ok hown (hA _ wi_258) (hA _ wi_28) (hA _ wi_3) hK hP hD hS hF rfl (fun j hj => by rcases (show j = 0 ∨ j = 1 ∨ j = 2 by omega) with rfl | rfl | rfl <;> rfl) (Nat.le_of_ble_eq_true rfl) (Nat.le_of_ble_eq_true rfl) dA_init_5 (fun q5 H hP hD hS => ?_)
  have hP : va_P (dC, dI) vwCl [(a0, .inr (1, [.null, .int 0, .int 0])), (q5, .inr (0, [.null, .null, .int 0]))] H := hP
  have hD : va_D A [(a0, .inr (1, [.null, .int 0, .int 0])), (q5, .inr (0, [.null, .null, .int 0]))] := hD
  refine lv_dup hx hb dA_init_8 rfl ?_
  have hPc := hP.sub (ws' := [(q5, .inr (0, [.null, .null, .int 0]))]) [1] rfl
  have hDc := hD.sub (ws' := [(q5, .inr (0, [.null, .null, .int 0]))]) [1] (by decide) rfl
  have hFc := va_free (wc := [(q5, .inr (0, [.null, .null, .int 0]))]) hD hS hF [1] rfl
  refine va_callv (va_runIN (As := []) (rest := [.ref q5, .ref a0]) ⟨hx, hb, hml, hown, hA⟩ (kP_init l dC dI cI cQ q5 _) ⟨va_cnB 0 hA (gd_I wi_30) rfl rfl rfl hG.2.2.2.2.1 (hA _ wi_3) (by decide +kernel) ⟨Nat.le_of_ble_eq_true rfl, Nat.le_of_ble_eq_true rfl⟩, rfl, (hA _ wi_29)⟩ ⟨sp_Pb, sp_Po hPc hK hG hDc⟩ rfl rfl hl.1 rfl (lv_room (Nat.le_of_ble_eq_true rfl)) dA_init_9 ⟨Nat.le_of_ble_eq_true rfl, Nat.le_of_ble_eq_true rfl⟩) hS (fun q _ h => hFc q h) hFc (fun u_9 t H locs ht hvm hw hB hz1 hk1 hS => ?_)
  obtain ⟨qw9, qo9⟩ := u_9
  try dsimp only at hB
  obtain ⟨hP1, hD1⟩ := hB
  rw [ht] at hP1
  obtain ⟨hP, hD⟩ := va_join (wr := [(a0, .inr (1, [.null, .int 0, .int 0]))]) (w1 := [(q5, .inr (0, [.ref qw9, .ref qo9, .int 0])), (qw9, .inl (cI, 48, .inl (fun _ => 0))), (qo9, .inl (cI, 48, .inl (fun _ => 0)))]) hP hD [1] [0] rfl rfl (by decide) (by decide) hk1 hFc hP1 hD1
  have hP : va_P (dC, dI) vwCl [(a0, .inr (1, [.null, .int 0, .int 0])), (q5, .inr (0, [.ref qw9, .ref qo9, .int 0])), (qw9, .inl (cI, 48, .inl (fun _ => 0))), (qo9, .inl (cI, 48, .inl (fun _ => 0)))] H := hP.sub [0, 1, 2, 3] rfl
  have hD : va_D A [(a0, .inr (1, [.null, .int 0, .int 0])), (q5, .inr (0, [.ref qw9, .ref qo9, .int 0])), (qw9, .inl (cI, 48, .inl (fun _ => 0))), (qo9, .inl (cI, 48, .inl (fun _ => 0)))] := hD.sub [0, 1, 2, 3] (by decide) rfl
  refine va_putF (D := (dC, dI)) (ci := 1) (v := .ref q5) (ty := .object "ShortenPrograms$Program") (C := rA) (T := tA) (N := 3) hx hb hA inA tyA tyA_ok nmA hown hK hP hD hS 0 rfl rfl 0 (by decide) (hA _ wi_259) (fun _ h9 => h9) rfl hin rfl (by decide +kernel) rfl rfl (Nat.le_of_ble_eq_true rfl) dA_init_12 (fun H locs hP hD hS => ?_)
  have hP : va_P (dC, dI) vwCl [(a0, .inr (1, [.ref q5, .int 0, .int 0])), (q5, .inr (0, [.ref qw9, .ref qo9, .int 0])), (qw9, .inl (cI, 48, .inl (fun _ => 0))), (qo9, .inl (cI, 48, .inl (fun _ => 0)))] H := hP
  have hD : va_D A [(a0, .inr (1, [.ref q5, .int 0, .int 0])), (q5, .inr (0, [.ref qw9, .ref qo9, .int 0])), (qw9, .inl (cI, 48, .inl (fun _ => 0))), (qo9, .inl (cI, 48, .inl (fun _ => 0)))] := hD
  have hPe : va_P (dC, dI) vwCl [(a0, .inr (1, [.ref q5, .int 0, .int 0])), (q5, .inr (0, [.ref qw9, .ref qo9, .int 0])), (qw9, .inl (cI, 48, .inl (fun _ => 0))), (qo9, .inl (cI, 48, .inl (fun _ => 0)))] H := by exact hP
  have hDe : va_D A [(a0, .inr (1, [.ref q5, .int 0, .int 0])), (q5, .inr (0, [.ref qw9, .ref qo9, .int 0])), (qw9, .inl (cI, 48, .inl (fun _ => 0))), (qo9, .inl (cI, 48, .inl (fun _ => 0)))] := sp_Dc hD rfl
  refine W.widen (k := 3) (n := 99) (by omega) (by omega) ?_
  exact W.vret hx hb hr (fun t ht _ => ⟨⟨(q5, qw9, qo9), rfl, trivial, by rw [ht]; exact hPe, hDe⟩, hS.F ht⟩) hS.2.2 dA_init_15
end
section
-- Memory: pure rows
theorem sp_cQ {D : va_G} {cl : List vw_C} {cI cQ cA : ClassId} {s : State} (h : va_K D cl (kT cI cQ ++ [(cA, .object "ShortenPrograms$Ask")]) s) : cQ = cA := by
  obtain ⟨_, _, -, -, -, h1⟩ := (h.2 1 _ rfl).2
  obtain ⟨_, _, -, -, -, h2⟩ := (h.2 2 _ rfl).2
  exact Option.some.inj (h1.symm.trans h2)
theorem mm_lim_lt {n : Int32} {i : Nat} (hi : i < 2 ^ 31) (h1 : ¬ n ≤ nI i) (h2 : ¬ 600 ≤ nI i) : i < mm_lim n := by
  have := cl_lt hi h1
  have := cl_lt (x := 600) hi h2
  have e : (600 : Int32).toNatClampNeg = 600 := by decide
  unfold mm_lim; omega
theorem mm_lim_le1 {n : Int32} {i : Nat} (hi : i < 2 ^ 31) (h : n ≤ nI i) : mm_lim n ≤ i := by
  have := cl_le hi h
  unfold mm_lim; omega
theorem mm_lim_le2 {n : Int32} {i : Nat} (hi : i < 2 ^ 31) (h : 600 ≤ nI i) : mm_lim n ≤ i := by
  have := cl_le (x := 600) hi h
  have e : (600 : Int32).toNatClampNeg = 600 := by decide
  unfold mm_lim; omega
theorem mm_lim_600 (n : Int32) : mm_lim n ≤ 600 := Nat.min_le_right _ _
theorem mm_last_in {fl : Int32} (h1 : ¬ fl ≤ 0) (h2 : ¬ 600 < fl) : vp_in (fl - 1) 600 := by
  rw [Int32.le_iff_toInt_le] at h1
  rw [Int32.lt_iff_toInt_lt] at h2
  have e0 : (0 : Int32).toInt = 0 := by decide
  have e1 : (600 : Int32).toInt = 600 := by decide
  rw [e0] at h1; rw [e1] at h2
  have hn : ¬ fl < 0 := by rw [Int32.lt_iff_toInt_lt, e0]; omega
  obtain ⟨j, hj, rfl⟩ := nI_of hn
  rw [nI_toInt hj] at h1 h2
  obtain ⟨k, rfl⟩ : ∃ k, j = k + 1 := ⟨j - 1, by omega⟩
  rw [nI_pred]
  exact vp_in_nI (by omega) (by decide)
theorem va_P_mem {D : va_G} {cl : List vw_C} {ws : va_W} {H : Heap} : va_P D cl ws H ↔ ∀ q ∈ ws, va_at D cl q H := by
  constructor
  · intro h q hq
    obtain ⟨k, hk⟩ := List.getElem?_of_mem hq
    exact h k q hk
  · intro h k q hk
    exact h q (List.mem_of_getElem? hk)
theorem va_P_perm {D : va_G} {cl : List vw_C} {ws ws' : va_W} {H : Heap} (h : va_P D cl ws H) (hp : ws'.Perm ws) : va_P D cl ws' H := by
  rw [va_P_mem] at h ⊢
  exact fun q hq => h q (hp.mem_iff.mp hq)
theorem va_D_mem {A : Nat → Prop} {ws : va_W} : va_D A ws ↔ (ws.map Prod.fst).Nodup ∧ ∀ q ∈ ws, A q.1 := by
  constructor
  · intro h
    refine ⟨?_, fun q hq => ?_⟩
    · refine List.pairwise_iff_getElem.mpr (fun i j hi hj hij he => ?_)
      rw [List.length_map] at hi hj
      rw [List.getElem_map, List.getElem_map] at he
      have := h.1 i j _ _ (List.getElem?_eq_getElem hi) (List.getElem?_eq_getElem hj) he
      omega
    · obtain ⟨k, hk⟩ := List.getElem?_of_mem hq
      exact h.2 k q hk
  · rintro ⟨h1, h2⟩
    refine ⟨fun i j p q hi hj hpq => ?_, fun k q hk => h2 q (List.mem_of_getElem? hk)⟩
    have h1 := List.pairwise_iff_getElem.mp h1
    obtain ⟨li, ei⟩ := List.getElem?_eq_some_iff.mp hi
    obtain ⟨lj, ej⟩ := List.getElem?_eq_some_iff.mp hj
    rcases Nat.lt_trichotomy i j with h | h | h
    · exact absurd (by rw [List.getElem_map, List.getElem_map, ei, ej]; exact hpq) (h1 i j (by rw [List.length_map]; exact li) (by rw [List.length_map]; exact lj) h)
    · exact h
    · exact absurd (by rw [List.getElem_map, List.getElem_map, ei, ej]; exact hpq.symm) (h1 j i (by rw [List.length_map]; exact lj) (by rw [List.length_map]; exact li) h)
theorem va_D_perm {A : Nat → Prop} {ws ws' : va_W} (h : va_D A ws) (hp : ws'.Perm ws) : va_D A ws' := by
  rw [va_D_mem] at h ⊢
  exact ⟨(hp.map Prod.fst).nodup_iff.mpr h.1, fun q hq => h.2 q (hp.mem_iff.mp hq)⟩
/-- a middle piece comes to the front part's end -/
theorem pm_out (X T1 C T2 : va_W) : ((X ++ C) ++ (T1 ++ T2)).Perm (X ++ (T1 ++ (C ++ T2))) := by
  rw [List.append_assoc]
  refine List.Perm.append_left X ?_
  rw [← List.append_assoc, ← List.append_assoc]
  exact List.Perm.append_right T2 List.perm_append_comm
theorem ar_W1 (cI : ClassId) (l1 l2 : List AR) (r : AR) : ar_W cI (l1 ++ r :: l2) = ar_W cI l1 ++ (ar_cells cI r ++ ar_W cI l2) := by rw [ar_app]; rfl
/-- what keep leaves: place k holds the program, the others are as they were -/
def mm_kept (as u : List AR) (k : Nat) (gn : Int32) (gs go : Nat → Int32) : Prop :=
  as.length ≤ u.length ∧ u.length ≤ 600 ∧ (∀ i, i ≠ k → u[i]? = as[i]?) ∧ ∃ (ad : Nat × Nat × Nat × Nat) (f g : Nat → Int32), u[k]? = some (ad, pg_mark (pg_cp gs f (pg_cpN gn).toNatClampNeg) (pg_cpN gn), (-2), pg_cpN gn, pg_cp gs f (pg_cpN gn).toNatClampNeg, pg_cp go g (pg_cpN gn).toNatClampNeg)
def mm_keepR (as u : List AR) (k : Nat) (gn : Int32) (gs go : Nat → Int32) : Prop := (k < 600 → mm_kept as u k gn gs go) ∧ (¬ k < 600 → u = as)
def mm_fl (k : Nat) : Nat := if k < 600 then k + 1 else k
theorem ar_f_up (as : List AR) (r : AR) : va_up (ar_f as) as.length (some r.1.1) = ar_f (as ++ [r]) := by
  funext j
  unfold va_up ar_f
  by_cases h : j = as.length
  · subst h; simp
  · rw [if_neg h]
    by_cases h2 : j < as.length
    · rw [List.getElem?_append_left h2]
    · rw [List.getElem?_eq_none (by omega), List.getElem?_eq_none (by rw [List.length_append, List.length_singleton]; omega)]
theorem ar_f_set {l1 l2 : List AR} {r r' : AR} (h : r'.1.1 = r.1.1) : ar_f (l1 ++ r' :: l2) = ar_f (l1 ++ r :: l2) := by
  funext j
  unfold ar_f
  by_cases h1 : j < l1.length
  · rw [List.getElem?_append_left h1, List.getElem?_append_left h1]
  · rw [List.getElem?_append_right (by omega), List.getElem?_append_right (by omega)]
    by_cases h2 : j - l1.length = 0
    · rw [h2]; simp [h]
    · obtain ⟨m, hm⟩ : ∃ m, j - l1.length = m + 1 := ⟨j - l1.length - 1, by omega⟩
      rw [hm]; simp
theorem ar_mid_ne {l1 l2 : List AR} {r r' : AR} {i : Nat} (h : i ≠ l1.length) : (l1 ++ r' :: l2)[i]? = (l1 ++ r :: l2)[i]? := by
  by_cases h1 : i < l1.length
  · rw [List.getElem?_append_left h1, List.getElem?_append_left h1]
  · rw [List.getElem?_append_right (by omega), List.getElem?_append_right (by omega)]
    obtain ⟨m, hm⟩ : ∃ m, i - l1.length = m + 1 := ⟨i - l1.length - 1, by omega⟩
    rw [hm]; simp
theorem mm_kept_app {as : List AR} {k : Nat} {gn : Int32} {gs go f g : Nat → Int32} {ad : Nat × Nat × Nat × Nat} {r' : AR} (ek : k = as.length) (hk6 : k < 600) (er : r' = (ad, pg_mark (pg_cp gs f (pg_cpN gn).toNatClampNeg) (pg_cpN gn), (-2), pg_cpN gn, pg_cp gs f (pg_cpN gn).toNatClampNeg, pg_cp go g (pg_cpN gn).toNatClampNeg)) : mm_keepR as (as ++ [r']) k gn gs go := by
  refine ⟨fun _ => ⟨by rw [List.length_append]; omega, by rw [List.length_append, List.length_singleton]; omega, fun i hi => ?_, ad, f, g, ?_⟩, fun h => absurd hk6 h⟩
  · by_cases h : i < as.length
    · rw [List.getElem?_append_left h]
    · rw [List.getElem?_eq_none (l := as) (by omega), List.getElem?_eq_none (l := as ++ [r']) (by rw [List.length_append, List.length_singleton]; omega)]
  · rw [ek, er, List.getElem?_append_right (Nat.le_refl _), Nat.sub_self]; rfl
theorem mm_kept_set {as l1 l2 : List AR} {k : Nat} {gn : Int32} {gs go f g : Nat → Int32} {ad : Nat × Nat × Nat × Nat} {r r' : AR} (eas : as = l1 ++ r :: l2) (elen : l1.length = k) (hlen : as.length ≤ 600) (hk6 : k < 600) (er : r' = (ad, pg_mark (pg_cp gs f (pg_cpN gn).toNatClampNeg) (pg_cpN gn), (-2), pg_cpN gn, pg_cp gs f (pg_cpN gn).toNatClampNeg, pg_cp go g (pg_cpN gn).toNatClampNeg)) : mm_keepR as (l1 ++ r' :: l2) k gn gs go := by
  have e : (l1 ++ r' :: l2).length = as.length := by rw [eas]; simp
  refine ⟨fun _ => ⟨by omega, by omega, fun i hi => ?_, ad, f, g, ?_⟩, fun h => absurd hk6 h⟩
  · rw [eas]; exact ar_mid_ne (by omega)
  · rw [← elen, er, List.getElem?_append_right (Nat.le_refl _), Nat.sub_self]; rfl
end
section
-- Memory: contracts (by wip/gen/memc.py)
set_option maxHeartbeats 4000000 in
set_option maxRecDepth 100000 in
theorem kM_filled (l : Launch) (dC : Nat → ClassId) (dI : Nat → Nat → Nat) (cI cQ : ClassId) (m0 aa : Nat) (fl : Int32)  : Met l yM_filled (.code yM_filled cM_filled 1 (some .int) :: wA) ({ frames := 0, cells := 0, slots := 0, locals := 0 }) (sp_R (dC, dI) (kT cI cQ) [.ref m0] [(m0, .inr (2, [.ref aa, .int fl]))]) (sp_QRi fl) 0 0 (fun _ => False) := by
  refine Met.ofW (cc := cM_filled) (maxL := 1) (ret := (some .int)) (by decide) rfl ?_
  intro p e s m args below meth c s₁ B hml hv
  obtain ⟨rfl, hP, hK, hG⟩ := hv
  have hx := B.exec
  have hb := B.bytes
  have hr := B.returns
  have hA := sp_hA (atoms_spec (ws := (.code yM_filled cM_filled 1 (some .int) :: wA)) B.pre)
  have hown : s.vm.findClass rM = some m.cls := findClass_of_methodNamed B.named
  have hlocks := B.notSynchronized
  have hS : va_S (fun _ => False) s.heap s.heap [] := va_S.rf
  have hl := lv_entry ([.ref m0]) (n := 1) (Nat.le_of_ble_eq_true rfl)
  rw [lg_entry_eq]
  generalize (lg_sl ([.ref m0]) ++ List.replicate (1 - (lg_sl ([.ref m0])).length) Slot.unset).toArray = ls at hl ⊢
  have hl : lv_has ls 1 [(0, .ref m0)] := hl
  refine lv_aload_n hx hb dM_filled_0 rfl (lv_at hl 0 rfl) ?_
  refine va_get (D := (dC, dI)) (ci := 2) (C := rM) (T := tM) (N := 2) hx hb hA inM hown hK hP 0 rfl rfl 1 (by decide) (hA _ wi_50) (fun _ h9 => h9) rfl dM_filled_1 ?_
  exact W.iret hx hb hr (sp_eRi (rfl) hS) hS.2.2 dM_filled_4
set_option maxHeartbeats 4000000 in
set_option maxRecDepth 100000 in
theorem kM_clear (l : Launch) (dC : Nat → ClassId) (dI : Nat → Nat → Nat) (cI cQ : ClassId) (m0 aa : Nat) (fl : Int32) (sz : Nat)  : Met l yM_clear (.code yM_clear cM_clear 1 none :: wA) ({ frames := 0, cells := 0, slots := 0, locals := 0 }) (sp_P (dC, dI) (kT cI cQ) [.ref m0] [(m0, .inr (2, [.ref aa, .int fl]))] sz) (sp_QWv (dC, dI) [(m0, .inr (2, [.ref aa, .int 0]))] (va_A [(m0, .inr (2, [.ref aa, .int fl]))] sz)) 0 0 (va_A [(m0, .inr (2, [.ref aa, .int fl]))] sz) := by
  refine Met.ofW (cc := cM_clear) (maxL := 1) (ret := none) (by decide) rfl ?_
  intro p e s m args below meth c s₁ B hml hv
  obtain ⟨rfl, hsz, hP, hK, hD0, hG⟩ := hv
  have hx := B.exec
  have hb := B.bytes
  have hr := B.returns
  have hA := sp_hA (atoms_spec (ws := (.code yM_clear cM_clear 1 none :: wA)) B.pre)
  have hown : s.vm.findClass rM = some m.cls := findClass_of_methodNamed B.named
  have hlocks := B.notSynchronized
  subst hsz
  have hD := hD0.self (sz := s.heap.size)
  generalize hAe : va_A [(m0, .inr (2, [.ref aa, .int fl]))] s.heap.size = A at hD ⊢
  have hF : ∀ q : Nat, s.heap.size ≤ q → A q := fun q h => by rw [← hAe]; exact Or.inr h
  have hS : va_S A s.heap s.heap [] := va_S.rf
  have hl := lv_entry ([.ref m0]) (n := 1) (Nat.le_of_ble_eq_true rfl)
  rw [lg_entry_eq]
  generalize (lg_sl ([.ref m0]) ++ List.replicate (1 - (lg_sl ([.ref m0])).length) Slot.unset).toArray = ls at hl ⊢
  have hl : lv_has ls 1 [(0, .ref m0)] := hl
  refine lv_aload_n hx hb dM_clear_0 rfl (lv_at hl 0 rfl) ?_
  refine lv_iconst (v := 0) hx hb dM_clear_1 (by decide) ?_
  refine va_put (D := (dC, dI)) (ci := 2) (v := .int 0) (ty := .int) (C := rM) (T := tM) (N := 2) hx hb hA inM tyM tyM_ok nmM hown hK hP hD hS 0 rfl rfl 1 (by decide) (hA _ wi_50) (fun _ h9 => h9) rfl (by decide +kernel) rfl rfl (Nat.le_of_ble_eq_true rfl) dM_clear_2 (fun H locs hP hD hS => ?_)
  have hP : va_P (dC, dI) vwCl [(m0, .inr (2, [.ref aa, .int 0]))] H := hP
  have hD : va_D A [(m0, .inr (2, [.ref aa, .int 0]))] := hD
  have hPe : va_P (dC, dI) vwCl [(m0, .inr (2, [.ref aa, .int 0]))] H := by exact hP
  have hDe : va_D A [(m0, .inr (2, [.ref aa, .int 0]))] := sp_Dc hD rfl
  exact W.vret hx hb hr (sp_eWv hPe hDe hS) hS.2.2 dM_clear_5
set_option maxHeartbeats 4000000 in
set_option maxRecDepth 100000 in
theorem kM_init (l : Launch) (dC : Nat → ClassId) (dI : Nat → Nat → Nat) (cI cQ : ClassId) (m0 : Nat) (sz : Nat)  : Met l yM_init (.code yM_init cM_init 1 none :: wA) ({ frames := 1, cells := 1, slots := 600, locals := 12 }) (sp_P (dC, dI) (kT cI cQ) [.ref m0] [(m0, .inr (2, [.null, .int 0]))] sz) (va_Qv (fun (_ : Nat) => True) (fun u t => va_P (dC, dI) vwCl [(m0, .inr (2, [.ref u, .int 0])), (u, .inl (cQ, 600, .inr (.inr (.inr (.inr (ar_f []))))))] t.heap ∧ va_D (va_A [(m0, .inr (2, [.null, .int 0]))] sz) [(m0, .inr (2, [.ref u, .int 0])), (u, .inl (cQ, 600, .inr (.inr (.inr (.inr (ar_f []))))))]) (va_A [(m0, .inr (2, [.null, .int 0]))] sz)) 1 600 (va_A [(m0, .inr (2, [.null, .int 0]))] sz) := by
  refine Met.ofW (cc := cM_init) (maxL := 1) (ret := none) (by decide) rfl ?_
  intro p e s m args below meth c s₁ B hml hv
  obtain ⟨rfl, hsz, hP, hK, hD0, hG⟩ := hv
  have hx := B.exec
  have hb := B.bytes
  have hr := B.returns
  have hA := sp_hA (atoms_spec (ws := (.code yM_init cM_init 1 none :: wA)) B.pre)
  have hown : s.vm.findClass rM = some m.cls := findClass_of_methodNamed B.named
  have hlocks := B.notSynchronized
  have hin : meth.name = "<init>" := (name_of_methodNamed B.named B.method).1
  subst hsz
  have hD := hD0.self (sz := s.heap.size)
  generalize hAe : va_A [(m0, .inr (2, [.null, .int 0]))] s.heap.size = A at hD ⊢
  have hF : ∀ q : Nat, s.heap.size ≤ q → A q := fun q h => by rw [← hAe]; exact Or.inr h
  have hS : va_S A s.heap s.heap [] := va_S.rf
  have hl := lv_entry ([.ref m0]) (n := 1) (Nat.le_of_ble_eq_true rfl)
  rw [lg_entry_eq]
  generalize (lg_sl ([.ref m0]) ++ List.replicate (1 - (lg_sl ([.ref m0])).length) Slot.unset).toArray = ls at hl ⊢
  have hl : lv_has ls 1 [(0, .ref m0)] := hl
  refine lv_aload_n hx hb dM_init_0 rfl (lv_at hl 0 rfl) ?_
  refine W.objInit hx hb hown (hA _ wi_47) (hA _ wi_21) (hA _ wi_22) rfl (by rw [hml]; exact hl.1) rfl dM_init_1 (Nat.le_of_ble_eq_true rfl) (Nat.le_of_ble_eq_true rfl) ?_
  refine W.eq (g2 := F0 m 4 ls []) rfl ?_
  refine lv_aload_n hx hb dM_init_4 rfl (lv_at hl 0 rfl) ?_
  refine lv_sipush (v := 600) hx hb dM_init_5 (by decide) ?_
  refine va_newq (N' := 600) (C := "ShortenPrograms$Ask") hx hb hown (hA _ wi_48) hG.2.2.2.2.2 hK hP hD hS hF (by decide) (by decide) (by decide) (Nat.le_of_ble_eq_true rfl) (Nat.le_of_ble_eq_true rfl) dM_init_8 (fun q8 cA H hK hP hD hS => ?_)
  obtain rfl := sp_cQ hK
  have hK := hK.sub [0, 1] rfl
  have hP : va_P (dC, dI) vwCl [(m0, .inr (2, [.null, .int 0])), (q8, .inl (cQ, 600, .inr (.inr (.inr (.inr (fun _ => none))))))] H := hP
  have hD : va_D A [(m0, .inr (2, [.null, .int 0])), (q8, .inl (cQ, 600, .inr (.inr (.inr (.inr (fun _ => none))))))] := hD
  refine va_putF (D := (dC, dI)) (ci := 2) (v := .ref q8) (ty := .array (.object "ShortenPrograms$Ask")) (C := rM) (T := tM) (N := 2) hx hb hA inM tyM tyM_ok nmM hown hK hP hD hS 0 rfl rfl 0 (by decide) (hA _ wi_49) (fun _ h9 => h9) rfl hin rfl (by decide +kernel) rfl rfl (Nat.le_of_ble_eq_true rfl) dM_init_11 (fun H locs hP hD hS => ?_)
  have hP : va_P (dC, dI) vwCl [(m0, .inr (2, [.ref q8, .int 0])), (q8, .inl (cQ, 600, .inr (.inr (.inr (.inr (fun _ => none))))))] H := hP
  have hD : va_D A [(m0, .inr (2, [.ref q8, .int 0])), (q8, .inl (cQ, 600, .inr (.inr (.inr (.inr (fun _ => none))))))] := hD
  have hPe : va_P (dC, dI) vwCl [(m0, .inr (2, [.ref q8, .int 0])), (q8, .inl (cQ, 600, .inr (.inr (.inr (.inr (ar_f []))))))] H := by exact hP
  have hDe : va_D A [(m0, .inr (2, [.ref q8, .int 0])), (q8, .inl (cQ, 600, .inr (.inr (.inr (.inr (ar_f []))))))] := sp_Dc hD rfl
  refine W.widen (k := 1) (n := 600) (by omega) (by omega) ?_
  exact W.vret hx hb hr (fun t ht _ => ⟨⟨q8, rfl, trivial, by rw [ht]; exact hPe, hDe⟩, hS.F ht⟩) hS.2.2 dM_init_14
set_option maxHeartbeats 4000000 in
set_option maxRecDepth 100000 in
theorem kM_last (l : Launch) (dC : Nat → ClassId) (dI : Nat → Nat → Nat) (cI cQ : ClassId) (m0 aa : Nat) (fl : Int32) (as : List AR)  : Met l yM_last (.code yM_last cM_last 1 (some (.object "ShortenPrograms$Ask")) :: wA) ({ frames := 0, cells := 0, slots := 0, locals := 0 }) (sp_R (dC, dI) (kT cI cQ) [.ref m0] [(m0, .inr (2, [.ref aa, .int fl])), (aa, .inl (cQ, 600, .inr (.inr (.inr (.inr (ar_f as))))))]) (sp_QRq (mm_last as fl)) 0 0 (fun _ => False) := by
  refine Met.ofW (cc := cM_last) (maxL := 1) (ret := (some (.object "ShortenPrograms$Ask"))) (by decide) rfl ?_
  intro p e s m args below meth c s₁ B hml hv
  obtain ⟨rfl, hP, hK, hG⟩ := hv
  have hx := B.exec
  have hb := B.bytes
  have hr := B.returns
  have hA := sp_hA (atoms_spec (ws := (.code yM_last cM_last 1 (some (.object "ShortenPrograms$Ask")) :: wA)) B.pre)
  have hown : s.vm.findClass rM = some m.cls := findClass_of_methodNamed B.named
  have hlocks := B.notSynchronized
  have hS : va_S (fun _ => False) s.heap s.heap [] := va_S.rf
  have hl := lv_entry ([.ref m0]) (n := 1) (Nat.le_of_ble_eq_true rfl)
  rw [lg_entry_eq]
  generalize (lg_sl ([.ref m0]) ++ List.replicate (1 - (lg_sl ([.ref m0])).length) Slot.unset).toArray = ls at hl ⊢
  have hl : lv_has ls 1 [(0, .ref m0)] := hl
  refine lv_aload_n hx hb dM_last_0 rfl (lv_at hl 0 rfl) ?_
  refine va_get (D := (dC, dI)) (ci := 2) (C := rM) (T := tM) (N := 2) hx hb hA inM hown hK hP 0 rfl rfl 1 (by decide) (hA _ wi_50) (fun _ h9 => h9) rfl dM_last_1 ?_
  refine lv_if_le (tgt := 31) hx hb dM_last_4 (by decide) (fun c_4 => ?_) (fun c_4 => ?_)
  · refine lv_null hx hb dM_last_31 ?_
    exact W.aret hx hb hr (Or.inl ⟨_, rfl⟩) (Or.inl rfl) (sp_eRq (w := none) rfl (by simp [mm_last, c_4]) hS) hS.2.2 dM_last_32
  · refine lv_aload_n hx hb dM_last_7 rfl (lv_at hl 0 rfl) ?_
    refine va_get (D := (dC, dI)) (ci := 2) (C := rM) (T := tM) (N := 2) hx hb hA inM hown hK hP 0 rfl rfl 1 (by decide) (hA _ wi_50) (fun _ h9 => h9) rfl dM_last_8 ?_
    refine lv_sipush (v := 600) hx hb dM_last_11 (by decide) ?_
    refine lv_icmp_gt (tgt := 31) hx hb dM_last_14 (by decide) (fun c_14 => ?_) (fun c_14 => ?_)
    · refine lv_null hx hb dM_last_31 ?_
      exact W.aret hx hb hr (Or.inl ⟨_, rfl⟩) (Or.inl rfl) (sp_eRq (w := none) rfl (by simp [mm_last, c_4, c_14]) hS) hS.2.2 dM_last_32
    · refine lv_aload_n hx hb dM_last_17 rfl (lv_at hl 0 rfl) ?_
      refine va_get (D := (dC, dI)) (ci := 2) (C := rM) (T := tM) (N := 2) hx hb hA inM hown hK hP 0 rfl rfl 0 (by decide) (hA _ wi_49) (fun _ h9 => h9) rfl dM_last_18 ?_
      refine lv_aload_n hx hb dM_last_21 rfl (lv_at hl 0 rfl) ?_
      refine va_get (D := (dC, dI)) (ci := 2) (C := rM) (T := tM) (N := 2) hx hb hA inM hown hK hP 0 rfl rfl 1 (by decide) (hA _ wi_50) (fun _ h9 => h9) rfl dM_last_22 ?_
      refine lv_iconst (v := 1) hx hb dM_last_25 (by decide) ?_
      refine lv_isub hx hb dM_last_26 ?_
      refine va_aldq hx hb hK hP 1 1 rfl rfl (mm_last_in c_4 c_14) dM_last_27 ?_
      refine lv_goto (tgt := 32) hx hb dM_last_28 (by decide) ?_
      exact W.aret hx hb hr (Or.inl ⟨_, rfl⟩) (va_rf_or _) (sp_eRq (w := ((ar_f as) (Int32.toNatClampNeg (fl - 1)))) rfl (by simp [mm_last, c_4, c_14]) hS) hS.2.2 dM_last_32
set_option maxHeartbeats 4000000 in
set_option maxRecDepth 100000 in
theorem kM_find (l : Launch) (dC : Nat → ClassId) (dI : Nat → Nat → Nat) (cI cQ : ClassId) (g0 gw go : Nat) (n' : Int32) (ws' : Nat → Int32) (m0 aa : Nat) (fl : Int32) (as : List AR)  : Met l yM_find (.code yM_find cM_find 5 (some (.object "ShortenPrograms$Ask")) :: wA) ({ frames := 2, cells := 0, slots := 0, locals := 44 }) (sp_R (dC, dI) (kT cI cQ) [.ref m0, .ref g0] ([(g0, .inr (0, [.ref gw, .ref go, .int n'])), (gw, .inl (cI, 48, .inl ws')), (m0, .inr (2, [.ref aa, .int fl])), (aa, .inl (cQ, 600, .inr (.inr (.inr (.inr (ar_f as))))))] ++ ar_W cI as)) (sp_QRq ((mm_find as fl n' ws').map (fun r => r.1.1))) 0 0 (fun _ => False) := by
  refine Met.ofW (cc := cM_find) (maxL := 5) (ret := (some (.object "ShortenPrograms$Ask"))) (by decide) rfl ?_
  intro p e s m args below meth c s₁ B hml hv
  obtain ⟨rfl, hP, hK, hG⟩ := hv
  have hx := B.exec
  have hb := B.bytes
  have hr := B.returns
  have hA := sp_hA (atoms_spec (ws := (.code yM_find cM_find 5 (some (.object "ShortenPrograms$Ask")) :: wA)) B.pre)
  have hown : s.vm.findClass rM = some m.cls := findClass_of_methodNamed B.named
  have hlocks := B.notSynchronized
  have hS : va_S (fun _ => False) s.heap s.heap [] := va_S.rf
  have hl := lv_entry ([.ref m0, .ref g0]) (n := 5) (Nat.le_of_ble_eq_true rfl)
  rw [lg_entry_eq]
  generalize (lg_sl ([.ref m0, .ref g0]) ++ List.replicate (5 - (lg_sl ([.ref m0, .ref g0])).length) Slot.unset).toArray = ls at hl ⊢
  have hl : lv_has ls 5 [(0, .ref m0), (1, .ref g0)] := hl
  refine lv_aload_n hx hb dM_find_0 rfl (lv_at hl 1 rfl) ?_
  refine va_calli (va_runV (As := []) (rest := []) ⟨hx, hb, hml, hown, hA⟩ (kP_mark l dC dI cI cQ g0 gw go n' ws') (cwV 0 hA (gd_V wi_439 wi_281 wi_282 wi_3 wi_283) rfl rfl rfl (by decide +kernel) ⟨Nat.le_of_ble_eq_true rfl, Nat.le_of_ble_eq_true rfl⟩) ⟨sp_Rb, va_recv hK hP (ci := 0) (q0 := 0) rfl rfl, sp_Ro (hP.sub [0, 1] rfl) hK hG⟩ rfl rfl hl.1 rfl (lv_room (Nat.le_of_ble_eq_true rfl)) dM_find_1 ⟨Nat.le_of_ble_eq_true rfl, Nat.le_of_ble_eq_true rfl⟩) hS (fun _ _ h => h.elim) (fun _ h => h.elim) (fun r_1 u_1 t H locs ht hvm hw hB hz1 hk1 hS => ?_)
  subst hw
  have hP := sp_kp hP hk1
  refine lv_istore_n (lv' := [(2, .int (pg_mark ws' n' )), (0, .ref m0), (1, .ref g0)]) hx hb dM_find_4 rfl hl (by decide) rfl (fun ls hl => ?_)
  refine lv_iconst (v := 0) hx hb dM_find_5 (by decide) ?_
  refine lv_istore_n (lv' := [(3, .int 0), (2, .int (pg_mark ws' n' )), (0, .ref m0), (1, .ref g0)]) hx hb dM_find_6 rfl hl (by decide) rfl (fun ls hl => ?_)
  have loop : ∀ (n9 : Nat) (i : Nat) (H : Heap) (locs : List Loc) (ls : Array Slot), mm_lim fl - i < n9 → (i ≤ mm_lim fl) → (∀ j, j < i → ∀ x, as[j]? = some x → ak_is x.2.1 x.2.2.2.1 x.2.2.2.2.1 (pg_mark ws' n') n' ws' = 0) → va_P (dC, dI) vwCl ([(g0, .inr (0, [.ref gw, .ref go, .int n'])), (gw, .inl (cI, 48, .inl ws')), (m0, .inr (2, [.ref aa, .int fl])), (aa, .inl (cQ, 600, .inr (.inr (.inr (.inr (ar_f as))))))] ++ ar_W cI as) H → va_S (fun _ => False) s.heap H locs → lv_has ls 5 [(3, .int (nI i)), (2, .int (pg_mark ws' n')), (0, .ref m0), (1, .ref g0)] → W p l e (headSpec (.code yM_find cM_find 5 (some (.object "ShortenPrograms$Ask")) :: wA) ({ frames := 2, cells := 0, slots := 0, locals := 44 })).room s m ([.ref m0, .ref g0]).toArray below meth c H locs 0 0 (MQ below (sp_QRq ((mm_find as fl n' ws').map (fun r => r.1.1))) ([.ref m0, .ref g0]).toArray s 0 0 (fun _ => False)) (F0 m 7 ls []) := by
    intro n9
    induction n9 with
    | zero => intro i H locs ls hm9 hiM hno hP hS hl; exact absurd hm9 (Nat.not_lt_zero _)
    | succ n9 ih =>
      intro i H locs ls hm9 hiM hno hP hS hl
      have h600 := mm_lim_600 fl
      refine lv_iload_n hx hb dM_find_7 rfl (lv_at hl 0 rfl) ?_
      refine lv_aload_n hx hb dM_find_8 rfl (lv_at hl 2 rfl) ?_
      refine va_get (D := (dC, dI)) (ci := 2) (C := rM) (T := tM) (N := 2) hx hb hA inM hown hK hP 2 rfl rfl 1 (by decide) (hA _ wi_50) (fun _ h9 => h9) rfl dM_find_9 ?_
      refine lv_icmp_ge (tgt := 54) hx hb dM_find_12 (by decide) (fun c_12 => ?_) (fun c_12 => ?_)
      · refine lv_null hx hb dM_find_54 ?_
        exact W.aret hx hb hr (Or.inl ⟨_, rfl⟩) (Or.inl rfl) (sp_eRq (w := none) rfl (by rw [mm_none (fun j hj => hno j (Nat.lt_of_lt_of_le hj (mm_lim_le1 (by omega) c_12)))]; rfl) hS) hS.2.2 dM_find_55
      · refine lv_iload_n hx hb dM_find_15 rfl (lv_at hl 0 rfl) ?_
        refine lv_sipush (v := 600) hx hb dM_find_16 (by decide) ?_
        refine lv_icmp_ge (tgt := 54) hx hb dM_find_19 (by decide) (fun c_19 => ?_) (fun c_19 => ?_)
        · refine lv_null hx hb dM_find_54 ?_
          exact W.aret hx hb hr (Or.inl ⟨_, rfl⟩) (Or.inl rfl) (sp_eRq (w := none) rfl (by rw [mm_none (fun j hj => hno j (Nat.lt_of_lt_of_le hj (mm_lim_le2 (by omega) c_19)))]; rfl) hS) hS.2.2 dM_find_55
        · refine lv_aload_n hx hb dM_find_22 rfl (lv_at hl 2 rfl) ?_
          refine va_get (D := (dC, dI)) (ci := 2) (C := rM) (T := tM) (N := 2) hx hb hA inM hown hK hP 2 rfl rfl 0 (by decide) (hA _ wi_49) (fun _ h9 => h9) rfl dM_find_23 ?_
          refine lv_iload_n hx hb dM_find_26 rfl (lv_at hl 0 rfl) ?_
          refine va_aldq hx hb hK hP 3 1 rfl rfl (vp_in_nI (show i < 600 by have := mm_lim_lt (show i < 2 ^ 31 by omega) c_12 c_19; omega) (by decide)) dM_find_27 ?_
          have e1 : ar_f as (nI i).toNatClampNeg = (as[i]?).map (fun r => r.1.1) := by rw [nI_clamp (by omega)]; rfl
          rw [e1]
          rcases hq : as[i]? with _ | r
          · refine W.eq (g2 := F0 m 28 ls [.null]) rfl ?_
            refine lv_astoreN (lv' := [(4, .null), (3, .int (nI i)), (2, .int (pg_mark ws' n')), (0, .ref m0), (1, .ref g0)]) hx hb dM_find_28 hl (by decide) rfl (fun ls hl => ?_)
            refine lv_aloadN hx hb dM_find_30 (lv_at hl 0 rfl) ?_
            refine lv_ifnullN (tgt := 48) hx hb dM_find_32 (by decide) ?_
            refine lv_iinc (v := ((nI i) + 1)) (lv' := [(3, .int ((nI i) + 1)), (4, .null), (2, .int (pg_mark ws' n')), (0, .ref m0), (1, .ref g0)]) hx hb dM_find_48 hl (k := 1) rfl rfl (by decide) rfl (fun ls hl => ?_)
            refine lv_goto (tgt := 7) hx hb dM_find_51 (by decide) ?_
            have hi9 := mm_lim_lt (show i < 2 ^ 31 by omega) c_12 c_19
            refine ih (i + 1) H locs ls (by omega) (by omega) (lt_s hno (fun x hx => by rw [hq] at hx; cases hx)) hP hS ?_
            have h9 := lv_sub hl [0, 2, 3, 4] rfl
            rw [nI_1] at h9
            exact h9
          · refine W.eq (g2 := F0 m 28 ls [.ref r.1.1]) rfl ?_
            refine lv_astore (lv' := [(4, .ref r.1.1), (3, .int (nI i)), (2, .int (pg_mark ws' n')), (0, .ref m0), (1, .ref g0)]) hx hb dM_find_28 hl (by decide) rfl (fun ls hl => ?_)
            refine lv_aload hx hb dM_find_30 (lv_at hl 0 rfl) ?_
            refine lv_ifnull hx hb dM_find_32 ?_
            refine lv_aload hx hb dM_find_35 (lv_at hl 0 rfl) ?_
            refine lv_aload_n hx hb dM_find_37 rfl (lv_at hl 4 rfl) ?_
            refine lv_iload_n hx hb dM_find_38 rfl (lv_at hl 2 rfl) ?_
            refine va_calli (va_runV (As := [.ref g0, .int (pg_mark ws' n')]) (rest := []) ⟨hx, hb, hml, hown, hA⟩ (kA_is l dC dI cI cQ r.1.1 r.1.2.1 r.2.1 r.2.2.1 r.1.2.2.1 r.1.2.2.2 r.2.2.2.1 r.2.2.2.2.1 g0 gw go n' ws' (pg_mark ws' n')) (cwV 2 hA (gd_V wi_440 wi_441 wi_442 wi_12 wi_443) rfl rfl rfl (by decide +kernel) ⟨Nat.le_of_ble_eq_true rfl, Nat.le_of_ble_eq_true rfl⟩) ⟨sp_Rb, va_recv hK (ar_at hP hq) (ci := 1) (q0 := 0) rfl rfl, sp_Ro (show va_P (dC, dI) vwCl [(r.1.1, .inr (1, [.ref r.1.2.1, .int r.2.1, .int r.2.2.1])), (r.1.2.1, .inr (0, [.ref r.1.2.2.1, .ref r.1.2.2.2, .int r.2.2.2.1])), (r.1.2.2.1, .inl (cI, 48, .inl r.2.2.2.2.1)), (g0, .inr (0, [.ref gw, .ref go, .int n'])), (gw, .inl (cI, 48, .inl ws'))] _ from ((ar_at hP hq).sub [0, 1, 2] rfl).app (hP.sub [0, 1] rfl)) hK hG⟩ rfl rfl hl.1 rfl (lv_room (Nat.le_of_ble_eq_true rfl)) dM_find_39 ⟨Nat.le_of_ble_eq_true rfl, Nat.le_of_ble_eq_true rfl⟩) hS (fun _ _ h => h.elim) (fun _ h => h.elim) (fun r_39 u_39 t H locs ht hvm hw hB hz1 hk1 hS => ?_)
            subst hw
            have hP := sp_kp hP hk1
            refine lv_if_eq (tgt := 48) hx hb dM_find_42 (by decide) (fun c_42 => ?_) (fun c_42 => ?_)
            · refine lv_iinc (v := ((nI i) + 1)) (lv' := [(3, .int ((nI i) + 1)), (4, .ref r.1.1), (2, .int (pg_mark ws' n')), (0, .ref m0), (1, .ref g0)]) hx hb dM_find_48 hl (k := 1) rfl rfl (by decide) rfl (fun ls hl => ?_)
              refine lv_goto (tgt := 7) hx hb dM_find_51 (by decide) ?_
              have hi9 := mm_lim_lt (show i < 2 ^ 31 by omega) c_12 c_19
              refine ih (i + 1) H locs ls (by omega) (by omega) (lt_s hno (fun x hx => by rw [hq] at hx; cases hx; exact c_42)) hP hS ?_
              have h9 := lv_sub hl [0, 2, 3, 4] rfl
              rw [nI_1] at h9
              exact h9
            · refine lv_aload hx hb dM_find_45 (lv_at hl 0 rfl) ?_
              exact W.aret hx hb hr (Or.inl ⟨_, rfl⟩) (Or.inr ⟨_, rfl⟩) (sp_eRq (w := (some r.1.1)) rfl (by rw [mm_some (mm_lim_lt (show i < 2 ^ 31 by omega) c_12 c_19) hq c_42 hno]; rfl) hS) hS.2.2 dM_find_47
  exact loop ((mm_lim fl - 0) + 1) 0 _ _ ls (Nat.lt_succ_self _) (Nat.zero_le _) lt_0 hP hS (lv_sub hl [0, 1, 2, 3] rfl)
set_option maxHeartbeats 4000000 in
set_option maxRecDepth 100000 in
theorem kM_keep (l : Launch) (dC : Nat → ClassId) (dI : Nat → Nat → Nat) (cI cQ : ClassId) (g0 gw go : Nat) (n' : Int32) (ws' os' : Nat → Int32) (m0 aa k : Nat) (as : List AR) (sz : Nat) (hk : k ≤ as.length) (hlen : as.length ≤ 600) : Met l yM_keep (.code yM_keep cM_keep 3 none :: wA) ({ frames := 3, cells := 4, slots := 102, locals := 57 }) (sp_P (dC, dI) (kT cI cQ) [.ref m0, .ref g0] ([(g0, .inr (0, [.ref gw, .ref go, .int n'])), (gw, .inl (cI, 48, .inl ws')), (go, .inl (cI, 48, .inl os')), (m0, .inr (2, [.ref aa, .int (nI k)])), (aa, .inl (cQ, 600, .inr (.inr (.inr (.inr (ar_f as))))))] ++ (ar_W cI as)) sz) (va_Qv (fun (u : List AR) => mm_keepR as u k n' ws' os') (fun u t => va_P (dC, dI) vwCl ([(g0, .inr (0, [.ref gw, .ref go, .int n'])), (gw, .inl (cI, 48, .inl ws')), (go, .inl (cI, 48, .inl os')), (m0, .inr (2, [.ref aa, .int (nI (mm_fl k))])), (aa, .inl (cQ, 600, .inr (.inr (.inr (.inr (ar_f u))))))] ++ ar_W cI u) t.heap ∧ va_D (va_A ([(g0, .inr (0, [.ref gw, .ref go, .int n'])), (gw, .inl (cI, 48, .inl ws')), (go, .inl (cI, 48, .inl os')), (m0, .inr (2, [.ref aa, .int (nI k)])), (aa, .inl (cQ, 600, .inr (.inr (.inr (.inr (ar_f as))))))] ++ (ar_W cI as)) sz) ([(g0, .inr (0, [.ref gw, .ref go, .int n'])), (gw, .inl (cI, 48, .inl ws')), (go, .inl (cI, 48, .inl os')), (m0, .inr (2, [.ref aa, .int (nI (mm_fl k))])), (aa, .inl (cQ, 600, .inr (.inr (.inr (.inr (ar_f u))))))] ++ ar_W cI u)) (va_A ([(g0, .inr (0, [.ref gw, .ref go, .int n'])), (gw, .inl (cI, 48, .inl ws')), (go, .inl (cI, 48, .inl os')), (m0, .inr (2, [.ref aa, .int (nI k)])), (aa, .inl (cQ, 600, .inr (.inr (.inr (.inr (ar_f as))))))] ++ (ar_W cI as)) sz)) 4 102 (va_A ([(g0, .inr (0, [.ref gw, .ref go, .int n'])), (gw, .inl (cI, 48, .inl ws')), (go, .inl (cI, 48, .inl os')), (m0, .inr (2, [.ref aa, .int (nI k)])), (aa, .inl (cQ, 600, .inr (.inr (.inr (.inr (ar_f as))))))] ++ (ar_W cI as)) sz) := by
  refine Met.ofW (cc := cM_keep) (maxL := 3) (ret := none) (by decide) rfl ?_
  intro p e s m args below meth c s₁ B hml hv
  obtain ⟨rfl, hsz, hP, hK, hD0, hG⟩ := hv
  have hx := B.exec
  have hb := B.bytes
  have hr := B.returns
  have hA := sp_hA (atoms_spec (ws := (.code yM_keep cM_keep 3 none :: wA)) B.pre)
  have hown : s.vm.findClass rM = some m.cls := findClass_of_methodNamed B.named
  have hlocks := B.notSynchronized
  subst hsz
  have hD := hD0.self (sz := s.heap.size)
  generalize hAe : va_A ([(g0, .inr (0, [.ref gw, .ref go, .int n'])), (gw, .inl (cI, 48, .inl ws')), (go, .inl (cI, 48, .inl os')), (m0, .inr (2, [.ref aa, .int (nI k)])), (aa, .inl (cQ, 600, .inr (.inr (.inr (.inr (ar_f as))))))] ++ (ar_W cI as)) s.heap.size = A at hD ⊢
  have hF : ∀ q : Nat, s.heap.size ≤ q → A q := fun q h => by rw [← hAe]; exact Or.inr h
  have hS : va_S A s.heap s.heap [] := va_S.rf
  have hl := lv_entry ([.ref m0, .ref g0]) (n := 3) (Nat.le_of_ble_eq_true rfl)
  rw [lg_entry_eq]
  generalize (lg_sl ([.ref m0, .ref g0]) ++ List.replicate (3 - (lg_sl ([.ref m0, .ref g0])).length) Slot.unset).toArray = ls at hl ⊢
  have hl : lv_has ls 3 [(0, .ref m0), (1, .ref g0)] := hl
  refine lv_aload_n hx hb dM_keep_0 rfl (lv_at hl 0 rfl) ?_
  refine va_get (D := (dC, dI)) (ci := 2) (C := rM) (T := tM) (N := 2) hx hb hA inM hown hK hP 3 rfl rfl 1 (by decide) (hA _ wi_50) (fun _ h9 => h9) rfl dM_keep_1 ?_
  refine lv_if_lt (tgt := 17) hx hb dM_keep_4 (by decide) (fun c_4 => ?_) (fun c_4 => ?_)
  · exact absurd c_4 (nI_pos (by omega))
  · refine lv_aload_n hx hb dM_keep_7 rfl (lv_at hl 0 rfl) ?_
    refine va_get (D := (dC, dI)) (ci := 2) (C := rM) (T := tM) (N := 2) hx hb hA inM hown hK hP 3 rfl rfl 1 (by decide) (hA _ wi_50) (fun _ h9 => h9) rfl dM_keep_8 ?_
    refine lv_sipush (v := 600) hx hb dM_keep_11 (by decide) ?_
    refine lv_icmp_lt (tgt := 18) hx hb dM_keep_14 (by decide) (fun c_14 => ?_) (fun c_14 => ?_)
    · refine lv_aload_n hx hb dM_keep_18 rfl (lv_at hl 0 rfl) ?_
      refine va_get (D := (dC, dI)) (ci := 2) (C := rM) (T := tM) (N := 2) hx hb hA inM hown hK hP 3 rfl rfl 0 (by decide) (hA _ wi_49) (fun _ h9 => h9) rfl dM_keep_19 ?_
      refine lv_aload_n hx hb dM_keep_22 rfl (lv_at hl 0 rfl) ?_
      refine va_get (D := (dC, dI)) (ci := 2) (C := rM) (T := tM) (N := 2) hx hb hA inM hown hK hP 3 rfl rfl 1 (by decide) (hA _ wi_50) (fun _ h9 => h9) rfl dM_keep_23 ?_
      refine va_aldq hx hb hK hP 4 1 rfl rfl (vp_in_nI ((nI_ltI (a := k) (b := 600) (by omega) (by decide)).mp c_14) (by decide)) dM_keep_26 ?_
      have hk6 : k < 600 := (nI_ltI (a := k) (b := 600) (by omega) (by decide)).mp c_14
      have e1 : ar_f as (nI k).toNatClampNeg = (as[k]?).map (fun r => r.1.1) := by rw [nI_clamp (by omega)]; rfl
      rw [e1]
      rcases hq : as[k]? with _ | r
      · refine W.eq (g2 := F0 m 27 ls [.null]) rfl ?_
        have ek : k = as.length := Nat.le_antisymm hk (List.getElem?_eq_none_iff.mp hq)
        refine lv_astore_nN (lv' := [(2, .null), (0, .ref m0), (1, .ref g0)]) hx hb dM_keep_27 rfl hl (by decide) rfl (fun ls hl => ?_)
        refine lv_aload_nN hx hb dM_keep_28 rfl (lv_at hl 0 rfl) ?_
        refine lv_ifnonnullN hx hb dM_keep_29 ?_
        refine va_new (ci := 1) (fs := [.null, .int 0, .int 0]) (C := rA) (T := tA) (N := 3) hx hb hA inA tyA tyA_ok hown (hA _ wi_48) (hA _ wi_254) (hA _ wi_12) hK hP hD hS hF rfl (fun j hj => by rcases (show j = 0 ∨ j = 1 ∨ j = 2 by omega) with rfl | rfl | rfl <;> rfl) (Nat.le_of_ble_eq_true rfl) (Nat.le_of_ble_eq_true rfl) dM_keep_32 (fun q32 H hP hD hS => ?_)
        have hP := hP.swap
        have hD := hD.swap
        have hP : va_P (dC, dI) vwCl ([(g0, .inr (0, [.ref gw, .ref go, .int n'])), (gw, .inl (cI, 48, .inl ws')), (go, .inl (cI, 48, .inl os')), (m0, .inr (2, [.ref aa, .int (nI k)])), (aa, .inl (cQ, 600, .inr (.inr (.inr (.inr (ar_f as)))))), (q32, .inr (1, [.null, .int 0, .int 0]))] ++ (ar_W cI as)) H := hP
        have hD : va_D A ([(g0, .inr (0, [.ref gw, .ref go, .int n'])), (gw, .inl (cI, 48, .inl ws')), (go, .inl (cI, 48, .inl os')), (m0, .inr (2, [.ref aa, .int (nI k)])), (aa, .inl (cQ, 600, .inr (.inr (.inr (.inr (ar_f as)))))), (q32, .inr (1, [.null, .int 0, .int 0]))] ++ (ar_W cI as)) := hD
        refine lv_dup hx hb dM_keep_35 rfl ?_
        have hPc := hP.sub (ws' := [(q32, .inr (1, [.null, .int 0, .int 0]))]) [5] rfl
        have hDc := hD.sub (ws' := [(q32, .inr (1, [.null, .int 0, .int 0]))]) [5] (by decide) rfl
        have hFc := va_free (wc := [(q32, .inr (1, [.null, .int 0, .int 0]))]) hD hS hF [5] rfl
        refine va_callv (va_runIN (As := []) (rest := [.ref q32]) ⟨hx, hb, hml, hown, hA⟩ (kA_init l dC dI cI cQ q32 _) ⟨va_cnB 0 hA (gd_I wi_256) rfl rfl rfl hG.2.2.2.1 (hA _ wi_12) (by decide +kernel) ⟨Nat.le_of_ble_eq_true rfl, Nat.le_of_ble_eq_true rfl⟩, rfl, (hA _ wi_255)⟩ ⟨sp_Pb, sp_Po hPc hK hG hDc⟩ rfl rfl hl.1 rfl (lv_room (Nat.le_of_ble_eq_true rfl)) dM_keep_36 ⟨Nat.le_of_ble_eq_true rfl, Nat.le_of_ble_eq_true rfl⟩) hS (fun q _ h => hFc q h) hFc (fun u_36 t H locs ht hvm hw hB hz1 hk1 hS => ?_)
        obtain ⟨qp36, qw36, qo36⟩ := u_36
        try dsimp only at hB
        obtain ⟨hP1, hD1⟩ := hB
        rw [ht] at hP1
        obtain ⟨hP, hD⟩ := va_joinQ (X := [(g0, .inr (0, [.ref gw, .ref go, .int n'])), (gw, .inl (cI, 48, .inl ws')), (go, .inl (cI, 48, .inl os')), (m0, .inr (2, [.ref aa, .int (nI k)])), (aa, .inl (cQ, 600, .inr (.inr (.inr (.inr (ar_f as)))))), (q32, .inr (1, [.null, .int 0, .int 0]))]) (wr := [(g0, .inr (0, [.ref gw, .ref go, .int n'])), (gw, .inl (cI, 48, .inl ws')), (go, .inl (cI, 48, .inl os')), (m0, .inr (2, [.ref aa, .int (nI k)])), (aa, .inl (cQ, 600, .inr (.inr (.inr (.inr (ar_f as))))))]) (w1 := [(q32, .inr (1, [.ref qp36, .int 0, .int 0])), (qp36, .inr (0, [.ref qw36, .ref qo36, .int 0])), (qw36, .inl (cI, 48, .inl (fun _ => 0))), (qo36, .inl (cI, 48, .inl (fun _ => 0)))]) (pl := (ar_W cI as)) hP hD [5] [0, 1, 2, 3, 4] rfl rfl (by decide) (by decide) hk1 hFc hP1 hD1
        have hP : va_P (dC, dI) vwCl ([(g0, .inr (0, [.ref gw, .ref go, .int n'])), (gw, .inl (cI, 48, .inl ws')), (go, .inl (cI, 48, .inl os')), (m0, .inr (2, [.ref aa, .int (nI k)])), (aa, .inl (cQ, 600, .inr (.inr (.inr (.inr (ar_f as)))))), (q32, .inr (1, [.ref qp36, .int 0, .int 0])), (qp36, .inr (0, [.ref qw36, .ref qo36, .int 0])), (qw36, .inl (cI, 48, .inl (fun _ => 0))), (qo36, .inl (cI, 48, .inl (fun _ => 0)))] ++ (ar_W cI as)) H := hP
        have hD : va_D A ([(g0, .inr (0, [.ref gw, .ref go, .int n'])), (gw, .inl (cI, 48, .inl ws')), (go, .inl (cI, 48, .inl os')), (m0, .inr (2, [.ref aa, .int (nI k)])), (aa, .inl (cQ, 600, .inr (.inr (.inr (.inr (ar_f as)))))), (q32, .inr (1, [.ref qp36, .int 0, .int 0])), (qp36, .inr (0, [.ref qw36, .ref qo36, .int 0])), (qw36, .inl (cI, 48, .inl (fun _ => 0))), (qo36, .inl (cI, 48, .inl (fun _ => 0)))] ++ (ar_W cI as)) := hD
        refine lv_astore_n (lv' := [(2, .ref q32), (0, .ref m0), (1, .ref g0)]) hx hb dM_keep_39 rfl hl (by decide) rfl (fun ls hl => ?_)
        refine lv_aload_n hx hb dM_keep_40 rfl (lv_at hl 1 rfl) ?_
        refine va_get (D := (dC, dI)) (ci := 2) (C := rM) (T := tM) (N := 2) hx hb hA inM hown hK hP 3 rfl rfl 0 (by decide) (hA _ wi_49) (fun _ h9 => h9) rfl dM_keep_41 ?_
        refine lv_aload_n hx hb dM_keep_44 rfl (lv_at hl 1 rfl) ?_
        refine va_get (D := (dC, dI)) (ci := 2) (C := rM) (T := tM) (N := 2) hx hb hA inM hown hK hP 3 rfl rfl 1 (by decide) (hA _ wi_50) (fun _ h9 => h9) rfl dM_keep_45 ?_
        refine lv_aload_n hx hb dM_keep_48 rfl (lv_at hl 0 rfl) ?_
        refine va_astq hx hb hK hP hD hS 4 1 5 1 rfl rfl rfl rfl (vp_in_nI hk6 (by decide)) dM_keep_49 (fun H locs hP hD hS => ?_)
        have hP : va_P (dC, dI) vwCl ([(g0, .inr (0, [.ref gw, .ref go, .int n'])), (gw, .inl (cI, 48, .inl ws')), (go, .inl (cI, 48, .inl os')), (m0, .inr (2, [.ref aa, .int (nI k)])), (aa, .inl (cQ, 600, .inr (.inr (.inr (.inr (va_up (ar_f as) (Int32.toNatClampNeg (nI k)) (some q32))))))), (q32, .inr (1, [.ref qp36, .int 0, .int 0])), (qp36, .inr (0, [.ref qw36, .ref qo36, .int 0])), (qw36, .inl (cI, 48, .inl (fun _ => 0))), (qo36, .inl (cI, 48, .inl (fun _ => 0)))] ++ (ar_W cI as)) H := hP
        have hD : va_D A ([(g0, .inr (0, [.ref gw, .ref go, .int n'])), (gw, .inl (cI, 48, .inl ws')), (go, .inl (cI, 48, .inl os')), (m0, .inr (2, [.ref aa, .int (nI k)])), (aa, .inl (cQ, 600, .inr (.inr (.inr (.inr (va_up (ar_f as) (Int32.toNatClampNeg (nI k)) (some q32))))))), (q32, .inr (1, [.ref qp36, .int 0, .int 0])), (qp36, .inr (0, [.ref qw36, .ref qo36, .int 0])), (qw36, .inl (cI, 48, .inl (fun _ => 0))), (qo36, .inl (cI, 48, .inl (fun _ => 0)))] ++ (ar_W cI as)) := hD
        refine lv_aload_n hx hb dM_keep_50 rfl (lv_at hl 0 rfl) ?_
        refine lv_aload_n hx hb dM_keep_51 rfl (lv_at hl 2 rfl) ?_
        have hPc := hP.sub (ws' := [(q32, .inr (1, [.ref qp36, .int 0, .int 0])), (qp36, .inr (0, [.ref qw36, .ref qo36, .int 0])), (qw36, .inl (cI, 48, .inl (fun _ => 0))), (qo36, .inl (cI, 48, .inl (fun _ => 0))), (g0, .inr (0, [.ref gw, .ref go, .int n'])), (gw, .inl (cI, 48, .inl ws')), (go, .inl (cI, 48, .inl os'))]) [5, 6, 7, 8, 0, 1, 2] rfl
        have hDc := hD.sub (ws' := [(q32, .inr (1, [.ref qp36, .int 0, .int 0])), (qp36, .inr (0, [.ref qw36, .ref qo36, .int 0])), (qw36, .inl (cI, 48, .inl (fun _ => 0))), (qo36, .inl (cI, 48, .inl (fun _ => 0))), (g0, .inr (0, [.ref gw, .ref go, .int n'])), (gw, .inl (cI, 48, .inl ws')), (go, .inl (cI, 48, .inl os'))]) [5, 6, 7, 8, 0, 1, 2] (by decide) rfl
        have hFc := va_free (wc := [(q32, .inr (1, [.ref qp36, .int 0, .int 0])), (qp36, .inr (0, [.ref qw36, .ref qo36, .int 0])), (qw36, .inl (cI, 48, .inl (fun _ => 0))), (qo36, .inl (cI, 48, .inl (fun _ => 0))), (g0, .inr (0, [.ref gw, .ref go, .int n'])), (gw, .inl (cI, 48, .inl ws')), (go, .inl (cI, 48, .inl os'))]) hD hS hF [5, 6, 7, 8, 0, 1, 2] rfl
        refine va_callv (va_runV (As := [.ref g0]) (rest := []) ⟨hx, hb, hml, hown, hA⟩ (kA_open l dC dI cI cQ q32 qp36 0 0 qw36 qo36 0 (fun _ => 0) (fun _ => 0) g0 gw go n' ws' os' _) (cwV 1 hA (gd_V wi_269 wi_270 wi_271 wi_12 wi_272) rfl rfl rfl (by decide +kernel) ⟨Nat.le_of_ble_eq_true rfl, Nat.le_of_ble_eq_true rfl⟩) ⟨sp_Pb, va_recv hK hP (ci := 1) (q0 := 5) rfl rfl, sp_Po hPc hK hG hDc⟩ rfl rfl hl.1 rfl (lv_room (Nat.le_of_ble_eq_true rfl)) dM_keep_52 ⟨Nat.le_of_ble_eq_true rfl, Nat.le_of_ble_eq_true rfl⟩) hS (fun q _ h => hFc q h) hFc (fun u_52 t H locs ht hvm hw hB hz1 hk1 hS => ?_)
        obtain ⟨hP1, hD1⟩ := hB
        rw [ht] at hP1
        obtain ⟨hP, hD⟩ := va_joinQ (X := [(g0, .inr (0, [.ref gw, .ref go, .int n'])), (gw, .inl (cI, 48, .inl ws')), (go, .inl (cI, 48, .inl os')), (m0, .inr (2, [.ref aa, .int (nI k)])), (aa, .inl (cQ, 600, .inr (.inr (.inr (.inr (va_up (ar_f as) (Int32.toNatClampNeg (nI k)) (some q32))))))), (q32, .inr (1, [.ref qp36, .int 0, .int 0])), (qp36, .inr (0, [.ref qw36, .ref qo36, .int 0])), (qw36, .inl (cI, 48, .inl (fun _ => 0))), (qo36, .inl (cI, 48, .inl (fun _ => 0)))]) (wr := [(m0, .inr (2, [.ref aa, .int (nI k)])), (aa, .inl (cQ, 600, .inr (.inr (.inr (.inr (va_up (ar_f as) (Int32.toNatClampNeg (nI k)) (some q32)))))))]) (w1 := [(q32, .inr (1, [.ref qp36, .int (pg_mark (pg_cp ws' (fun _ => 0) (pg_cpN n').toNatClampNeg) (pg_cpN n')), .int (-2)])), (qp36, .inr (0, [.ref qw36, .ref qo36, .int (pg_cpN n')])), (qw36, .inl (cI, 48, .inl (pg_cp ws' (fun _ => 0) (pg_cpN n').toNatClampNeg))), (qo36, .inl (cI, 48, .inl (pg_cp os' (fun _ => 0) (pg_cpN n').toNatClampNeg))), (g0, .inr (0, [.ref gw, .ref go, .int n'])), (gw, .inl (cI, 48, .inl ws')), (go, .inl (cI, 48, .inl os'))]) (pl := (ar_W cI as)) hP hD [5, 6, 7, 8, 0, 1, 2] [3, 4] rfl rfl (by decide) (by decide) hk1 hFc hP1 hD1
        have hP : va_P (dC, dI) vwCl ([(m0, .inr (2, [.ref aa, .int (nI k)])), (aa, .inl (cQ, 600, .inr (.inr (.inr (.inr (va_up (ar_f as) (Int32.toNatClampNeg (nI k)) (some q32))))))), (q32, .inr (1, [.ref qp36, .int (pg_mark (pg_cp ws' (fun _ => 0) (pg_cpN n').toNatClampNeg) (pg_cpN n')), .int (-2)])), (qp36, .inr (0, [.ref qw36, .ref qo36, .int (pg_cpN n')])), (qw36, .inl (cI, 48, .inl (pg_cp ws' (fun _ => 0) (pg_cpN n').toNatClampNeg))), (qo36, .inl (cI, 48, .inl (pg_cp os' (fun _ => 0) (pg_cpN n').toNatClampNeg))), (g0, .inr (0, [.ref gw, .ref go, .int n'])), (gw, .inl (cI, 48, .inl ws')), (go, .inl (cI, 48, .inl os'))] ++ (ar_W cI as)) H := hP
        have hD : va_D A ([(m0, .inr (2, [.ref aa, .int (nI k)])), (aa, .inl (cQ, 600, .inr (.inr (.inr (.inr (va_up (ar_f as) (Int32.toNatClampNeg (nI k)) (some q32))))))), (q32, .inr (1, [.ref qp36, .int (pg_mark (pg_cp ws' (fun _ => 0) (pg_cpN n').toNatClampNeg) (pg_cpN n')), .int (-2)])), (qp36, .inr (0, [.ref qw36, .ref qo36, .int (pg_cpN n')])), (qw36, .inl (cI, 48, .inl (pg_cp ws' (fun _ => 0) (pg_cpN n').toNatClampNeg))), (qo36, .inl (cI, 48, .inl (pg_cp os' (fun _ => 0) (pg_cpN n').toNatClampNeg))), (g0, .inr (0, [.ref gw, .ref go, .int n'])), (gw, .inl (cI, 48, .inl ws')), (go, .inl (cI, 48, .inl os'))] ++ (ar_W cI as)) := hD
        refine lv_aload_n hx hb dM_keep_55 rfl (lv_at hl 1 rfl) ?_
        refine lv_dup hx hb dM_keep_56 rfl ?_
        refine va_get (D := (dC, dI)) (ci := 2) (C := rM) (T := tM) (N := 2) hx hb hA inM hown hK hP 0 rfl rfl 1 (by decide) (hA _ wi_50) (fun _ h9 => h9) rfl dM_keep_57 ?_
        refine lv_iconst (v := 1) hx hb dM_keep_60 (by decide) ?_
        refine lv_iadd hx hb dM_keep_61 ?_
        refine va_put (D := (dC, dI)) (ci := 2) (v := .int ((nI k) + 1)) (ty := .int) (C := rM) (T := tM) (N := 2) hx hb hA inM tyM tyM_ok nmM hown hK hP hD hS 0 rfl rfl 1 (by decide) (hA _ wi_50) (fun _ h9 => h9) rfl (by decide +kernel) rfl rfl (Nat.le_of_ble_eq_true rfl) dM_keep_62 (fun H locs hP hD hS => ?_)
        have hP : va_P (dC, dI) vwCl ([(m0, .inr (2, [.ref aa, .int ((nI k) + 1)])), (aa, .inl (cQ, 600, .inr (.inr (.inr (.inr (va_up (ar_f as) (Int32.toNatClampNeg (nI k)) (some q32))))))), (q32, .inr (1, [.ref qp36, .int (pg_mark (pg_cp ws' (fun _ => 0) (pg_cpN n').toNatClampNeg) (pg_cpN n')), .int (-2)])), (qp36, .inr (0, [.ref qw36, .ref qo36, .int (pg_cpN n')])), (qw36, .inl (cI, 48, .inl (pg_cp ws' (fun _ => 0) (pg_cpN n').toNatClampNeg))), (qo36, .inl (cI, 48, .inl (pg_cp os' (fun _ => 0) (pg_cpN n').toNatClampNeg))), (g0, .inr (0, [.ref gw, .ref go, .int n'])), (gw, .inl (cI, 48, .inl ws')), (go, .inl (cI, 48, .inl os'))] ++ (ar_W cI as)) H := hP
        have hD : va_D A ([(m0, .inr (2, [.ref aa, .int ((nI k) + 1)])), (aa, .inl (cQ, 600, .inr (.inr (.inr (.inr (va_up (ar_f as) (Int32.toNatClampNeg (nI k)) (some q32))))))), (q32, .inr (1, [.ref qp36, .int (pg_mark (pg_cp ws' (fun _ => 0) (pg_cpN n').toNatClampNeg) (pg_cpN n')), .int (-2)])), (qp36, .inr (0, [.ref qw36, .ref qo36, .int (pg_cpN n')])), (qw36, .inl (cI, 48, .inl (pg_cp ws' (fun _ => 0) (pg_cpN n').toNatClampNeg))), (qo36, .inl (cI, 48, .inl (pg_cp os' (fun _ => 0) (pg_cpN n').toNatClampNeg))), (g0, .inr (0, [.ref gw, .ref go, .int n'])), (gw, .inl (cI, 48, .inl ws')), (go, .inl (cI, 48, .inl os'))] ++ (ar_W cI as)) := hD
        have efl : nI (mm_fl k) = nI k + 1 := by rw [mm_fl, if_pos hk6, nI_1]
        have hP := hP.part (cx := [(g0, .inr (0, [.ref gw, .ref go, .int n'])), (gw, .inl (cI, 48, .inl ws')), (go, .inl (cI, 48, .inl os')), (m0, .inr (2, [.ref aa, .int ((nI k) + 1)])), (aa, .inl (cQ, 600, .inr (.inr (.inr (.inr (va_up (ar_f as) (Int32.toNatClampNeg (nI k)) (some q32))))))), (q32, .inr (1, [.ref qp36, .int (pg_mark (pg_cp ws' (fun _ => 0) (pg_cpN n').toNatClampNeg) (pg_cpN n')), .int (-2)])), (qp36, .inr (0, [.ref qw36, .ref qo36, .int (pg_cpN n')])), (qw36, .inl (cI, 48, .inl (pg_cp ws' (fun _ => 0) (pg_cpN n').toNatClampNeg))), (qo36, .inl (cI, 48, .inl (pg_cp os' (fun _ => 0) (pg_cpN n').toNatClampNeg)))]) [6, 7, 8, 0, 1, 2, 3, 4, 5] rfl
        have hD := hD.part (cx := [(g0, .inr (0, [.ref gw, .ref go, .int n'])), (gw, .inl (cI, 48, .inl ws')), (go, .inl (cI, 48, .inl os')), (m0, .inr (2, [.ref aa, .int ((nI k) + 1)])), (aa, .inl (cQ, 600, .inr (.inr (.inr (.inr (va_up (ar_f as) (Int32.toNatClampNeg (nI k)) (some q32))))))), (q32, .inr (1, [.ref qp36, .int (pg_mark (pg_cp ws' (fun _ => 0) (pg_cpN n').toNatClampNeg) (pg_cpN n')), .int (-2)])), (qp36, .inr (0, [.ref qw36, .ref qo36, .int (pg_cpN n')])), (qw36, .inl (cI, 48, .inl (pg_cp ws' (fun _ => 0) (pg_cpN n').toNatClampNeg))), (qo36, .inl (cI, 48, .inl (pg_cp os' (fun _ => 0) (pg_cpN n').toNatClampNeg)))]) [6, 7, 8, 0, 1, 2, 3, 4, 5] (by decide) rfl
        obtain ⟨r', er⟩ : ∃ r' : AR, r' = ((q32, qp36, qw36, qo36), (pg_mark (pg_cp ws' (fun _ => 0) (pg_cpN n').toNatClampNeg) (pg_cpN n')), (-2), (pg_cpN n'), (pg_cp ws' (fun _ => 0) (pg_cpN n').toNatClampNeg), (pg_cp os' (fun _ => 0) (pg_cpN n').toNatClampNeg)) := ⟨_, rfl⟩
        have ec : ar_cells cI r' = [(q32, .inr (1, [.ref qp36, .int (pg_mark (pg_cp ws' (fun _ => 0) (pg_cpN n').toNatClampNeg) (pg_cpN n')), .int (-2)])), (qp36, .inr (0, [.ref qw36, .ref qo36, .int (pg_cpN n')])), (qw36, .inl (cI, 48, .inl (pg_cp ws' (fun _ => 0) (pg_cpN n').toNatClampNeg))), (qo36, .inl (cI, 48, .inl (pg_cp os' (fun _ => 0) (pg_cpN n').toNatClampNeg)))] := by rw [er]; rfl
        have ef : (va_up (ar_f as) (Int32.toNatClampNeg (nI k)) (some q32)) = ar_f (as ++ [r']) := by rw [nI_clamp (by omega), ek, show q32 = r'.1.1 by rw [er]]; exact ar_f_up as r'
        rw [ef] at hP hD
        have hP : va_P (dC, dI) vwCl (([(g0, .inr (0, [.ref gw, .ref go, .int n'])), (gw, .inl (cI, 48, .inl ws')), (go, .inl (cI, 48, .inl os')), (m0, .inr (2, [.ref aa, .int ((nI k) + 1)])), (aa, .inl (cQ, 600, .inr (.inr (.inr (.inr (ar_f (as ++ [r'])))))))] ++ ar_cells cI r') ++ ar_W cI as) H := by rw [ec]; exact hP
        have hD : va_D A (([(g0, .inr (0, [.ref gw, .ref go, .int n'])), (gw, .inl (cI, 48, .inl ws')), (go, .inl (cI, 48, .inl os')), (m0, .inr (2, [.ref aa, .int ((nI k) + 1)])), (aa, .inl (cQ, 600, .inr (.inr (.inr (.inr (ar_f (as ++ [r'])))))))] ++ ar_cells cI r') ++ ar_W cI as) := by rw [ec]; exact hD
        have hP := hP.swap
        have hD := hD.swap
        rw [List.append_assoc] at hP hD
        have eW : ar_W cI (as ++ [r']) = ar_W cI as ++ ar_cells cI r' := by rw [ar_app]; show _ ++ (_ ++ []) = _; rw [List.append_nil]
        have hPe : va_P (dC, dI) vwCl ([(g0, .inr (0, [.ref gw, .ref go, .int n'])), (gw, .inl (cI, 48, .inl ws')), (go, .inl (cI, 48, .inl os')), (m0, .inr (2, [.ref aa, .int (nI (mm_fl k))])), (aa, .inl (cQ, 600, .inr (.inr (.inr (.inr (ar_f (as ++ [r'])))))))] ++ ar_W cI (as ++ [r'])) H := by rw [efl, eW]; exact hP
        have hDe : va_D A ([(g0, .inr (0, [.ref gw, .ref go, .int n'])), (gw, .inl (cI, 48, .inl ws')), (go, .inl (cI, 48, .inl os')), (m0, .inr (2, [.ref aa, .int (nI (mm_fl k))])), (aa, .inl (cQ, 600, .inr (.inr (.inr (.inr (ar_f (as ++ [r'])))))))] ++ ar_W cI (as ++ [r'])) := by rw [efl, eW]; exact hD
        refine W.widen (k := 4) (n := 102) (by omega) (by omega) ?_
        exact W.vret hx hb hr (fun t ht _ => ⟨⟨(as ++ [r']), rfl, mm_kept_app ek hk6 er, by rw [ht]; exact hPe, hDe⟩, hS.F ht⟩) hS.2.2 dM_keep_65
      · refine W.eq (g2 := F0 m 27 ls [.ref r.1.1]) rfl ?_
        obtain ⟨l1, l2, eas, elen, eW⟩ := ar_split (cI := cI) hq
        rw [eW] at hP hD
        have hP := va_P_perm hP (pm_out _ _ _ _)
        have hD := va_D_perm hD (pm_out _ _ _ _)
        have hP : va_P (dC, dI) vwCl ([(g0, .inr (0, [.ref gw, .ref go, .int n'])), (gw, .inl (cI, 48, .inl ws')), (go, .inl (cI, 48, .inl os')), (m0, .inr (2, [.ref aa, .int (nI k)])), (aa, .inl (cQ, 600, .inr (.inr (.inr (.inr (ar_f as)))))), (r.1.1, .inr (1, [.ref r.1.2.1, .int r.2.1, .int r.2.2.1])), (r.1.2.1, .inr (0, [.ref r.1.2.2.1, .ref r.1.2.2.2, .int r.2.2.2.1])), (r.1.2.2.1, .inl (cI, 48, .inl r.2.2.2.2.1)), (r.1.2.2.2, .inl (cI, 48, .inl r.2.2.2.2.2))] ++ (ar_W cI l1 ++ ar_W cI l2)) s.heap := hP
        have hD : va_D A ([(g0, .inr (0, [.ref gw, .ref go, .int n'])), (gw, .inl (cI, 48, .inl ws')), (go, .inl (cI, 48, .inl os')), (m0, .inr (2, [.ref aa, .int (nI k)])), (aa, .inl (cQ, 600, .inr (.inr (.inr (.inr (ar_f as)))))), (r.1.1, .inr (1, [.ref r.1.2.1, .int r.2.1, .int r.2.2.1])), (r.1.2.1, .inr (0, [.ref r.1.2.2.1, .ref r.1.2.2.2, .int r.2.2.2.1])), (r.1.2.2.1, .inl (cI, 48, .inl r.2.2.2.2.1)), (r.1.2.2.2, .inl (cI, 48, .inl r.2.2.2.2.2))] ++ (ar_W cI l1 ++ ar_W cI l2)) := hD
        refine lv_astore_n (lv' := [(2, .ref r.1.1), (0, .ref m0), (1, .ref g0)]) hx hb dM_keep_27 rfl hl (by decide) rfl (fun ls hl => ?_)
        refine lv_aload_n hx hb dM_keep_28 rfl (lv_at hl 0 rfl) ?_
        refine lv_ifnonnull (tgt := 50) hx hb dM_keep_29 (by decide) ?_
        refine lv_aload_n hx hb dM_keep_50 rfl (lv_at hl 0 rfl) ?_
        refine lv_aload_n hx hb dM_keep_51 rfl (lv_at hl 2 rfl) ?_
        have hPc := hP.sub (ws' := [(r.1.1, .inr (1, [.ref r.1.2.1, .int r.2.1, .int r.2.2.1])), (r.1.2.1, .inr (0, [.ref r.1.2.2.1, .ref r.1.2.2.2, .int r.2.2.2.1])), (r.1.2.2.1, .inl (cI, 48, .inl r.2.2.2.2.1)), (r.1.2.2.2, .inl (cI, 48, .inl r.2.2.2.2.2)), (g0, .inr (0, [.ref gw, .ref go, .int n'])), (gw, .inl (cI, 48, .inl ws')), (go, .inl (cI, 48, .inl os'))]) [5, 6, 7, 8, 0, 1, 2] rfl
        have hDc := hD.sub (ws' := [(r.1.1, .inr (1, [.ref r.1.2.1, .int r.2.1, .int r.2.2.1])), (r.1.2.1, .inr (0, [.ref r.1.2.2.1, .ref r.1.2.2.2, .int r.2.2.2.1])), (r.1.2.2.1, .inl (cI, 48, .inl r.2.2.2.2.1)), (r.1.2.2.2, .inl (cI, 48, .inl r.2.2.2.2.2)), (g0, .inr (0, [.ref gw, .ref go, .int n'])), (gw, .inl (cI, 48, .inl ws')), (go, .inl (cI, 48, .inl os'))]) [5, 6, 7, 8, 0, 1, 2] (by decide) rfl
        have hFc := va_free (wc := [(r.1.1, .inr (1, [.ref r.1.2.1, .int r.2.1, .int r.2.2.1])), (r.1.2.1, .inr (0, [.ref r.1.2.2.1, .ref r.1.2.2.2, .int r.2.2.2.1])), (r.1.2.2.1, .inl (cI, 48, .inl r.2.2.2.2.1)), (r.1.2.2.2, .inl (cI, 48, .inl r.2.2.2.2.2)), (g0, .inr (0, [.ref gw, .ref go, .int n'])), (gw, .inl (cI, 48, .inl ws')), (go, .inl (cI, 48, .inl os'))]) hD hS hF [5, 6, 7, 8, 0, 1, 2] rfl
        refine va_callv (va_runV (As := [.ref g0]) (rest := []) ⟨hx, hb, hml, hown, hA⟩ (kA_open l dC dI cI cQ r.1.1 r.1.2.1 r.2.1 r.2.2.1 r.1.2.2.1 r.1.2.2.2 r.2.2.2.1 r.2.2.2.2.1 r.2.2.2.2.2 g0 gw go n' ws' os' _) (cwV 1 hA (gd_V wi_269 wi_270 wi_271 wi_12 wi_272) rfl rfl rfl (by decide +kernel) ⟨Nat.le_of_ble_eq_true rfl, Nat.le_of_ble_eq_true rfl⟩) ⟨sp_Pb, va_recv hK hP (ci := 1) (q0 := 5) rfl rfl, sp_Po hPc hK hG hDc⟩ rfl rfl hl.1 rfl (lv_room (Nat.le_of_ble_eq_true rfl)) dM_keep_52 ⟨Nat.le_of_ble_eq_true rfl, Nat.le_of_ble_eq_true rfl⟩) hS (fun q _ h => hFc q h) hFc (fun u_52 t H locs ht hvm hw hB hz1 hk1 hS => ?_)
        obtain ⟨hP1, hD1⟩ := hB
        rw [ht] at hP1
        obtain ⟨hP, hD⟩ := va_joinQ (X := [(g0, .inr (0, [.ref gw, .ref go, .int n'])), (gw, .inl (cI, 48, .inl ws')), (go, .inl (cI, 48, .inl os')), (m0, .inr (2, [.ref aa, .int (nI k)])), (aa, .inl (cQ, 600, .inr (.inr (.inr (.inr (ar_f as)))))), (r.1.1, .inr (1, [.ref r.1.2.1, .int r.2.1, .int r.2.2.1])), (r.1.2.1, .inr (0, [.ref r.1.2.2.1, .ref r.1.2.2.2, .int r.2.2.2.1])), (r.1.2.2.1, .inl (cI, 48, .inl r.2.2.2.2.1)), (r.1.2.2.2, .inl (cI, 48, .inl r.2.2.2.2.2))]) (wr := [(m0, .inr (2, [.ref aa, .int (nI k)])), (aa, .inl (cQ, 600, .inr (.inr (.inr (.inr (ar_f as))))))]) (w1 := [(r.1.1, .inr (1, [.ref r.1.2.1, .int (pg_mark (pg_cp ws' r.2.2.2.2.1 (pg_cpN n').toNatClampNeg) (pg_cpN n')), .int (-2)])), (r.1.2.1, .inr (0, [.ref r.1.2.2.1, .ref r.1.2.2.2, .int (pg_cpN n')])), (r.1.2.2.1, .inl (cI, 48, .inl (pg_cp ws' r.2.2.2.2.1 (pg_cpN n').toNatClampNeg))), (r.1.2.2.2, .inl (cI, 48, .inl (pg_cp os' r.2.2.2.2.2 (pg_cpN n').toNatClampNeg))), (g0, .inr (0, [.ref gw, .ref go, .int n'])), (gw, .inl (cI, 48, .inl ws')), (go, .inl (cI, 48, .inl os'))]) (pl := (ar_W cI l1 ++ ar_W cI l2)) hP hD [5, 6, 7, 8, 0, 1, 2] [3, 4] rfl rfl (by decide) (by decide) hk1 hFc hP1 hD1
        have hP : va_P (dC, dI) vwCl ([(m0, .inr (2, [.ref aa, .int (nI k)])), (aa, .inl (cQ, 600, .inr (.inr (.inr (.inr (ar_f as)))))), (r.1.1, .inr (1, [.ref r.1.2.1, .int (pg_mark (pg_cp ws' r.2.2.2.2.1 (pg_cpN n').toNatClampNeg) (pg_cpN n')), .int (-2)])), (r.1.2.1, .inr (0, [.ref r.1.2.2.1, .ref r.1.2.2.2, .int (pg_cpN n')])), (r.1.2.2.1, .inl (cI, 48, .inl (pg_cp ws' r.2.2.2.2.1 (pg_cpN n').toNatClampNeg))), (r.1.2.2.2, .inl (cI, 48, .inl (pg_cp os' r.2.2.2.2.2 (pg_cpN n').toNatClampNeg))), (g0, .inr (0, [.ref gw, .ref go, .int n'])), (gw, .inl (cI, 48, .inl ws')), (go, .inl (cI, 48, .inl os'))] ++ (ar_W cI l1 ++ ar_W cI l2)) H := hP
        have hD : va_D A ([(m0, .inr (2, [.ref aa, .int (nI k)])), (aa, .inl (cQ, 600, .inr (.inr (.inr (.inr (ar_f as)))))), (r.1.1, .inr (1, [.ref r.1.2.1, .int (pg_mark (pg_cp ws' r.2.2.2.2.1 (pg_cpN n').toNatClampNeg) (pg_cpN n')), .int (-2)])), (r.1.2.1, .inr (0, [.ref r.1.2.2.1, .ref r.1.2.2.2, .int (pg_cpN n')])), (r.1.2.2.1, .inl (cI, 48, .inl (pg_cp ws' r.2.2.2.2.1 (pg_cpN n').toNatClampNeg))), (r.1.2.2.2, .inl (cI, 48, .inl (pg_cp os' r.2.2.2.2.2 (pg_cpN n').toNatClampNeg))), (g0, .inr (0, [.ref gw, .ref go, .int n'])), (gw, .inl (cI, 48, .inl ws')), (go, .inl (cI, 48, .inl os'))] ++ (ar_W cI l1 ++ ar_W cI l2)) := hD
        refine lv_aload_n hx hb dM_keep_55 rfl (lv_at hl 1 rfl) ?_
        refine lv_dup hx hb dM_keep_56 rfl ?_
        refine va_get (D := (dC, dI)) (ci := 2) (C := rM) (T := tM) (N := 2) hx hb hA inM hown hK hP 0 rfl rfl 1 (by decide) (hA _ wi_50) (fun _ h9 => h9) rfl dM_keep_57 ?_
        refine lv_iconst (v := 1) hx hb dM_keep_60 (by decide) ?_
        refine lv_iadd hx hb dM_keep_61 ?_
        refine va_put (D := (dC, dI)) (ci := 2) (v := .int ((nI k) + 1)) (ty := .int) (C := rM) (T := tM) (N := 2) hx hb hA inM tyM tyM_ok nmM hown hK hP hD hS 0 rfl rfl 1 (by decide) (hA _ wi_50) (fun _ h9 => h9) rfl (by decide +kernel) rfl rfl (Nat.le_of_ble_eq_true rfl) dM_keep_62 (fun H locs hP hD hS => ?_)
        have hP : va_P (dC, dI) vwCl ([(m0, .inr (2, [.ref aa, .int ((nI k) + 1)])), (aa, .inl (cQ, 600, .inr (.inr (.inr (.inr (ar_f as)))))), (r.1.1, .inr (1, [.ref r.1.2.1, .int (pg_mark (pg_cp ws' r.2.2.2.2.1 (pg_cpN n').toNatClampNeg) (pg_cpN n')), .int (-2)])), (r.1.2.1, .inr (0, [.ref r.1.2.2.1, .ref r.1.2.2.2, .int (pg_cpN n')])), (r.1.2.2.1, .inl (cI, 48, .inl (pg_cp ws' r.2.2.2.2.1 (pg_cpN n').toNatClampNeg))), (r.1.2.2.2, .inl (cI, 48, .inl (pg_cp os' r.2.2.2.2.2 (pg_cpN n').toNatClampNeg))), (g0, .inr (0, [.ref gw, .ref go, .int n'])), (gw, .inl (cI, 48, .inl ws')), (go, .inl (cI, 48, .inl os'))] ++ (ar_W cI l1 ++ ar_W cI l2)) H := hP
        have hD : va_D A ([(m0, .inr (2, [.ref aa, .int ((nI k) + 1)])), (aa, .inl (cQ, 600, .inr (.inr (.inr (.inr (ar_f as)))))), (r.1.1, .inr (1, [.ref r.1.2.1, .int (pg_mark (pg_cp ws' r.2.2.2.2.1 (pg_cpN n').toNatClampNeg) (pg_cpN n')), .int (-2)])), (r.1.2.1, .inr (0, [.ref r.1.2.2.1, .ref r.1.2.2.2, .int (pg_cpN n')])), (r.1.2.2.1, .inl (cI, 48, .inl (pg_cp ws' r.2.2.2.2.1 (pg_cpN n').toNatClampNeg))), (r.1.2.2.2, .inl (cI, 48, .inl (pg_cp os' r.2.2.2.2.2 (pg_cpN n').toNatClampNeg))), (g0, .inr (0, [.ref gw, .ref go, .int n'])), (gw, .inl (cI, 48, .inl ws')), (go, .inl (cI, 48, .inl os'))] ++ (ar_W cI l1 ++ ar_W cI l2)) := hD
        have efl : nI (mm_fl k) = nI k + 1 := by rw [mm_fl, if_pos hk6, nI_1]
        have hP := hP.part (cx := [(g0, .inr (0, [.ref gw, .ref go, .int n'])), (gw, .inl (cI, 48, .inl ws')), (go, .inl (cI, 48, .inl os')), (m0, .inr (2, [.ref aa, .int ((nI k) + 1)])), (aa, .inl (cQ, 600, .inr (.inr (.inr (.inr (ar_f as)))))), (r.1.1, .inr (1, [.ref r.1.2.1, .int (pg_mark (pg_cp ws' r.2.2.2.2.1 (pg_cpN n').toNatClampNeg) (pg_cpN n')), .int (-2)])), (r.1.2.1, .inr (0, [.ref r.1.2.2.1, .ref r.1.2.2.2, .int (pg_cpN n')])), (r.1.2.2.1, .inl (cI, 48, .inl (pg_cp ws' r.2.2.2.2.1 (pg_cpN n').toNatClampNeg))), (r.1.2.2.2, .inl (cI, 48, .inl (pg_cp os' r.2.2.2.2.2 (pg_cpN n').toNatClampNeg)))]) [6, 7, 8, 0, 1, 2, 3, 4, 5] rfl
        have hD := hD.part (cx := [(g0, .inr (0, [.ref gw, .ref go, .int n'])), (gw, .inl (cI, 48, .inl ws')), (go, .inl (cI, 48, .inl os')), (m0, .inr (2, [.ref aa, .int ((nI k) + 1)])), (aa, .inl (cQ, 600, .inr (.inr (.inr (.inr (ar_f as)))))), (r.1.1, .inr (1, [.ref r.1.2.1, .int (pg_mark (pg_cp ws' r.2.2.2.2.1 (pg_cpN n').toNatClampNeg) (pg_cpN n')), .int (-2)])), (r.1.2.1, .inr (0, [.ref r.1.2.2.1, .ref r.1.2.2.2, .int (pg_cpN n')])), (r.1.2.2.1, .inl (cI, 48, .inl (pg_cp ws' r.2.2.2.2.1 (pg_cpN n').toNatClampNeg))), (r.1.2.2.2, .inl (cI, 48, .inl (pg_cp os' r.2.2.2.2.2 (pg_cpN n').toNatClampNeg)))]) [6, 7, 8, 0, 1, 2, 3, 4, 5] (by decide) rfl
        obtain ⟨r', er⟩ : ∃ r' : AR, r' = ((r.1.1, r.1.2.1, r.1.2.2.1, r.1.2.2.2), (pg_mark (pg_cp ws' r.2.2.2.2.1 (pg_cpN n').toNatClampNeg) (pg_cpN n')), (-2), (pg_cpN n'), (pg_cp ws' r.2.2.2.2.1 (pg_cpN n').toNatClampNeg), (pg_cp os' r.2.2.2.2.2 (pg_cpN n').toNatClampNeg)) := ⟨_, rfl⟩
        have ec : ar_cells cI r' = [(r.1.1, .inr (1, [.ref r.1.2.1, .int (pg_mark (pg_cp ws' r.2.2.2.2.1 (pg_cpN n').toNatClampNeg) (pg_cpN n')), .int (-2)])), (r.1.2.1, .inr (0, [.ref r.1.2.2.1, .ref r.1.2.2.2, .int (pg_cpN n')])), (r.1.2.2.1, .inl (cI, 48, .inl (pg_cp ws' r.2.2.2.2.1 (pg_cpN n').toNatClampNeg))), (r.1.2.2.2, .inl (cI, 48, .inl (pg_cp os' r.2.2.2.2.2 (pg_cpN n').toNatClampNeg)))] := by rw [er]; rfl
        have hP : va_P (dC, dI) vwCl (([(g0, .inr (0, [.ref gw, .ref go, .int n'])), (gw, .inl (cI, 48, .inl ws')), (go, .inl (cI, 48, .inl os')), (m0, .inr (2, [.ref aa, .int ((nI k) + 1)])), (aa, .inl (cQ, 600, .inr (.inr (.inr (.inr (ar_f as))))))] ++ ar_cells cI r') ++ (ar_W cI l1 ++ ar_W cI l2)) H := by rw [ec]; exact hP
        have hD : va_D A (([(g0, .inr (0, [.ref gw, .ref go, .int n'])), (gw, .inl (cI, 48, .inl ws')), (go, .inl (cI, 48, .inl os')), (m0, .inr (2, [.ref aa, .int ((nI k) + 1)])), (aa, .inl (cQ, 600, .inr (.inr (.inr (.inr (ar_f as))))))] ++ ar_cells cI r') ++ (ar_W cI l1 ++ ar_W cI l2)) := by rw [ec]; exact hD
        have hP := va_P_perm hP (pm_out _ _ _ _).symm
        have hD := va_D_perm hD (pm_out _ _ _ _).symm
        rw [← ar_W1] at hP hD
        have ef : ar_f (l1 ++ r' :: l2) = ar_f as := by rw [eas, er]; exact ar_f_set rfl
        have hPe : va_P (dC, dI) vwCl ([(g0, .inr (0, [.ref gw, .ref go, .int n'])), (gw, .inl (cI, 48, .inl ws')), (go, .inl (cI, 48, .inl os')), (m0, .inr (2, [.ref aa, .int (nI (mm_fl k))])), (aa, .inl (cQ, 600, .inr (.inr (.inr (.inr (ar_f (l1 ++ r' :: l2)))))))] ++ ar_W cI (l1 ++ r' :: l2)) H := by rw [efl, ef]; exact hP
        have hDe : va_D A ([(g0, .inr (0, [.ref gw, .ref go, .int n'])), (gw, .inl (cI, 48, .inl ws')), (go, .inl (cI, 48, .inl os')), (m0, .inr (2, [.ref aa, .int (nI (mm_fl k))])), (aa, .inl (cQ, 600, .inr (.inr (.inr (.inr (ar_f (l1 ++ r' :: l2)))))))] ++ ar_W cI (l1 ++ r' :: l2)) := by rw [efl, ef]; exact hD
        refine W.widen (k := 4) (n := 102) (by omega) (by omega) ?_
        exact W.vret hx hb hr (fun t ht _ => ⟨⟨(l1 ++ r' :: l2), rfl, mm_kept_set eas elen hlen hk6 er, by rw [ht]; exact hPe, hDe⟩, hS.F ht⟩) hS.2.2 dM_keep_65
    · have hk6 : ¬ k < 600 := fun h => c_14 ((nI_ltI (a := k) (b := 600) (by omega) (by decide)).mpr h)
      have efl : mm_fl k = k := if_neg hk6
      have hPe : va_P (dC, dI) vwCl ([(g0, .inr (0, [.ref gw, .ref go, .int n'])), (gw, .inl (cI, 48, .inl ws')), (go, .inl (cI, 48, .inl os')), (m0, .inr (2, [.ref aa, .int (nI (mm_fl k))])), (aa, .inl (cQ, 600, .inr (.inr (.inr (.inr (ar_f as))))))] ++ ar_W cI as) s.heap := by rw [efl]; exact hP
      have hDe : va_D A ([(g0, .inr (0, [.ref gw, .ref go, .int n'])), (gw, .inl (cI, 48, .inl ws')), (go, .inl (cI, 48, .inl os')), (m0, .inr (2, [.ref aa, .int (nI (mm_fl k))])), (aa, .inl (cQ, 600, .inr (.inr (.inr (.inr (ar_f as))))))] ++ ar_W cI as) := by rw [efl]; exact hD
      refine W.widen (k := 4) (n := 102) (by omega) (by omega) ?_
      exact W.vret hx hb hr (fun t ht _ => ⟨⟨as, rfl, ⟨fun h => absurd h hk6, fun _ => rfl⟩, by rw [ht]; exact hPe, hDe⟩, hS.F ht⟩) hS.2.2 dM_keep_17
end
