-- EXCEPTIONS: what a method that throws wants of the tables and of Throwable's statics
def wB : List Cond := [.castable "java/lang/UnsupportedOperationException" "java/lang/UnsupportedOperationException", .declares ⟨"java/lang/RuntimeException", "<init>", "()V"⟩, .declares ⟨"java/lang/RuntimeException", "<init>", "(Ljava/lang/String;)V"⟩, .declares ⟨"java/lang/Exception", "<init>", "()V"⟩, .declares ⟨"java/lang/Exception", "<init>", "(Ljava/lang/String;)V"⟩, .declares ⟨"java/lang/Throwable", "<init>", "()V"⟩, .declares ⟨"java/lang/Throwable", "<init>", "(Ljava/lang/String;)V"⟩, .castable "java/lang/IllegalStateException" "java/lang/IllegalStateException", .castable "java/lang/IndexOutOfBoundsException" "java/lang/IndexOutOfBoundsException", .castable "java/lang/IllegalArgumentException" "java/lang/IllegalArgumentException"]
def xStr : List (Nat × String) := [(60, "a program has at most 48 words"), (75, "only a fed program with words can begin"), (86, "no program is asked"), (100, "the program that is asked has no such word"), (109, "a difference is not below NONE"), (124, "there is no such word"), (129, "a word has no such byte"), (131, "what is 0 or 1"), (133, "a byte is 0 to 255")]
def sp_E (U : State) : Prop := (∀ w ∈ wB, va_Nw w U) ∧ ∀ q ∈ xStr, ∃ sa : Nat, vk_R "ShortenPrograms" q.1 q.2 sa U
theorem sp_E.warm {s U : State} (hW : s.WarmedH U.vm) (h : sp_E s) : sp_E U := by
  refine ⟨fun w hw => ?_, fun q hq => ?_⟩
  · have h1 := h.1 w hw
    simp only [wB, List.mem_cons, List.not_mem_nil, or_false] at hw
    rcases hw with rfl | rfl | rfl | rfl | rfl | rfl | rfl | rfl | rfl | rfl
    all_goals first | exact h1.warmC hW | exact h1.warmD hW
  · obtain ⟨sa, h1⟩ := h.2 q hq
    exact ⟨sa, h1.warm hW⟩
theorem sp_E.call {U : State} {g : JFrame} {mk : MethodId} {a : Array Value} (h : sp_E U) : sp_E (U.calling g mk a) := by
  refine ⟨fun w hw => ?_, fun q hq => ?_⟩
  · have h1 := h.1 w hw
    simp only [wB, List.mem_cons, List.not_mem_nil, or_false] at hw
    rcases hw with rfl | rfl | rfl | rfl | rfl | rfl | rfl | rfl | rfl | rfl
    all_goals exact h1.same rfl rfl
  · obtain ⟨sa, h1⟩ := h.2 q hq
    exact ⟨sa, h1.same rfl⟩
def sp_Z (A : Nat → Prop) (U : State) (H : Heap) : Prop := vx_Zq Bundle.tN "UNASSIGNED_STACK" Bundle.steD A U H ∧ vx_Zq Bundle.tN "SUPPRESSED_SENTINEL" Bundle.listD A U H
def sp_T (D : va_G) (tys : List (ClassId × FieldType)) (av : List Value) (ws : va_W) (sz : Nat) : Array Value → State → Prop := va_Pc av (fun U => U.heap.size = sz ∧ va_P D vwCl ws U.heap ∧ va_K D vwCl tys U ∧ va_D (fun _ => True) ws ∧ sp_G U ∧ sp_E U ∧ sp_Z (va_A ws sz) U U.heap)
theorem sp_Tb {D : va_G} {tys : List (ClassId × FieldType)} {av : List Value} {ws : va_W} {sz : Nat} : FrameBlind (sp_T D tys av ws sz) := fun a U g mk q => by
  obtain ⟨q0, q1, qP, qK, qD, qG, qE, qZ⟩ := q
  exact ⟨q0, q1, qP, va_K.moved (u := U) (U := U.calling g mk a) (Vm.Alike.refl U.vm) qK, qD, qG.call, qE.call, vx_Zq.moved (u := U) (U := U.calling g mk a) (Vm.Alike.refl U.vm) qZ.1, vx_Zq.moved (u := U) (U := U.calling g mk a) (Vm.Alike.refl U.vm) qZ.2⟩
theorem sp_Zk {A B : Nat → Prop} {s : State} {H : Heap} {locs : List Loc} (hZ : sp_Z A s s.heap) (hS : va_S A s.heap H locs) (hAB : ∀ q, B q → A q) : sp_Z B s H := ⟨(hZ.1.kept hS.2.1).narrow hAB, (hZ.2.kept hS.2.1).narrow hAB⟩
theorem sp_To {D : va_G} {tys : List (ClassId × FieldType)} {av : List Value} {ws : va_W} {A : Nat → Prop} {H : Heap} {s : State} (hP : va_P D vwCl ws H) (hK : va_K D vwCl tys s) (hG : sp_G s) (hE : sp_E s) (hZ : sp_Z (va_A ws H.size) s H) (hD : va_D A ws) : ∀ U : State, U.heap = H → s.WarmedH U.vm → sp_T D tys av ws H.size av.toArray U := fun U hU hW => ⟨rfl, by rw [hU], by rw [hU]; exact hP, va_K.moved hW.alike hK, hD.weaken (fun _ _ _ _ => trivial), hG.warm hW, hE.warm hW, by rw [hU]; exact ⟨vx_Zq.moved hW.alike hZ.1, vx_Zq.moved hW.alike hZ.2⟩⟩
/-- thrown: which, and the world as it was -/
abbrev sp_XC (D : va_G) (ws : va_W) (A : Nat → Prop) (ec : String → Prop) : String → State → State → Prop := vx_X (fun _ : Unit => True) (fun E _ t => ec E ∧ va_P D vwCl ws t.heap ∧ va_D A ws) A
theorem sp_xc {D : va_G} {ws : va_W} {A : Nat → Prop} {ec : String → Prop} {E : String} {s : State} {H : Heap} {locs : List Loc} (he : ec E) (hP : va_P D vwCl ws H) (hD : va_D A ws) (hS : va_S A s.heap H locs) : ∀ t : State, s.vm.Alike t.vm → H.size ≤ t.heap.size → (∀ q : Nat, q < H.size → t.heap[q]? = H[q]?) → sp_XC D ws A ec E s t := fun t _ hz hk => ⟨(), trivial, ⟨he, hP.kept (fun k q h => hk q.1 ((hP k q h).lt)), hD⟩, Nat.le_trans hS.1 hz, fun q h1 h2 => (hk q (Nat.lt_of_lt_of_le h1 hS.1)).trans (hS.2.1 q h1 h2)⟩
set_option maxRecDepth 20000 in
theorem xg_U : ∀ w ∈ (vx_atS "ShortenPrograms" 62 "java/lang/UnsupportedOperationException" ["java/lang/RuntimeException", "java/lang/Exception"]).filter goodWord, w ∈ wA := by decide +kernel
theorem xb_U : ∀ w ∈ (vx_atS "ShortenPrograms" 62 "java/lang/UnsupportedOperationException" ["java/lang/RuntimeException", "java/lang/Exception"]).filter (fun w => !goodWord w), w ∈ wB := by decide +kernel
theorem xo_U : ∀ w ∈ Cond.classLink "ShortenPrograms" 58 "java/lang/UnsupportedOperationException" :: Cond.initialized "java/lang/UnsupportedOperationException" :: (vx_atS "ShortenPrograms" 62 "java/lang/UnsupportedOperationException" ["java/lang/RuntimeException", "java/lang/Exception"]), vx_ot w = true := by decide +kernel
set_option maxRecDepth 20000 in
theorem xg_I : ∀ w ∈ (vx_atS "ShortenPrograms" 77 "java/lang/IllegalStateException" ["java/lang/RuntimeException", "java/lang/Exception"]).filter goodWord, w ∈ wA := by decide +kernel
theorem xb_I : ∀ w ∈ (vx_atS "ShortenPrograms" 77 "java/lang/IllegalStateException" ["java/lang/RuntimeException", "java/lang/Exception"]).filter (fun w => !goodWord w), w ∈ wB := by decide +kernel
theorem xo_I : ∀ w ∈ Cond.classLink "ShortenPrograms" 73 "java/lang/IllegalStateException" :: Cond.initialized "java/lang/IllegalStateException" :: (vx_atS "ShortenPrograms" 77 "java/lang/IllegalStateException" ["java/lang/RuntimeException", "java/lang/Exception"]), vx_ot w = true := by decide +kernel
set_option maxRecDepth 20000 in
theorem xg_B : ∀ w ∈ (vx_atS "ShortenPrograms" 102 "java/lang/IndexOutOfBoundsException" ["java/lang/RuntimeException", "java/lang/Exception"]).filter goodWord, w ∈ wA := by decide +kernel
theorem xb_B : ∀ w ∈ (vx_atS "ShortenPrograms" 102 "java/lang/IndexOutOfBoundsException" ["java/lang/RuntimeException", "java/lang/Exception"]).filter (fun w => !goodWord w), w ∈ wB := by decide +kernel
theorem xo_B : ∀ w ∈ Cond.classLink "ShortenPrograms" 98 "java/lang/IndexOutOfBoundsException" :: Cond.initialized "java/lang/IndexOutOfBoundsException" :: (vx_atS "ShortenPrograms" 102 "java/lang/IndexOutOfBoundsException" ["java/lang/RuntimeException", "java/lang/Exception"]), vx_ot w = true := by decide +kernel
set_option maxRecDepth 20000 in
theorem xg_A : ∀ w ∈ (vx_atS "ShortenPrograms" 111 "java/lang/IllegalArgumentException" ["java/lang/RuntimeException", "java/lang/Exception"]).filter goodWord, w ∈ wA := by decide +kernel
theorem xb_A : ∀ w ∈ (vx_atS "ShortenPrograms" 111 "java/lang/IllegalArgumentException" ["java/lang/RuntimeException", "java/lang/Exception"]).filter (fun w => !goodWord w), w ∈ wB := by decide +kernel
theorem xo_A : ∀ w ∈ Cond.classLink "ShortenPrograms" 107 "java/lang/IllegalArgumentException" :: Cond.initialized "java/lang/IllegalArgumentException" :: (vx_atS "ShortenPrograms" 111 "java/lang/IllegalArgumentException" ["java/lang/RuntimeException", "java/lang/Exception"]), vx_ot w = true := by decide +kernel

