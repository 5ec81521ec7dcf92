/-! what lies outside: the text of the words, the statics of Throwable, two messages -/
def zWtx : String := "keep level or and not last first sum max min count gaps tremor tilt gas heat "
def zWby : List Int32 := [107, 101, 101, 112, 32, 108, 101, 118, 101, 108, 32, 111, 114, 32, 97, 110, 100, 32, 110, 111, 116, 32, 108, 97, 115, 116, 32, 102, 105, 114, 115, 116, 32, 115, 117, 109, 32, 109, 97, 120, 32, 109, 105, 110, 32, 99, 111, 117, 110, 116, 32, 103, 97, 112, 115, 32, 116, 114, 101, 109, 111, 114, 32, 116, 105, 108, 116, 32, 103, 97, 115, 32, 104, 101, 97, 116, 32]
def zWin : List Int := [107, 101, 101, 112, 32, 108, 101, 118, 101, 108, 32, 111, 114, 32, 97, 110, 100, 32, 110, 111, 116, 32, 108, 97, 115, 116, 32, 102, 105, 114, 115, 116, 32, 115, 117, 109, 32, 109, 97, 120, 32, 109, 105, 110, 32, 99, 111, 117, 110, 116, 32, 103, 97, 112, 115, 32, 116, 114, 101, 109, 111, 114, 32, 116, 105, 108, 116, 32, 103, 97, 115, 32, 104, 101, 97, 116, 32]
def zIoo : String := "java/lang/IndexOutOfBoundsException"
def zNse : String := "java/util/NoSuchElementException"
def zDcs : List MethodName := [⟨"java/lang/RuntimeException", "<init>", "(Ljava/lang/String;)V"⟩, ⟨"java/lang/Exception", "<init>", "(Ljava/lang/String;)V"⟩, ⟨"java/lang/Throwable", "<init>", "(Ljava/lang/String;)V"⟩]
abbrev zPrc : String := "jdk/internal/util/Preconditions"
def zXt (l : Launch) (xa : Nat → Nat) (A : Nat → Prop) (U : State) (H : Heap) : Prop :=
  l.stackTraces = false ∧ vx_Zq Bundle.tN "UNASSIGNED_STACK" Bundle.steD A U H ∧ vx_Zq Bundle.tN "SUPPRESSED_SENTINEL" Bundle.listD A U H ∧
  va_Nc "java/util/NoSuchElementException" "java/lang/IndexOutOfBoundsException" U ∧ va_Nw (.castable "java/lang/IndexOutOfBoundsException" "java/lang/IndexOutOfBoundsException") U ∧ va_Nw (.castable "java/util/NoSuchElementException" "java/util/NoSuchElementException") U ∧
  vk_R "VolcanoWatch$Tape" 54 zWtx (xa 200) U ∧ (vk_R "VolcanoWatch" 319 "no such cell" (xa 202) U ∧ vk_R "VolcanoWatch" 335 "no such what" (xa 203) U) ∧ vk_S 1 [77] [zWby] (fun _ => xa 200) (fun _ => xa 201) A U H ∧
  va_Z "java/lang/String" "COMPACT_STRINGS" "Z" (.int 1) A U H ∧ (va_Z zPrc "SIOOBE_FORMATTER" "Ljava/util/function/BiFunction;" .null A U H ∨ va_Z zPrc "SIOOBE_FORMATTER" "Ljava/util/function/BiFunction;" (.ref (xa 204)) A U H) ∧ ∀ q ∈ zDcs, va_Nw (.declares q) U
theorem zXt.pass {l : Launch} {xa : Nat → Nat} {A : Nat → Prop} {s U : State} {H : Heap} (h : zXt l xa A s s.heap) (hW : s.WarmedH U.vm) (hq : ∀ a : Nat, a < s.heap.size → ¬ A a → H[a]? = s.heap[a]?) : zXt l xa A U H := by
  obtain ⟨h1, h2, h3, h4, h5, h6, h7, ⟨h8, h9⟩, h10, h11, h12, h13⟩ := h
  exact ⟨h1, vx_Zq.moved hW.alike (h2.kept hq), vx_Zq.moved hW.alike (h3.kept hq), va_Nc.moved hW.alike h4, va_Nw.warmC hW h5, va_Nw.warmC hW h6, vk_R.warm hW h7, ⟨vk_R.warm hW h8, vk_R.warm hW h9⟩, vk_S.moved hW.alike (h10.kept hq), va_Z.moved hW.alike (h11.kept hq), h12.imp (fun h => va_Z.moved hW.alike (h.kept hq)) (fun h => va_Z.moved hW.alike (h.kept hq)), fun q hq => va_Nw.warmD hW (h13 q hq)⟩
theorem zXt.blind {l : Launch} {xa : Nat → Nat} {A : Nat → Prop} {U : State} (h : zXt l xa A U U.heap) (g : JFrame) (mk : MethodId) (a : Array Value) : zXt l xa A (U.calling g mk a) U.heap := by
  obtain ⟨h1, h2, h3, h4, h5, h6, h7, ⟨h8, h9⟩, h10, h11, h12, h13⟩ := h
  exact ⟨h1, vx_Zq.moved (Vm.Alike.refl U.vm) h2, vx_Zq.moved (Vm.Alike.refl U.vm) h3, va_Nc.moved (Vm.Alike.refl U.vm) h4, va_Nw.same rfl rfl h5, va_Nw.same rfl rfl h6, vk_R.same rfl h7, ⟨vk_R.same rfl h8, vk_R.same rfl h9⟩, vk_S.moved (Vm.Alike.refl U.vm) h10, va_Z.moved (Vm.Alike.refl U.vm) h11, h12.imp (fun h => va_Z.moved (Vm.Alike.refl U.vm) h) (fun h => va_Z.moved (Vm.Alike.refl U.vm) h), fun q hq => va_Nw.same rfl rfl (h13 q hq)⟩
