/-! THE CLASS'S look: words of the tables for its two throws (printed by a program) -/
def th_13 : ByteArray := ⟨#[0x2a, 0x2b, 0xb7, 0x00, 0x0d, 0xb1]⟩
theorem th_13_0 : decode th_13 0 = .ok (.aload_n 0, 1) := by decide +kernel
theorem th_13_1 : decode th_13 1 = .ok (.aload_n 1, 1) := by decide +kernel
theorem th_13_2 : decode th_13 2 = .ok (.invokespecial 13, 3) := by decide +kernel
theorem th_13_5 : decode th_13 5 = .ok (.return_, 1) := by decide +kernel
def nIO : String := "java/lang/IndexOutOfBoundsException"
def nNS : String := "java/util/NoSuchElementException"
/-- what the rest must say for the two throws -/
def th_Z (b : Nat) (U : State) : Prop := zL b "UNASSIGNED_STACK" Bundle.steD U ∧ zL b "SUPPRESSED_SENTINEL" Bundle.listD U ∧ va_Nw (.declares (Bundle.initS "java/lang/RuntimeException")) U ∧ va_Nw (.declares (Bundle.initS "java/lang/Exception")) U ∧ va_Nw (.declares (Bundle.initS Bundle.tN)) U
section TH2
variable {args : Array Value} {s : State} {b : Nat}
set_option maxRecDepth 20000 in
theorem th_wA (hts : ∀ w ∈ sx_TB, w.before args s = true) (z : th_Z b s) : ∀ a ∈ Bundle.throwableAtoms, a.before args s = true := by
  unfold Bundle.throwableAtoms
  exact List.forall_mem_cons.mpr ⟨hts _ (sx_words (i := 148) (by decide +kernel) rfl), List.forall_mem_cons.mpr ⟨hts _ (sx_words (i := 1431) (by decide +kernel) rfl), List.forall_mem_cons.mpr ⟨hts _ (sx_words (i := 1440) (by decide +kernel) rfl), List.forall_mem_cons.mpr ⟨hts _ (List.mem_filter.mpr ⟨lw_in6 (List.mem_of_getElem? (i := 115) rfl), rfl⟩), List.forall_mem_cons.mpr ⟨hts _ (sx_words (i := 1446) (by decide +kernel) rfl), List.forall_mem_cons.mpr ⟨hts _ (sx_words (i := 1448) (by decide +kernel) rfl), List.forall_mem_cons.mpr ⟨hts _ (sx_words (i := 1432) (by decide +kernel) rfl), List.forall_mem_cons.mpr ⟨hts _ (List.mem_filter.mpr ⟨lw_in6 (List.mem_of_getElem? (i := 105) rfl), rfl⟩), List.forall_mem_cons.mpr ⟨hts _ (sx_words (i := 160) (by decide +kernel) rfl), List.forall_mem_cons.mpr ⟨hts _ (List.mem_filter.mpr ⟨lw_in1 (List.mem_of_getElem? (i := 33) rfl), rfl⟩), List.forall_mem_cons.mpr ⟨hts _ (sx_words (i := 1434) (by decide +kernel) rfl), List.forall_mem_cons.mpr ⟨hts _ (sx_words (i := 1439) (by decide +kernel) rfl), List.forall_mem_cons.mpr ⟨hts _ (sx_words (i := 1444) (by decide +kernel) rfl), List.forall_mem_cons.mpr ⟨hts _ (sx_words (i := 1464) (by decide +kernel) rfl), List.forall_mem_cons.mpr ⟨hts _ (sx_words (i := 1421) (by decide +kernel) rfl), List.forall_mem_cons.mpr ⟨hts _ (sx_words (i := 1465) (by decide +kernel) rfl), List.forall_mem_cons.mpr ⟨hts _ (sx_words (i := 1423) (by decide +kernel) rfl), List.forall_mem_cons.mpr ⟨hts _ (sx_words (i := 1466) (by decide +kernel) rfl), List.forall_mem_cons.mpr ⟨hts _ (sx_words (i := 1425) (by decide +kernel) rfl), List.forall_mem_cons.mpr ⟨hts _ (sx_words (i := 1435) (by decide +kernel) rfl), List.forall_mem_cons.mpr ⟨z.1.ly, List.forall_mem_cons.mpr ⟨hts _ (sx_words (i := 1437) (by decide +kernel) rfl), List.forall_mem_cons.mpr ⟨z.2.1.ly, List.forall_mem_cons.mpr ⟨hts _ (sx_words (i := 1427) (by decide +kernel) rfl), (fun _ h => by cases h)⟩⟩⟩⟩⟩⟩⟩⟩⟩⟩⟩⟩⟩⟩⟩⟩⟩⟩⟩⟩⟩⟩⟩⟩
set_option maxRecDepth 20000 in
theorem th_wS (hts : ∀ w ∈ sx_TB, w.before args s = true) (z : th_Z b s) : ∀ a ∈ Bundle.throwableSAtoms, a.before args s = true := by
  unfold Bundle.throwableSAtoms
  exact List.forall_mem_cons.mpr ⟨hts _ (sx_words (i := 1460) (by decide +kernel) rfl), List.forall_mem_cons.mpr ⟨hts _ (List.mem_filter.mpr ⟨lw_in6 (List.mem_of_getElem? (i := 133) rfl), rfl⟩), List.forall_mem_cons.mpr ⟨hts _ (sx_words (i := 1463) (by decide +kernel) rfl), List.forall_mem_cons.mpr ⟨hts _ (sx_words (i := 1427) (by decide +kernel) rfl), (fun _ h => by cases h)⟩⟩⟩⟩
set_option maxRecDepth 20000 in
theorem th_wI (hts : ∀ w ∈ sx_TB, w.before args s = true) (z : th_Z b s) : ∀ a ∈ th_B "SnowScore" 139 nIO Bundle.six, a.before args s = true := by
  unfold th_B
  exact List.forall_mem_cons.mpr ⟨hts _ (sx_words (i := 1450) (by decide +kernel) rfl), List.forall_mem_cons.mpr ⟨hts _ (sx_words (i := 1451) (by decide +kernel) rfl), List.forall_mem_cons.mpr ⟨hts _ (List.mem_filter.mpr ⟨lw_in6 (List.mem_of_getElem? (i := 124) rfl), rfl⟩), List.forall_mem_cons.mpr ⟨hts _ (sx_words (i := 1410) (by decide +kernel) rfl), List.forall_mem_cons.mpr ⟨hts _ (sx_words (i := 1418) (by decide +kernel) rfl), List.forall_mem_cons.mpr ⟨hts _ (sx_words (i := 1419) (by decide +kernel) rfl), List.forall_mem_cons.mpr ⟨hts _ (sx_words (i := 1420) (by decide +kernel) rfl), List.forall_mem_cons.mpr ⟨hts _ (sx_words (i := 1422) (by decide +kernel) rfl), List.forall_mem_cons.mpr ⟨hts _ (sx_words (i := 1424) (by decide +kernel) rfl), List.forall_mem_cons.mpr ⟨hts _ (sx_words (i := 1426) (by decide +kernel) rfl), List.forall_mem_cons.mpr ⟨z.1.rf, List.forall_mem_cons.mpr ⟨z.2.1.rf, List.forall_mem_cons.mpr ⟨hts _ (sx_words (i := 1430) (by decide +kernel) rfl), List.forall_mem_cons.mpr ⟨hts _ (sx_words (i := 1429) (by decide +kernel) rfl), List.forall_mem_cons.mpr ⟨hts _ (sx_words (i := 1428) (by decide +kernel) rfl), (fun _ h => by cases h)⟩⟩⟩⟩⟩⟩⟩⟩⟩⟩⟩⟩⟩⟩⟩
set_option maxRecDepth 20000 in
theorem th_wN (hts : ∀ w ∈ sx_TB, w.before args s = true) (z : th_Z b s) : ∀ a ∈ th_B "SnowScore" 162 nNS th_13, a.before args s = true := by
  unfold th_B
  exact List.forall_mem_cons.mpr ⟨hts _ (sx_words (i := 1485) (by decide +kernel) rfl), List.forall_mem_cons.mpr ⟨hts _ (sx_words (i := 1486) (by decide +kernel) rfl), List.forall_mem_cons.mpr ⟨hts _ (List.mem_filter.mpr ⟨lw_in6 (List.mem_of_getElem? (i := 159) rfl), rfl⟩), List.forall_mem_cons.mpr ⟨hts _ (sx_words (i := 1476) (by decide +kernel) rfl), List.forall_mem_cons.mpr ⟨hts _ (sx_words (i := 1478) (by decide +kernel) rfl), List.forall_mem_cons.mpr ⟨hts _ (sx_words (i := 1442) (by decide +kernel) rfl), List.forall_mem_cons.mpr ⟨hts _ (sx_words (i := 1479) (by decide +kernel) rfl), List.forall_mem_cons.mpr ⟨hts _ (sx_words (i := 1480) (by decide +kernel) rfl), List.forall_mem_cons.mpr ⟨hts _ (sx_words (i := 1481) (by decide +kernel) rfl), List.forall_mem_cons.mpr ⟨hts _ (sx_words (i := 1482) (by decide +kernel) rfl), List.forall_mem_cons.mpr ⟨z.1.rf, List.forall_mem_cons.mpr ⟨z.2.1.rf, List.forall_mem_cons.mpr ⟨hts _ (sx_words (i := 1430) (by decide +kernel) rfl), List.forall_mem_cons.mpr ⟨hts _ (sx_words (i := 1429) (by decide +kernel) rfl), List.forall_mem_cons.mpr ⟨hts _ (sx_words (i := 1483) (by decide +kernel) rfl), (fun _ h => by cases h)⟩⟩⟩⟩⟩⟩⟩⟩⟩⟩⟩⟩⟩⟩⟩
set_option maxRecDepth 20000 in
theorem th_pI (hts : ∀ w ∈ sx_TB, w.before args s = true) (z : th_Z b s) : ∀ a ∈ Bundle.passSAtoms nIO "java/lang/RuntimeException" 7 Bundle.six, a.before args s = true := by
  unfold Bundle.passSAtoms
  exact List.forall_mem_cons.mpr ⟨hts _ (sx_words (i := 1451) (by decide +kernel) rfl), List.forall_mem_cons.mpr ⟨hts _ (List.mem_filter.mpr ⟨lw_in6 (List.mem_of_getElem? (i := 124) rfl), rfl⟩), List.forall_mem_cons.mpr ⟨hts _ (sx_words (i := 1453) (by decide +kernel) rfl), List.forall_mem_cons.mpr ⟨hts _ (sx_words (i := 1454) (by decide +kernel) rfl), List.forall_mem_cons.mpr ⟨va_Nw.use rfl (z.2.2.1), (fun _ h => by cases h)⟩⟩⟩⟩⟩
set_option maxRecDepth 20000 in
theorem th_pN (hts : ∀ w ∈ sx_TB, w.before args s = true) (z : th_Z b s) : ∀ a ∈ Bundle.passSAtoms nNS "java/lang/RuntimeException" 13 th_13, a.before args s = true := by
  unfold Bundle.passSAtoms
  exact List.forall_mem_cons.mpr ⟨hts _ (sx_words (i := 1486) (by decide +kernel) rfl), List.forall_mem_cons.mpr ⟨hts _ (List.mem_filter.mpr ⟨lw_in6 (List.mem_of_getElem? (i := 159) rfl), rfl⟩), List.forall_mem_cons.mpr ⟨hts _ (sx_words (i := 1488) (by decide +kernel) rfl), List.forall_mem_cons.mpr ⟨hts _ (sx_words (i := 1454) (by decide +kernel) rfl), List.forall_mem_cons.mpr ⟨va_Nw.use rfl (z.2.2.1), (fun _ h => by cases h)⟩⟩⟩⟩⟩
set_option maxRecDepth 20000 in
theorem th_pR (hts : ∀ w ∈ sx_TB, w.before args s = true) (z : th_Z b s) : ∀ a ∈ Bundle.passSAtoms "java/lang/RuntimeException" "java/lang/Exception" 7 Bundle.six, a.before args s = true := by
  unfold Bundle.passSAtoms
  exact List.forall_mem_cons.mpr ⟨hts _ (sx_words (i := 1454) (by decide +kernel) rfl), List.forall_mem_cons.mpr ⟨hts _ (List.mem_filter.mpr ⟨lw_in6 (List.mem_of_getElem? (i := 127) rfl), rfl⟩), List.forall_mem_cons.mpr ⟨hts _ (sx_words (i := 1456) (by decide +kernel) rfl), List.forall_mem_cons.mpr ⟨hts _ (sx_words (i := 1457) (by decide +kernel) rfl), List.forall_mem_cons.mpr ⟨va_Nw.use rfl (z.2.2.2.1), (fun _ h => by cases h)⟩⟩⟩⟩⟩
set_option maxRecDepth 20000 in
theorem th_pE (hts : ∀ w ∈ sx_TB, w.before args s = true) (z : th_Z b s) : ∀ a ∈ Bundle.passSAtoms "java/lang/Exception" Bundle.tN 7 Bundle.six, a.before args s = true := by
  unfold Bundle.passSAtoms
  exact List.forall_mem_cons.mpr ⟨hts _ (sx_words (i := 1457) (by decide +kernel) rfl), List.forall_mem_cons.mpr ⟨hts _ (List.mem_filter.mpr ⟨lw_in6 (List.mem_of_getElem? (i := 130) rfl), rfl⟩), List.forall_mem_cons.mpr ⟨hts _ (sx_words (i := 1459) (by decide +kernel) rfl), List.forall_mem_cons.mpr ⟨hts _ (sx_words (i := 1460) (by decide +kernel) rfl), List.forall_mem_cons.mpr ⟨va_Nw.use rfl (z.2.2.2.2), (fun _ h => by cases h)⟩⟩⟩⟩⟩
theorem th_chR (hts : ∀ w ∈ sx_TB, w.before args s = true) (z : th_Z b s) : ∀ a ∈ Bundle.chainSAtoms "java/lang/RuntimeException" ["java/lang/Exception"], a.before args s = true := by
  intro a ha
  rcases List.mem_append.mp ha with h | h
  · exact th_pR hts z a h
  · exact th_pE hts z a h
theorem th_chI {pl : Platform} (hpl : pl.magicAccessors = ({} : Platform).magicAccessors) (hts : ∀ w ∈ sx_TB, w.before args s = true) (z : th_Z b s) : th_ch pl s nIO := by
  intro top htop
  obtain ⟨P1, Ps, h1, h2, h3, h4, h5, h6⟩ := Bundle.chainS (args := args) hpl htop ["java/lang/RuntimeException", "java/lang/Exception"] nIO (by decide) (by decide) (fun a ha => by
    rcases List.mem_append.mp ha with h | h
    · exact th_pI hts z a h
    · exact th_chR hts z a h)
  exact ⟨P1, Ps, h1, h2, h3, h4, h5, h6⟩
theorem th_chN {pl : Platform} (hpl : pl.magicAccessors = ({} : Platform).magicAccessors) (hts : ∀ w ∈ sx_TB, w.before args s = true) (z : th_Z b s) : th_ch pl s nNS := by
  intro top htop
  obtain ⟨P1, Ps, h1, h2, h3, h4, h5, h6⟩ := Bundle.chainS (args := args) hpl htop ["java/lang/Exception"] "java/lang/RuntimeException" (by decide) (by decide) (th_chR hts z)
  obtain ⟨P, L, hm, hs⟩ := PassC.ofS_atoms (args := args) (s := s) hpl (X := nNS) (Y := "java/lang/RuntimeException") (by decide) (by decide) th_13_0 th_13_1 th_13_2 th_13_5 (th_pN hts z)
  refine ⟨P, P1 :: Ps, by simp [h1], L, fun Q hQ => ?_, hm, Option.some.inj (hs.symm.trans h4), h5, h6⟩
  rcases List.mem_cons.mp hQ with rfl | hQ
  · exact h2
  · exact h3 Q hQ
theorem th_wI1 : Cond.classLink "SnowScore" 135 nIO ∈ sx_TB := sx_words (i := 1409) (by decide +kernel) rfl
theorem th_wI2 : Cond.instantiable nIO 6 ∈ sx_TB := sx_words (i := 1410) (by decide +kernel) rfl
theorem th_wI3 : Cond.initialized nIO ∈ sx_TB := sx_words (i := 151) (by decide +kernel) rfl
theorem th_wN1 : Cond.classLink "SnowScore" 158 nNS ∈ sx_TB := sx_words (i := 1475) (by decide +kernel) rfl
theorem th_wN2 : Cond.instantiable nNS 6 ∈ sx_TB := sx_words (i := 1476) (by decide +kernel) rfl
theorem th_wN3 : Cond.initialized nNS ∈ sx_TB := sx_words (i := 152) (by decide +kernel) rfl
theorem th_Z.mv {U : State} (z : th_Z b s) (hW : s.WarmedH U.vm) (hq : ∀ q : Nat, q < b → U.heap[q]? = s.heap[q]?) : th_Z b U := ⟨z.1.mv hW.alike hq, z.2.1.mv hW.alike hq, va_Nw.warmD hW z.2.2.1, va_Nw.warmD hW z.2.2.2.1, va_Nw.warmD hW z.2.2.2.2⟩
end TH2
