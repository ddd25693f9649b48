/-! EVIDENCE ALONE, no claim: the law's own method has an exception table of four rows in its class file; the Statement speaks of it by the word that says 'no table' -/
section EMPTY
theorem em_table : (ClassFile.Facts.File.methodOf? classFile x).any (fun q => q.code.any (fun z => z.2.2 == 4)) = true := by decide +kernel
theorem em_pinned : ClassFile.Facts.File.hasCode classFile x code maxLocals ret = false := by decide +kernel
/-- what the file does say of the law's method: its table has four rows, all of the catch type 33 -/
theorem em_with : ClassFile.Facts.File.hasCodeWith classFile x code maxLocals ret [(47, 142, 285, 33), (143, 164, 285, 33), (165, 210, 285, 33), (211, 281, 285, 33)] = true := by decide +kernel
/-- so no launch whatever meets the premises of the statement -/
theorem em_lists (l : Launch) : ¬ Lists l classFile x code maxLocals ret tables_1 room_1 := by
  rintro ⟨-, hf, hL, -⟩
  have hm : (x, code, maxLocals, ret) ∈ (headSpec (Cond.code x code maxLocals ret :: tables_1) room_1).pre.codes ++ (headSpec (Cond.code x code maxLocals ret :: tables_1) room_1).post.codes := by
    refine List.mem_append_left _ ?_
    show (x, code, maxLocals, ret) ∈ (allAtoms (Cond.code x code maxLocals ret :: tables_1)).codes
    simp [allAtoms, Cond.codes]
  have h := hL.1 _ hm
  rw [hf] at h
  rw [Option.any_some, em_pinned] at h
  exact Bool.noConfusion h
end EMPTY
