/-! what else holds of a state: nest words, strings; both layouts are good -/
def gcX (ad : Nat → Nat) (U : State) : Prop := XN U ∧ vk_S 5 lenL bytL (fun i => ad (1000 + i)) (fun i => ad (1100 + i)) (fun q => ∃ c, c < 127 ∧ ad c = q) U U.heap ∧ va_Z "java/lang/String" "COMPACT_STRINGS" "Z" (.int 1) (fun q => ∃ c, c < 127 ∧ ad c = q) U U.heap ∧ ∀ i : Nat, i < 5 → vk_R RX6 (idxS i) (txtS i) (ad (1000 + i)) U
theorem gcL_ok {l : Launch} {D : va_G} {cyB cyI cyJ cyO : ClassId} {ad : Nat → Nat} (hinj : ∀ i j : Nat, i < 127 → j < 127 → ad i = ad j → i = j) : Gok (gcL l D cyB cyI cyJ cyO ad (gcX ad)) := by
  refine ⟨hinj, fun U g mk a h => ?_, fun s U h hW hz hk => ?_, fun U h w hw hn => h.1.2 w hw hn⟩
  · obtain ⟨h1, h2, h3, h4⟩ := h
    exact ⟨h1.same (U := U.calling g mk a) rfl, vk_S.moved (u := U) (U := U.calling g mk a) (Vm.Alike.refl U.vm) h2, va_Z.moved (u := U) (U := U.calling g mk a) (Vm.Alike.refl U.vm) h3, fun i hi => vk_R.same (u := U) (U := U.calling g mk a) rfl (h4 i hi)⟩
  · obtain ⟨h1, h2, h3, h4⟩ := h
    exact ⟨h1.warm hW, (vk_S.moved hW.alike h2).kept hk, (va_Z.moved hW.alike h3).kept hk, fun i hi => vk_R.warm hW (h4 i hi)⟩
theorem gcL_st {l : Launch} {D : va_G} {cyB cyI cyJ cyO : ClassId} {ad : Nat → Nat} : StrOk (gcL l D cyB cyI cyJ cyO ad (gcX ad)) := fun _ h => h.2
theorem gM_ok {l : Launch} {D : va_G} {cyB cyI cyJ cyO : ClassId} {ad : Nat → Nat} (hinj : ∀ i j : Nat, i < 42 → j < 42 → ad i = ad j → i = j) : Gok (gM l D cyB cyI cyJ cyO ad XN) := by
  refine ⟨hinj, fun U g mk a h => ?_, fun s U h hW hz hk => ?_, fun U h w hw hn => h.2 w hw hn⟩
  · exact XN.same (u := U) (U := U.calling g mk a) h rfl
  · exact XN.warm h hW
