/-! the reference's layout at the beginning -/
def gM (l : Launch) (D : va_G) (cyB cyI cyJ cyO : ClassId) (ad : Nat → Nat) (X : State → Prop) : Gx := (l, D, Ety cyB cyI cyJ cyO, ad, 42, Etab cyB cyI cyJ cyO ad layM fsoM, X)
theorem gM_is (l : Launch) (D : va_G) (cyB cyI cyJ cyO : ClassId) (ad : Nat → Nat) (X : State → Prop) : IsG (gM l D cyB cyI cyJ cyO ad X) layM fsoM := ⟨rfl, cyB, cyI, cyJ, cyO, rfl, fun _ _ _ => rfl⟩
def adM (h0 : Nat) (u : Nat → Nat) (c : Nat) : Nat := if c = 0 then h0 else u c
theorem wM_0 (l : Launch) (D : va_G) (cyB cyI cyJ cyO : ClassId) (h0 : Nat) (u : Nat → Nat) (X : State → Prop) : (w_X10 cyB cyI h0 u)[0]? = some (adM h0 u 0, cE (gM l D cyB cyI cyJ cyO (adM h0 u) X) 0 t0) := rfl
theorem wM_1 (l : Launch) (D : va_G) (cyB cyI cyJ cyO : ClassId) (h0 : Nat) (u : Nat → Nat) (X : State → Prop) : (w_X10 cyB cyI h0 u)[1]? = some (adM h0 u 1, cE (gM l D cyB cyI cyJ cyO (adM h0 u) X) 1 t0) := rfl
theorem wM_2 (l : Launch) (D : va_G) (cyB cyI cyJ cyO : ClassId) (h0 : Nat) (u : Nat → Nat) (X : State → Prop) : (w_X10 cyB cyI h0 u)[2]? = some (adM h0 u 2, cE (gM l D cyB cyI cyJ cyO (adM h0 u) X) 2 t0) := rfl
theorem wM_3 (l : Launch) (D : va_G) (cyB cyI cyJ cyO : ClassId) (h0 : Nat) (u : Nat → Nat) (X : State → Prop) : (w_X10 cyB cyI h0 u)[3]? = some (adM h0 u 3, cE (gM l D cyB cyI cyJ cyO (adM h0 u) X) 3 t0) := rfl
theorem wM_4 (l : Launch) (D : va_G) (cyB cyI cyJ cyO : ClassId) (h0 : Nat) (u : Nat → Nat) (X : State → Prop) : (w_X10 cyB cyI h0 u)[4]? = some (adM h0 u 4, cE (gM l D cyB cyI cyJ cyO (adM h0 u) X) 4 t0) := rfl
theorem wM_5 (l : Launch) (D : va_G) (cyB cyI cyJ cyO : ClassId) (h0 : Nat) (u : Nat → Nat) (X : State → Prop) : (w_X10 cyB cyI h0 u)[5]? = some (adM h0 u 5, cE (gM l D cyB cyI cyJ cyO (adM h0 u) X) 5 t0) := rfl
theorem wM_6 (l : Launch) (D : va_G) (cyB cyI cyJ cyO : ClassId) (h0 : Nat) (u : Nat → Nat) (X : State → Prop) : (w_X10 cyB cyI h0 u)[6]? = some (adM h0 u 6, cE (gM l D cyB cyI cyJ cyO (adM h0 u) X) 6 t0) := rfl
theorem wM_7 (l : Launch) (D : va_G) (cyB cyI cyJ cyO : ClassId) (h0 : Nat) (u : Nat → Nat) (X : State → Prop) : (w_X10 cyB cyI h0 u)[7]? = some (adM h0 u 7, cE (gM l D cyB cyI cyJ cyO (adM h0 u) X) 7 t0) := rfl
theorem wM_8 (l : Launch) (D : va_G) (cyB cyI cyJ cyO : ClassId) (h0 : Nat) (u : Nat → Nat) (X : State → Prop) : (w_X10 cyB cyI h0 u)[8]? = some (adM h0 u 8, cE (gM l D cyB cyI cyJ cyO (adM h0 u) X) 8 t0) := rfl
theorem wM_9 (l : Launch) (D : va_G) (cyB cyI cyJ cyO : ClassId) (h0 : Nat) (u : Nat → Nat) (X : State → Prop) : (w_X10 cyB cyI h0 u)[9]? = some (adM h0 u 9, cE (gM l D cyB cyI cyJ cyO (adM h0 u) X) 9 t0) := rfl
theorem wM_10 (l : Launch) (D : va_G) (cyB cyI cyJ cyO : ClassId) (h0 : Nat) (u : Nat → Nat) (X : State → Prop) : (w_X10 cyB cyI h0 u)[10]? = some (adM h0 u 10, cE (gM l D cyB cyI cyJ cyO (adM h0 u) X) 10 t0) := rfl
theorem wM_11 (l : Launch) (D : va_G) (cyB cyI cyJ cyO : ClassId) (h0 : Nat) (u : Nat → Nat) (X : State → Prop) : (w_X10 cyB cyI h0 u)[11]? = some (adM h0 u 11, cE (gM l D cyB cyI cyJ cyO (adM h0 u) X) 11 t0) := rfl
theorem wM_12 (l : Launch) (D : va_G) (cyB cyI cyJ cyO : ClassId) (h0 : Nat) (u : Nat → Nat) (X : State → Prop) : (w_X10 cyB cyI h0 u)[12]? = some (adM h0 u 12, cE (gM l D cyB cyI cyJ cyO (adM h0 u) X) 12 t0) := rfl
theorem wM_13 (l : Launch) (D : va_G) (cyB cyI cyJ cyO : ClassId) (h0 : Nat) (u : Nat → Nat) (X : State → Prop) : (w_X10 cyB cyI h0 u)[13]? = some (adM h0 u 13, cE (gM l D cyB cyI cyJ cyO (adM h0 u) X) 13 t0) := rfl
theorem wM_14 (l : Launch) (D : va_G) (cyB cyI cyJ cyO : ClassId) (h0 : Nat) (u : Nat → Nat) (X : State → Prop) : (w_X10 cyB cyI h0 u)[14]? = some (adM h0 u 14, cE (gM l D cyB cyI cyJ cyO (adM h0 u) X) 14 t0) := rfl
theorem wM_15 (l : Launch) (D : va_G) (cyB cyI cyJ cyO : ClassId) (h0 : Nat) (u : Nat → Nat) (X : State → Prop) : (w_X10 cyB cyI h0 u)[15]? = some (adM h0 u 15, cE (gM l D cyB cyI cyJ cyO (adM h0 u) X) 15 t0) := rfl
theorem wM_16 (l : Launch) (D : va_G) (cyB cyI cyJ cyO : ClassId) (h0 : Nat) (u : Nat → Nat) (X : State → Prop) : (w_X10 cyB cyI h0 u)[16]? = some (adM h0 u 16, cE (gM l D cyB cyI cyJ cyO (adM h0 u) X) 16 t0) := rfl
theorem wM_17 (l : Launch) (D : va_G) (cyB cyI cyJ cyO : ClassId) (h0 : Nat) (u : Nat → Nat) (X : State → Prop) : (w_X10 cyB cyI h0 u)[17]? = some (adM h0 u 17, cE (gM l D cyB cyI cyJ cyO (adM h0 u) X) 17 t0) := rfl
theorem wM_18 (l : Launch) (D : va_G) (cyB cyI cyJ cyO : ClassId) (h0 : Nat) (u : Nat → Nat) (X : State → Prop) : (w_X10 cyB cyI h0 u)[18]? = some (adM h0 u 18, cE (gM l D cyB cyI cyJ cyO (adM h0 u) X) 18 t0) := rfl
theorem wM_19 (l : Launch) (D : va_G) (cyB cyI cyJ cyO : ClassId) (h0 : Nat) (u : Nat → Nat) (X : State → Prop) : (w_X10 cyB cyI h0 u)[19]? = some (adM h0 u 19, cE (gM l D cyB cyI cyJ cyO (adM h0 u) X) 19 t0) := rfl
theorem wM_20 (l : Launch) (D : va_G) (cyB cyI cyJ cyO : ClassId) (h0 : Nat) (u : Nat → Nat) (X : State → Prop) : (w_X10 cyB cyI h0 u)[20]? = some (adM h0 u 20, cE (gM l D cyB cyI cyJ cyO (adM h0 u) X) 20 t0) := rfl
theorem wM_21 (l : Launch) (D : va_G) (cyB cyI cyJ cyO : ClassId) (h0 : Nat) (u : Nat → Nat) (X : State → Prop) : (w_X10 cyB cyI h0 u)[21]? = some (adM h0 u 21, cE (gM l D cyB cyI cyJ cyO (adM h0 u) X) 21 t0) := rfl
theorem wM_22 (l : Launch) (D : va_G) (cyB cyI cyJ cyO : ClassId) (h0 : Nat) (u : Nat → Nat) (X : State → Prop) : (w_X10 cyB cyI h0 u)[22]? = some (adM h0 u 22, cE (gM l D cyB cyI cyJ cyO (adM h0 u) X) 22 t0) := rfl
theorem wM_23 (l : Launch) (D : va_G) (cyB cyI cyJ cyO : ClassId) (h0 : Nat) (u : Nat → Nat) (X : State → Prop) : (w_X10 cyB cyI h0 u)[23]? = some (adM h0 u 23, cE (gM l D cyB cyI cyJ cyO (adM h0 u) X) 23 t0) := rfl
theorem wM_24 (l : Launch) (D : va_G) (cyB cyI cyJ cyO : ClassId) (h0 : Nat) (u : Nat → Nat) (X : State → Prop) : (w_X10 cyB cyI h0 u)[24]? = some (adM h0 u 24, cE (gM l D cyB cyI cyJ cyO (adM h0 u) X) 24 t0) := rfl
theorem wM_25 (l : Launch) (D : va_G) (cyB cyI cyJ cyO : ClassId) (h0 : Nat) (u : Nat → Nat) (X : State → Prop) : (w_X10 cyB cyI h0 u)[25]? = some (adM h0 u 25, cE (gM l D cyB cyI cyJ cyO (adM h0 u) X) 25 t0) := rfl
theorem wM_26 (l : Launch) (D : va_G) (cyB cyI cyJ cyO : ClassId) (h0 : Nat) (u : Nat → Nat) (X : State → Prop) : (w_X10 cyB cyI h0 u)[26]? = some (adM h0 u 26, cE (gM l D cyB cyI cyJ cyO (adM h0 u) X) 26 t0) := rfl
theorem wM_27 (l : Launch) (D : va_G) (cyB cyI cyJ cyO : ClassId) (h0 : Nat) (u : Nat → Nat) (X : State → Prop) : (w_X10 cyB cyI h0 u)[27]? = some (adM h0 u 27, cE (gM l D cyB cyI cyJ cyO (adM h0 u) X) 27 t0) := rfl
theorem wM_28 (l : Launch) (D : va_G) (cyB cyI cyJ cyO : ClassId) (h0 : Nat) (u : Nat → Nat) (X : State → Prop) : (w_X10 cyB cyI h0 u)[28]? = some (adM h0 u 28, cE (gM l D cyB cyI cyJ cyO (adM h0 u) X) 28 t0) := rfl
theorem wM_29 (l : Launch) (D : va_G) (cyB cyI cyJ cyO : ClassId) (h0 : Nat) (u : Nat → Nat) (X : State → Prop) : (w_X10 cyB cyI h0 u)[29]? = some (adM h0 u 29, cE (gM l D cyB cyI cyJ cyO (adM h0 u) X) 29 t0) := rfl
theorem wM_30 (l : Launch) (D : va_G) (cyB cyI cyJ cyO : ClassId) (h0 : Nat) (u : Nat → Nat) (X : State → Prop) : (w_X10 cyB cyI h0 u)[30]? = some (adM h0 u 30, cE (gM l D cyB cyI cyJ cyO (adM h0 u) X) 30 t0) := rfl
theorem wM_31 (l : Launch) (D : va_G) (cyB cyI cyJ cyO : ClassId) (h0 : Nat) (u : Nat → Nat) (X : State → Prop) : (w_X10 cyB cyI h0 u)[31]? = some (adM h0 u 31, cE (gM l D cyB cyI cyJ cyO (adM h0 u) X) 31 t0) := rfl
theorem wM_32 (l : Launch) (D : va_G) (cyB cyI cyJ cyO : ClassId) (h0 : Nat) (u : Nat → Nat) (X : State → Prop) : (w_X10 cyB cyI h0 u)[32]? = some (adM h0 u 32, cE (gM l D cyB cyI cyJ cyO (adM h0 u) X) 32 t0) := rfl
theorem wM_33 (l : Launch) (D : va_G) (cyB cyI cyJ cyO : ClassId) (h0 : Nat) (u : Nat → Nat) (X : State → Prop) : (w_X10 cyB cyI h0 u)[33]? = some (adM h0 u 33, cE (gM l D cyB cyI cyJ cyO (adM h0 u) X) 33 t0) := rfl
theorem wM_34 (l : Launch) (D : va_G) (cyB cyI cyJ cyO : ClassId) (h0 : Nat) (u : Nat → Nat) (X : State → Prop) : (w_X10 cyB cyI h0 u)[34]? = some (adM h0 u 34, cE (gM l D cyB cyI cyJ cyO (adM h0 u) X) 34 t0) := rfl
theorem wM_35 (l : Launch) (D : va_G) (cyB cyI cyJ cyO : ClassId) (h0 : Nat) (u : Nat → Nat) (X : State → Prop) : (w_X10 cyB cyI h0 u)[35]? = some (adM h0 u 35, cE (gM l D cyB cyI cyJ cyO (adM h0 u) X) 35 t0) := rfl
theorem wM_36 (l : Launch) (D : va_G) (cyB cyI cyJ cyO : ClassId) (h0 : Nat) (u : Nat → Nat) (X : State → Prop) : (w_X10 cyB cyI h0 u)[36]? = some (adM h0 u 36, cE (gM l D cyB cyI cyJ cyO (adM h0 u) X) 36 t0) := rfl
theorem wM_37 (l : Launch) (D : va_G) (cyB cyI cyJ cyO : ClassId) (h0 : Nat) (u : Nat → Nat) (X : State → Prop) : (w_X10 cyB cyI h0 u)[37]? = some (adM h0 u 37, cE (gM l D cyB cyI cyJ cyO (adM h0 u) X) 37 t0) := rfl
theorem wM_38 (l : Launch) (D : va_G) (cyB cyI cyJ cyO : ClassId) (h0 : Nat) (u : Nat → Nat) (X : State → Prop) : (w_X10 cyB cyI h0 u)[38]? = some (adM h0 u 38, cE (gM l D cyB cyI cyJ cyO (adM h0 u) X) 38 t0) := rfl
theorem wM_39 (l : Launch) (D : va_G) (cyB cyI cyJ cyO : ClassId) (h0 : Nat) (u : Nat → Nat) (X : State → Prop) : (w_X10 cyB cyI h0 u)[39]? = some (adM h0 u 39, cE (gM l D cyB cyI cyJ cyO (adM h0 u) X) 39 t0) := rfl
theorem wM_40 (l : Launch) (D : va_G) (cyB cyI cyJ cyO : ClassId) (h0 : Nat) (u : Nat → Nat) (X : State → Prop) : (w_X10 cyB cyI h0 u)[40]? = some (adM h0 u 40, cE (gM l D cyB cyI cyJ cyO (adM h0 u) X) 40 t0) := rfl
theorem wM_41 (l : Launch) (D : va_G) (cyB cyI cyJ cyO : ClassId) (h0 : Nat) (u : Nat → Nat) (X : State → Prop) : (w_X10 cyB cyI h0 u)[41]? = some (adM h0 u 41, cE (gM l D cyB cyI cyJ cyO (adM h0 u) X) 41 t0) := rfl
theorem wM_all (l : Launch) (D : va_G) (cyB cyI cyJ cyO : ClassId) (h0 : Nat) (u : Nat → Nat) (X : State → Prop) : ∀ c, c < 42 → (w_X10 cyB cyI h0 u)[c]? = some (adM h0 u c, cE (gM l D cyB cyI cyJ cyO (adM h0 u) X) c t0)
  | 0, _ => wM_0 l D cyB cyI cyJ cyO h0 u X
  | 1, _ => wM_1 l D cyB cyI cyJ cyO h0 u X
  | 2, _ => wM_2 l D cyB cyI cyJ cyO h0 u X
  | 3, _ => wM_3 l D cyB cyI cyJ cyO h0 u X
  | 4, _ => wM_4 l D cyB cyI cyJ cyO h0 u X
  | 5, _ => wM_5 l D cyB cyI cyJ cyO h0 u X
  | 6, _ => wM_6 l D cyB cyI cyJ cyO h0 u X
  | 7, _ => wM_7 l D cyB cyI cyJ cyO h0 u X
  | 8, _ => wM_8 l D cyB cyI cyJ cyO h0 u X
  | 9, _ => wM_9 l D cyB cyI cyJ cyO h0 u X
  | 10, _ => wM_10 l D cyB cyI cyJ cyO h0 u X
  | 11, _ => wM_11 l D cyB cyI cyJ cyO h0 u X
  | 12, _ => wM_12 l D cyB cyI cyJ cyO h0 u X
  | 13, _ => wM_13 l D cyB cyI cyJ cyO h0 u X
  | 14, _ => wM_14 l D cyB cyI cyJ cyO h0 u X
  | 15, _ => wM_15 l D cyB cyI cyJ cyO h0 u X
  | 16, _ => wM_16 l D cyB cyI cyJ cyO h0 u X
  | 17, _ => wM_17 l D cyB cyI cyJ cyO h0 u X
  | 18, _ => wM_18 l D cyB cyI cyJ cyO h0 u X
  | 19, _ => wM_19 l D cyB cyI cyJ cyO h0 u X
  | 20, _ => wM_20 l D cyB cyI cyJ cyO h0 u X
  | 21, _ => wM_21 l D cyB cyI cyJ cyO h0 u X
  | 22, _ => wM_22 l D cyB cyI cyJ cyO h0 u X
  | 23, _ => wM_23 l D cyB cyI cyJ cyO h0 u X
  | 24, _ => wM_24 l D cyB cyI cyJ cyO h0 u X
  | 25, _ => wM_25 l D cyB cyI cyJ cyO h0 u X
  | 26, _ => wM_26 l D cyB cyI cyJ cyO h0 u X
  | 27, _ => wM_27 l D cyB cyI cyJ cyO h0 u X
  | 28, _ => wM_28 l D cyB cyI cyJ cyO h0 u X
  | 29, _ => wM_29 l D cyB cyI cyJ cyO h0 u X
  | 30, _ => wM_30 l D cyB cyI cyJ cyO h0 u X
  | 31, _ => wM_31 l D cyB cyI cyJ cyO h0 u X
  | 32, _ => wM_32 l D cyB cyI cyJ cyO h0 u X
  | 33, _ => wM_33 l D cyB cyI cyJ cyO h0 u X
  | 34, _ => wM_34 l D cyB cyI cyJ cyO h0 u X
  | 35, _ => wM_35 l D cyB cyI cyJ cyO h0 u X
  | 36, _ => wM_36 l D cyB cyI cyJ cyO h0 u X
  | 37, _ => wM_37 l D cyB cyI cyJ cyO h0 u X
  | 38, _ => wM_38 l D cyB cyI cyJ cyO h0 u X
  | 39, _ => wM_39 l D cyB cyI cyJ cyO h0 u X
  | 40, _ => wM_40 l D cyB cyI cyJ cyO h0 u X
  | 41, _ => wM_41 l D cyB cyI cyJ cyO h0 u X
  | n + 42, h => absurd h (by omega)
theorem gM_wo {l : Launch} {D : va_G} {cyB cyI cyJ cyO : ClassId} {h0 : Nat} {u : Nat → Nat} {X : State → Prop} {H : Heap} (hP : va_P D vwCl (w_X10 cyB cyI h0 u) H) : Wo (gM l D cyB cyI cyJ cyO (adM h0 u) X) t0 H := by
  intro k q hk
  have hl : k < 42 := by
    have h1 := (List.getElem?_eq_some_iff.mp hk).1
    unfold gcells at h1
    rw [List.length_map, List.length_range] at h1
    exact h1
  rw [gcells_at hl] at hk
  cases hk
  exact hP k _ (wM_all l D cyB cyI cyJ cyO h0 u X k hl)
theorem gM_inj {l : Launch} {D : va_G} {cyB cyI cyJ cyO : ClassId} {h0 : Nat} {u : Nat → Nat} {A : Nat → Prop} (hD : va_D A (w_X10 cyB cyI h0 u)) : ∀ i j : Nat, i < 42 → j < 42 → adM h0 u i = adM h0 u j → i = j := fun i j hi hj h =>
  hD.1 i j _ _ (wM_all l D cyB cyI cyJ cyO h0 u (fun _ => True) i hi) (wM_all l D cyB cyI cyJ cyO h0 u (fun _ => True) j hj) h
theorem gM_in {l : Launch} {D : va_G} {cyB cyI cyJ cyO : ClassId} {h0 : Nat} {u : Nat → Nat} {A : Nat → Prop} (hD : va_D A (w_X10 cyB cyI h0 u)) : ∀ i : Nat, i < 42 → A (adM h0 u i) := fun i hi => hD.2 i _ (wM_all l D cyB cyI cyJ cyO h0 u (fun _ => True) i hi)
