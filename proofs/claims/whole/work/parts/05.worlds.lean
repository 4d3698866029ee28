/-! ===== worlds ===== -/
def fC_0 (ad : Nat → Nat) (σ : tyS) : List Value := [.ref (ad 1), .ref (ad 2), .ref (ad 3), .ref (ad 4), .ref (ad 5), .ref (ad 29), .ref (ad 30), .ref (ad 31), .int (σ.2 0), .int (σ.2 1), .int (σ.2 2), .int (σ.2 3)]
def fC_1 (ad : Nat → Nat) (σ : tyS) : List Value := [.ref (ad 6), .ref (ad 7)]
def fC_2 (ad : Nat → Nat) (σ : tyS) : List Value := [.ref (ad 8), .ref (ad 9)]
def fC_3 (ad : Nat → Nat) (σ : tyS) : List Value := [.ref (ad 10), .ref (ad 11), .ref (ad 12), .int (σ.2 4)]
def fC_4 (ad : Nat → Nat) (σ : tyS) : List Value := [.ref (ad 13), .ref (ad 14), .ref (ad 15), .ref (ad 16), .ref (ad 17), .ref (ad 18), .ref (ad 19), .ref (ad 20), .int (σ.2 5)]
def fC_5 (ad : Nat → Nat) (σ : tyS) : List Value := [.ref (ad 21), .ref (ad 22), .ref (ad 23), .ref (ad 24), .ref (ad 25), .ref (ad 26), .ref (ad 27), .ref (ad 28), .int (σ.2 6)]
def wC (ad : Nat → Nat) (cA : Nat → ClassId) (σ : tyS) : va_W := [(ad 0, .inr (4, fC_0 ad σ)), (ad 1, .inr (2, fC_1 ad σ)), (ad 2, .inr (2, fC_2 ad σ)), (ad 3, .inr (0, fC_3 ad σ)), (ad 4, .inr (1, fC_4 ad σ)), (ad 5, .inr (3, fC_5 ad σ)), (ad 6, .inl (cA 6, 55, .inl (σ.1 6))), (ad 7, .inl (cA 7, 330, .inl (σ.1 7))), (ad 8, .inl (cA 8, 55, .inl (σ.1 8))), (ad 9, .inl (cA 9, 330, .inl (σ.1 9))), (ad 10, .inl (cA 10, 512, .inl (σ.1 10))), (ad 11, .inl (cA 11, 512, .inl (σ.1 11))), (ad 12, .inl (cA 12, 512, .inl (σ.1 12))), (ad 13, .inl (cA 13, 40, .inl (σ.1 13))), (ad 14, .inl (cA 14, 40, .inl (σ.1 14))), (ad 15, .inl (cA 15, 40, .inl (σ.1 15))), (ad 16, .inl (cA 16, 40, .inl (σ.1 16))), (ad 17, .inl (cA 17, 40, .inl (σ.1 17))), (ad 18, .inl (cA 18, 40, .inl (σ.1 18))), (ad 19, .inl (cA 19, 1200, .inl (σ.1 19))), (ad 20, .inl (cA 20, 30, .inl (σ.1 20))), (ad 21, .inl (cA 21, 60, .inl (σ.1 21))), (ad 22, .inl (cA 22, 60, .inl (σ.1 22))), (ad 23, .inl (cA 23, 60, .inl (σ.1 23))), (ad 24, .inl (cA 24, 60, .inl (σ.1 24))), (ad 25, .inl (cA 25, 60, .inl (σ.1 25))), (ad 26, .inl (cA 26, 6, .inl (σ.1 26))), (ad 27, .inl (cA 27, 6, .inl (σ.1 27))), (ad 28, .inl (cA 28, 3, .inl (σ.1 28))), (ad 29, .inl (cA 29, 30, .inl (σ.1 29))), (ad 30, .inl (cA 30, 16, .inl (σ.1 30))), (ad 31, .inl (cA 31, 40, .inl (σ.1 31)))]
def tC (cA : Nat → ClassId) : List (ClassId × FieldType) := [(cA 6, .int), (cA 7, .int), (cA 8, .int), (cA 9, .int), (cA 10, .int), (cA 11, .int), (cA 12, .int), (cA 13, .int), (cA 14, .int), (cA 15, .int), (cA 16, .int), (cA 17, .int), (cA 18, .int), (cA 19, .int), (cA 20, .int), (cA 21, .int), (cA 22, .int), (cA 23, .int), (cA 24, .int), (cA 25, .int), (cA 26, .int), (cA 27, .int), (cA 28, .int), (cA 29, .int), (cA 30, .boolean), (cA 31, .int)]
theorem wC_0 (ad : Nat → Nat) (cA : Nat → ClassId) (σ : tyS) : (wC ad cA σ)[0]? = some (ad 0, .inr (4, fC_0 ad σ)) := rfl
theorem wC_1 (ad : Nat → Nat) (cA : Nat → ClassId) (σ : tyS) : (wC ad cA σ)[1]? = some (ad 1, .inr (2, fC_1 ad σ)) := rfl
theorem wC_2 (ad : Nat → Nat) (cA : Nat → ClassId) (σ : tyS) : (wC ad cA σ)[2]? = some (ad 2, .inr (2, fC_2 ad σ)) := rfl
theorem wC_3 (ad : Nat → Nat) (cA : Nat → ClassId) (σ : tyS) : (wC ad cA σ)[3]? = some (ad 3, .inr (0, fC_3 ad σ)) := rfl
theorem wC_4 (ad : Nat → Nat) (cA : Nat → ClassId) (σ : tyS) : (wC ad cA σ)[4]? = some (ad 4, .inr (1, fC_4 ad σ)) := rfl
theorem wC_5 (ad : Nat → Nat) (cA : Nat → ClassId) (σ : tyS) : (wC ad cA σ)[5]? = some (ad 5, .inr (3, fC_5 ad σ)) := rfl
theorem wC_6 (ad : Nat → Nat) (cA : Nat → ClassId) (σ : tyS) : (wC ad cA σ)[6]? = some (ad 6, .inl (cA 6, 55, .inl (σ.1 6))) := rfl
theorem wCs_6 (ad : Nat → Nat) (cA : Nat → ClassId) (σ : tyS) : ∀ f, (wC ad cA σ).set 6 (ad 6, .inl (cA 6, 55, .inl f)) = wC ad cA (sA σ 6 f) := fun _ => rfl
theorem tC_6 (cA : Nat → ClassId) : (tC cA)[0]? = some (cA 6, .int) := rfl
theorem wC_7 (ad : Nat → Nat) (cA : Nat → ClassId) (σ : tyS) : (wC ad cA σ)[7]? = some (ad 7, .inl (cA 7, 330, .inl (σ.1 7))) := rfl
theorem wCs_7 (ad : Nat → Nat) (cA : Nat → ClassId) (σ : tyS) : ∀ f, (wC ad cA σ).set 7 (ad 7, .inl (cA 7, 330, .inl f)) = wC ad cA (sA σ 7 f) := fun _ => rfl
theorem tC_7 (cA : Nat → ClassId) : (tC cA)[1]? = some (cA 7, .int) := rfl
theorem wC_8 (ad : Nat → Nat) (cA : Nat → ClassId) (σ : tyS) : (wC ad cA σ)[8]? = some (ad 8, .inl (cA 8, 55, .inl (σ.1 8))) := rfl
theorem wCs_8 (ad : Nat → Nat) (cA : Nat → ClassId) (σ : tyS) : ∀ f, (wC ad cA σ).set 8 (ad 8, .inl (cA 8, 55, .inl f)) = wC ad cA (sA σ 8 f) := fun _ => rfl
theorem tC_8 (cA : Nat → ClassId) : (tC cA)[2]? = some (cA 8, .int) := rfl
theorem wC_9 (ad : Nat → Nat) (cA : Nat → ClassId) (σ : tyS) : (wC ad cA σ)[9]? = some (ad 9, .inl (cA 9, 330, .inl (σ.1 9))) := rfl
theorem wCs_9 (ad : Nat → Nat) (cA : Nat → ClassId) (σ : tyS) : ∀ f, (wC ad cA σ).set 9 (ad 9, .inl (cA 9, 330, .inl f)) = wC ad cA (sA σ 9 f) := fun _ => rfl
theorem tC_9 (cA : Nat → ClassId) : (tC cA)[3]? = some (cA 9, .int) := rfl
theorem wC_10 (ad : Nat → Nat) (cA : Nat → ClassId) (σ : tyS) : (wC ad cA σ)[10]? = some (ad 10, .inl (cA 10, 512, .inl (σ.1 10))) := rfl
theorem wCs_10 (ad : Nat → Nat) (cA : Nat → ClassId) (σ : tyS) : ∀ f, (wC ad cA σ).set 10 (ad 10, .inl (cA 10, 512, .inl f)) = wC ad cA (sA σ 10 f) := fun _ => rfl
theorem tC_10 (cA : Nat → ClassId) : (tC cA)[4]? = some (cA 10, .int) := rfl
theorem wC_11 (ad : Nat → Nat) (cA : Nat → ClassId) (σ : tyS) : (wC ad cA σ)[11]? = some (ad 11, .inl (cA 11, 512, .inl (σ.1 11))) := rfl
theorem wCs_11 (ad : Nat → Nat) (cA : Nat → ClassId) (σ : tyS) : ∀ f, (wC ad cA σ).set 11 (ad 11, .inl (cA 11, 512, .inl f)) = wC ad cA (sA σ 11 f) := fun _ => rfl
theorem tC_11 (cA : Nat → ClassId) : (tC cA)[5]? = some (cA 11, .int) := rfl
theorem wC_12 (ad : Nat → Nat) (cA : Nat → ClassId) (σ : tyS) : (wC ad cA σ)[12]? = some (ad 12, .inl (cA 12, 512, .inl (σ.1 12))) := rfl
theorem wCs_12 (ad : Nat → Nat) (cA : Nat → ClassId) (σ : tyS) : ∀ f, (wC ad cA σ).set 12 (ad 12, .inl (cA 12, 512, .inl f)) = wC ad cA (sA σ 12 f) := fun _ => rfl
theorem tC_12 (cA : Nat → ClassId) : (tC cA)[6]? = some (cA 12, .int) := rfl
theorem wC_13 (ad : Nat → Nat) (cA : Nat → ClassId) (σ : tyS) : (wC ad cA σ)[13]? = some (ad 13, .inl (cA 13, 40, .inl (σ.1 13))) := rfl
theorem wCs_13 (ad : Nat → Nat) (cA : Nat → ClassId) (σ : tyS) : ∀ f, (wC ad cA σ).set 13 (ad 13, .inl (cA 13, 40, .inl f)) = wC ad cA (sA σ 13 f) := fun _ => rfl
theorem tC_13 (cA : Nat → ClassId) : (tC cA)[7]? = some (cA 13, .int) := rfl
theorem wC_14 (ad : Nat → Nat) (cA : Nat → ClassId) (σ : tyS) : (wC ad cA σ)[14]? = some (ad 14, .inl (cA 14, 40, .inl (σ.1 14))) := rfl
theorem wCs_14 (ad : Nat → Nat) (cA : Nat → ClassId) (σ : tyS) : ∀ f, (wC ad cA σ).set 14 (ad 14, .inl (cA 14, 40, .inl f)) = wC ad cA (sA σ 14 f) := fun _ => rfl
theorem tC_14 (cA : Nat → ClassId) : (tC cA)[8]? = some (cA 14, .int) := rfl
theorem wC_15 (ad : Nat → Nat) (cA : Nat → ClassId) (σ : tyS) : (wC ad cA σ)[15]? = some (ad 15, .inl (cA 15, 40, .inl (σ.1 15))) := rfl
theorem wCs_15 (ad : Nat → Nat) (cA : Nat → ClassId) (σ : tyS) : ∀ f, (wC ad cA σ).set 15 (ad 15, .inl (cA 15, 40, .inl f)) = wC ad cA (sA σ 15 f) := fun _ => rfl
theorem tC_15 (cA : Nat → ClassId) : (tC cA)[9]? = some (cA 15, .int) := rfl
theorem wC_16 (ad : Nat → Nat) (cA : Nat → ClassId) (σ : tyS) : (wC ad cA σ)[16]? = some (ad 16, .inl (cA 16, 40, .inl (σ.1 16))) := rfl
theorem wCs_16 (ad : Nat → Nat) (cA : Nat → ClassId) (σ : tyS) : ∀ f, (wC ad cA σ).set 16 (ad 16, .inl (cA 16, 40, .inl f)) = wC ad cA (sA σ 16 f) := fun _ => rfl
theorem tC_16 (cA : Nat → ClassId) : (tC cA)[10]? = some (cA 16, .int) := rfl
theorem wC_17 (ad : Nat → Nat) (cA : Nat → ClassId) (σ : tyS) : (wC ad cA σ)[17]? = some (ad 17, .inl (cA 17, 40, .inl (σ.1 17))) := rfl
theorem wCs_17 (ad : Nat → Nat) (cA : Nat → ClassId) (σ : tyS) : ∀ f, (wC ad cA σ).set 17 (ad 17, .inl (cA 17, 40, .inl f)) = wC ad cA (sA σ 17 f) := fun _ => rfl
theorem tC_17 (cA : Nat → ClassId) : (tC cA)[11]? = some (cA 17, .int) := rfl
theorem wC_18 (ad : Nat → Nat) (cA : Nat → ClassId) (σ : tyS) : (wC ad cA σ)[18]? = some (ad 18, .inl (cA 18, 40, .inl (σ.1 18))) := rfl
theorem wCs_18 (ad : Nat → Nat) (cA : Nat → ClassId) (σ : tyS) : ∀ f, (wC ad cA σ).set 18 (ad 18, .inl (cA 18, 40, .inl f)) = wC ad cA (sA σ 18 f) := fun _ => rfl
theorem tC_18 (cA : Nat → ClassId) : (tC cA)[12]? = some (cA 18, .int) := rfl
theorem wC_19 (ad : Nat → Nat) (cA : Nat → ClassId) (σ : tyS) : (wC ad cA σ)[19]? = some (ad 19, .inl (cA 19, 1200, .inl (σ.1 19))) := rfl
theorem wCs_19 (ad : Nat → Nat) (cA : Nat → ClassId) (σ : tyS) : ∀ f, (wC ad cA σ).set 19 (ad 19, .inl (cA 19, 1200, .inl f)) = wC ad cA (sA σ 19 f) := fun _ => rfl
theorem tC_19 (cA : Nat → ClassId) : (tC cA)[13]? = some (cA 19, .int) := rfl
theorem wC_20 (ad : Nat → Nat) (cA : Nat → ClassId) (σ : tyS) : (wC ad cA σ)[20]? = some (ad 20, .inl (cA 20, 30, .inl (σ.1 20))) := rfl
theorem wCs_20 (ad : Nat → Nat) (cA : Nat → ClassId) (σ : tyS) : ∀ f, (wC ad cA σ).set 20 (ad 20, .inl (cA 20, 30, .inl f)) = wC ad cA (sA σ 20 f) := fun _ => rfl
theorem tC_20 (cA : Nat → ClassId) : (tC cA)[14]? = some (cA 20, .int) := rfl
theorem wC_21 (ad : Nat → Nat) (cA : Nat → ClassId) (σ : tyS) : (wC ad cA σ)[21]? = some (ad 21, .inl (cA 21, 60, .inl (σ.1 21))) := rfl
theorem wCs_21 (ad : Nat → Nat) (cA : Nat → ClassId) (σ : tyS) : ∀ f, (wC ad cA σ).set 21 (ad 21, .inl (cA 21, 60, .inl f)) = wC ad cA (sA σ 21 f) := fun _ => rfl
theorem tC_21 (cA : Nat → ClassId) : (tC cA)[15]? = some (cA 21, .int) := rfl
theorem wC_22 (ad : Nat → Nat) (cA : Nat → ClassId) (σ : tyS) : (wC ad cA σ)[22]? = some (ad 22, .inl (cA 22, 60, .inl (σ.1 22))) := rfl
theorem wCs_22 (ad : Nat → Nat) (cA : Nat → ClassId) (σ : tyS) : ∀ f, (wC ad cA σ).set 22 (ad 22, .inl (cA 22, 60, .inl f)) = wC ad cA (sA σ 22 f) := fun _ => rfl
theorem tC_22 (cA : Nat → ClassId) : (tC cA)[16]? = some (cA 22, .int) := rfl
theorem wC_23 (ad : Nat → Nat) (cA : Nat → ClassId) (σ : tyS) : (wC ad cA σ)[23]? = some (ad 23, .inl (cA 23, 60, .inl (σ.1 23))) := rfl
theorem wCs_23 (ad : Nat → Nat) (cA : Nat → ClassId) (σ : tyS) : ∀ f, (wC ad cA σ).set 23 (ad 23, .inl (cA 23, 60, .inl f)) = wC ad cA (sA σ 23 f) := fun _ => rfl
theorem tC_23 (cA : Nat → ClassId) : (tC cA)[17]? = some (cA 23, .int) := rfl
theorem wC_24 (ad : Nat → Nat) (cA : Nat → ClassId) (σ : tyS) : (wC ad cA σ)[24]? = some (ad 24, .inl (cA 24, 60, .inl (σ.1 24))) := rfl
theorem wCs_24 (ad : Nat → Nat) (cA : Nat → ClassId) (σ : tyS) : ∀ f, (wC ad cA σ).set 24 (ad 24, .inl (cA 24, 60, .inl f)) = wC ad cA (sA σ 24 f) := fun _ => rfl
theorem tC_24 (cA : Nat → ClassId) : (tC cA)[18]? = some (cA 24, .int) := rfl
theorem wC_25 (ad : Nat → Nat) (cA : Nat → ClassId) (σ : tyS) : (wC ad cA σ)[25]? = some (ad 25, .inl (cA 25, 60, .inl (σ.1 25))) := rfl
theorem wCs_25 (ad : Nat → Nat) (cA : Nat → ClassId) (σ : tyS) : ∀ f, (wC ad cA σ).set 25 (ad 25, .inl (cA 25, 60, .inl f)) = wC ad cA (sA σ 25 f) := fun _ => rfl
theorem tC_25 (cA : Nat → ClassId) : (tC cA)[19]? = some (cA 25, .int) := rfl
theorem wC_26 (ad : Nat → Nat) (cA : Nat → ClassId) (σ : tyS) : (wC ad cA σ)[26]? = some (ad 26, .inl (cA 26, 6, .inl (σ.1 26))) := rfl
theorem wCs_26 (ad : Nat → Nat) (cA : Nat → ClassId) (σ : tyS) : ∀ f, (wC ad cA σ).set 26 (ad 26, .inl (cA 26, 6, .inl f)) = wC ad cA (sA σ 26 f) := fun _ => rfl
theorem tC_26 (cA : Nat → ClassId) : (tC cA)[20]? = some (cA 26, .int) := rfl
theorem wC_27 (ad : Nat → Nat) (cA : Nat → ClassId) (σ : tyS) : (wC ad cA σ)[27]? = some (ad 27, .inl (cA 27, 6, .inl (σ.1 27))) := rfl
theorem wCs_27 (ad : Nat → Nat) (cA : Nat → ClassId) (σ : tyS) : ∀ f, (wC ad cA σ).set 27 (ad 27, .inl (cA 27, 6, .inl f)) = wC ad cA (sA σ 27 f) := fun _ => rfl
theorem tC_27 (cA : Nat → ClassId) : (tC cA)[21]? = some (cA 27, .int) := rfl
theorem wC_28 (ad : Nat → Nat) (cA : Nat → ClassId) (σ : tyS) : (wC ad cA σ)[28]? = some (ad 28, .inl (cA 28, 3, .inl (σ.1 28))) := rfl
theorem wCs_28 (ad : Nat → Nat) (cA : Nat → ClassId) (σ : tyS) : ∀ f, (wC ad cA σ).set 28 (ad 28, .inl (cA 28, 3, .inl f)) = wC ad cA (sA σ 28 f) := fun _ => rfl
theorem tC_28 (cA : Nat → ClassId) : (tC cA)[22]? = some (cA 28, .int) := rfl
theorem wC_29 (ad : Nat → Nat) (cA : Nat → ClassId) (σ : tyS) : (wC ad cA σ)[29]? = some (ad 29, .inl (cA 29, 30, .inl (σ.1 29))) := rfl
theorem wCs_29 (ad : Nat → Nat) (cA : Nat → ClassId) (σ : tyS) : ∀ f, (wC ad cA σ).set 29 (ad 29, .inl (cA 29, 30, .inl f)) = wC ad cA (sA σ 29 f) := fun _ => rfl
theorem tC_29 (cA : Nat → ClassId) : (tC cA)[23]? = some (cA 29, .int) := rfl
theorem wC_30 (ad : Nat → Nat) (cA : Nat → ClassId) (σ : tyS) : (wC ad cA σ)[30]? = some (ad 30, .inl (cA 30, 16, .inl (σ.1 30))) := rfl
theorem wCs_30 (ad : Nat → Nat) (cA : Nat → ClassId) (σ : tyS) : ∀ f, (wC ad cA σ).set 30 (ad 30, .inl (cA 30, 16, .inl f)) = wC ad cA (sA σ 30 f) := fun _ => rfl
theorem tC_30 (cA : Nat → ClassId) : (tC cA)[24]? = some (cA 30, .boolean) := rfl
theorem wC_31 (ad : Nat → Nat) (cA : Nat → ClassId) (σ : tyS) : (wC ad cA σ)[31]? = some (ad 31, .inl (cA 31, 40, .inl (σ.1 31))) := rfl
theorem wCs_31 (ad : Nat → Nat) (cA : Nat → ClassId) (σ : tyS) : ∀ f, (wC ad cA σ).set 31 (ad 31, .inl (cA 31, 40, .inl f)) = wC ad cA (sA σ 31 f) := fun _ => rfl
theorem tC_31 (cA : Nat → ClassId) : (tC cA)[25]? = some (cA 31, .int) := rfl
theorem wCv_0 (ad : Nat → Nat) (cA : Nat → ClassId) (σ : tyS) (x : Int32) : (wC ad cA σ).set 0 (ad 0, .inr (4, (fC_0 ad σ).set 8 (.int x))) = wC ad cA (sV σ 0 x) := rfl
theorem wCv_1 (ad : Nat → Nat) (cA : Nat → ClassId) (σ : tyS) (x : Int32) : (wC ad cA σ).set 0 (ad 0, .inr (4, (fC_0 ad σ).set 9 (.int x))) = wC ad cA (sV σ 1 x) := rfl
theorem wCv_2 (ad : Nat → Nat) (cA : Nat → ClassId) (σ : tyS) (x : Int32) : (wC ad cA σ).set 0 (ad 0, .inr (4, (fC_0 ad σ).set 10 (.int x))) = wC ad cA (sV σ 2 x) := rfl
theorem wCv_3 (ad : Nat → Nat) (cA : Nat → ClassId) (σ : tyS) (x : Int32) : (wC ad cA σ).set 0 (ad 0, .inr (4, (fC_0 ad σ).set 11 (.int x))) = wC ad cA (sV σ 3 x) := rfl
theorem wCv_4 (ad : Nat → Nat) (cA : Nat → ClassId) (σ : tyS) (x : Int32) : (wC ad cA σ).set 3 (ad 3, .inr (0, (fC_3 ad σ).set 3 (.int x))) = wC ad cA (sV σ 4 x) := rfl
theorem wCv_5 (ad : Nat → Nat) (cA : Nat → ClassId) (σ : tyS) (x : Int32) : (wC ad cA σ).set 4 (ad 4, .inr (1, (fC_4 ad σ).set 8 (.int x))) = wC ad cA (sV σ 5 x) := rfl
theorem wCv_6 (ad : Nat → Nat) (cA : Nat → ClassId) (σ : tyS) (x : Int32) : (wC ad cA σ).set 5 (ad 5, .inr (3, (fC_5 ad σ).set 8 (.int x))) = wC ad cA (sV σ 6 x) := rfl
def fM_0 (ad : Nat → Nat) (σ : tyS) : List Value := [.int (σ.2 0), .int (σ.2 1), .int (σ.2 2), .ref (ad 1), .ref (ad 2), .ref (ad 3), .ref (ad 4), .ref (ad 5), .ref (ad 6), .ref (ad 7), .ref (ad 8), .int (σ.2 3), .int (σ.2 4), .ref (ad 9), .ref (ad 10), .ref (ad 11), .ref (ad 12), .int (σ.2 5), .ref (ad 13), .ref (ad 14), .ref (ad 15), .ref (ad 16), .ref (ad 17), .ref (ad 18), .ref (ad 19), .int (σ.2 6), .ref (ad 20), .ref (ad 21), .ref (ad 22), .ref (ad 23)]
def wM (ad : Nat → Nat) (cA : Nat → ClassId) (σ : tyS) : va_W := [(ad 0, .inr (5, fM_0 ad σ)), (ad 1, .inl (cA 1, 30, .inl (σ.1 1))), (ad 2, .inl (cA 2, 30, .inl (σ.1 2))), (ad 3, .inl (cA 3, 30, .inl (σ.1 3))), (ad 4, .inl (cA 4, 15, .inl (σ.1 4))), (ad 5, .inl (cA 5, 90, .inl (σ.1 5))), (ad 6, .inl (cA 6, 4, .inl (σ.1 6))), (ad 7, .inl (cA 7, 6, .inl (σ.1 7))), (ad 8, .inl (cA 8, 3, .inl (σ.1 8))), (ad 9, .inl (cA 9, 60, .inl (σ.1 9))), (ad 10, .inl (cA 10, 60, .inl (σ.1 10))), (ad 11, .inl (cA 11, 60, .inl (σ.1 11))), (ad 12, .inl (cA 12, 60, .inl (σ.1 12))), (ad 13, .inl (cA 13, 40, .inl (σ.1 13))), (ad 14, .inl (cA 14, 40, .inl (σ.1 14))), (ad 15, .inl (cA 15, 40, .inl (σ.1 15))), (ad 16, .inl (cA 16, 40, .inl (σ.1 16))), (ad 17, .inl (cA 17, 40, .inl (σ.1 17))), (ad 18, .inl (cA 18, 40, .inl (σ.1 18))), (ad 19, .inl (cA 19, 1200, .inl (σ.1 19))), (ad 20, .inl (cA 20, 40, .inl (σ.1 20))), (ad 21, .inl (cA 21, 40, .inl (σ.1 21))), (ad 22, .inl (cA 22, 40, .inl (σ.1 22))), (ad 23, .inl (cA 23, 240, .inl (σ.1 23)))]
def tM (cA : Nat → ClassId) : List (ClassId × FieldType) := [(cA 1, .int), (cA 2, .int), (cA 3, .int), (cA 4, .int), (cA 5, .int), (cA 6, .int), (cA 7, .int), (cA 8, .int), (cA 9, .int), (cA 10, .int), (cA 11, .boolean), (cA 12, .int), (cA 13, .int), (cA 14, .int), (cA 15, .int), (cA 16, .int), (cA 17, .int), (cA 18, .int), (cA 19, .int), (cA 20, .int), (cA 21, .boolean), (cA 22, .int), (cA 23, .int)]
theorem wM_0 (ad : Nat → Nat) (cA : Nat → ClassId) (σ : tyS) : (wM ad cA σ)[0]? = some (ad 0, .inr (5, fM_0 ad σ)) := rfl
theorem wM_1 (ad : Nat → Nat) (cA : Nat → ClassId) (σ : tyS) : (wM ad cA σ)[1]? = some (ad 1, .inl (cA 1, 30, .inl (σ.1 1))) := rfl
theorem wMs_1 (ad : Nat → Nat) (cA : Nat → ClassId) (σ : tyS) : ∀ f, (wM ad cA σ).set 1 (ad 1, .inl (cA 1, 30, .inl f)) = wM ad cA (sA σ 1 f) := fun _ => rfl
theorem tM_1 (cA : Nat → ClassId) : (tM cA)[0]? = some (cA 1, .int) := rfl
theorem wM_2 (ad : Nat → Nat) (cA : Nat → ClassId) (σ : tyS) : (wM ad cA σ)[2]? = some (ad 2, .inl (cA 2, 30, .inl (σ.1 2))) := rfl
theorem wMs_2 (ad : Nat → Nat) (cA : Nat → ClassId) (σ : tyS) : ∀ f, (wM ad cA σ).set 2 (ad 2, .inl (cA 2, 30, .inl f)) = wM ad cA (sA σ 2 f) := fun _ => rfl
theorem tM_2 (cA : Nat → ClassId) : (tM cA)[1]? = some (cA 2, .int) := rfl
theorem wM_3 (ad : Nat → Nat) (cA : Nat → ClassId) (σ : tyS) : (wM ad cA σ)[3]? = some (ad 3, .inl (cA 3, 30, .inl (σ.1 3))) := rfl
theorem wMs_3 (ad : Nat → Nat) (cA : Nat → ClassId) (σ : tyS) : ∀ f, (wM ad cA σ).set 3 (ad 3, .inl (cA 3, 30, .inl f)) = wM ad cA (sA σ 3 f) := fun _ => rfl
theorem tM_3 (cA : Nat → ClassId) : (tM cA)[2]? = some (cA 3, .int) := rfl
theorem wM_4 (ad : Nat → Nat) (cA : Nat → ClassId) (σ : tyS) : (wM ad cA σ)[4]? = some (ad 4, .inl (cA 4, 15, .inl (σ.1 4))) := rfl
theorem wMs_4 (ad : Nat → Nat) (cA : Nat → ClassId) (σ : tyS) : ∀ f, (wM ad cA σ).set 4 (ad 4, .inl (cA 4, 15, .inl f)) = wM ad cA (sA σ 4 f) := fun _ => rfl
theorem tM_4 (cA : Nat → ClassId) : (tM cA)[3]? = some (cA 4, .int) := rfl
theorem wM_5 (ad : Nat → Nat) (cA : Nat → ClassId) (σ : tyS) : (wM ad cA σ)[5]? = some (ad 5, .inl (cA 5, 90, .inl (σ.1 5))) := rfl
theorem wMs_5 (ad : Nat → Nat) (cA : Nat → ClassId) (σ : tyS) : ∀ f, (wM ad cA σ).set 5 (ad 5, .inl (cA 5, 90, .inl f)) = wM ad cA (sA σ 5 f) := fun _ => rfl
theorem tM_5 (cA : Nat → ClassId) : (tM cA)[4]? = some (cA 5, .int) := rfl
theorem wM_6 (ad : Nat → Nat) (cA : Nat → ClassId) (σ : tyS) : (wM ad cA σ)[6]? = some (ad 6, .inl (cA 6, 4, .inl (σ.1 6))) := rfl
theorem wMs_6 (ad : Nat → Nat) (cA : Nat → ClassId) (σ : tyS) : ∀ f, (wM ad cA σ).set 6 (ad 6, .inl (cA 6, 4, .inl f)) = wM ad cA (sA σ 6 f) := fun _ => rfl
theorem tM_6 (cA : Nat → ClassId) : (tM cA)[5]? = some (cA 6, .int) := rfl
theorem wM_7 (ad : Nat → Nat) (cA : Nat → ClassId) (σ : tyS) : (wM ad cA σ)[7]? = some (ad 7, .inl (cA 7, 6, .inl (σ.1 7))) := rfl
theorem wMs_7 (ad : Nat → Nat) (cA : Nat → ClassId) (σ : tyS) : ∀ f, (wM ad cA σ).set 7 (ad 7, .inl (cA 7, 6, .inl f)) = wM ad cA (sA σ 7 f) := fun _ => rfl
theorem tM_7 (cA : Nat → ClassId) : (tM cA)[6]? = some (cA 7, .int) := rfl
theorem wM_8 (ad : Nat → Nat) (cA : Nat → ClassId) (σ : tyS) : (wM ad cA σ)[8]? = some (ad 8, .inl (cA 8, 3, .inl (σ.1 8))) := rfl
theorem wMs_8 (ad : Nat → Nat) (cA : Nat → ClassId) (σ : tyS) : ∀ f, (wM ad cA σ).set 8 (ad 8, .inl (cA 8, 3, .inl f)) = wM ad cA (sA σ 8 f) := fun _ => rfl
theorem tM_8 (cA : Nat → ClassId) : (tM cA)[7]? = some (cA 8, .int) := rfl
theorem wM_9 (ad : Nat → Nat) (cA : Nat → ClassId) (σ : tyS) : (wM ad cA σ)[9]? = some (ad 9, .inl (cA 9, 60, .inl (σ.1 9))) := rfl
theorem wMs_9 (ad : Nat → Nat) (cA : Nat → ClassId) (σ : tyS) : ∀ f, (wM ad cA σ).set 9 (ad 9, .inl (cA 9, 60, .inl f)) = wM ad cA (sA σ 9 f) := fun _ => rfl
theorem tM_9 (cA : Nat → ClassId) : (tM cA)[8]? = some (cA 9, .int) := rfl
theorem wM_10 (ad : Nat → Nat) (cA : Nat → ClassId) (σ : tyS) : (wM ad cA σ)[10]? = some (ad 10, .inl (cA 10, 60, .inl (σ.1 10))) := rfl
theorem wMs_10 (ad : Nat → Nat) (cA : Nat → ClassId) (σ : tyS) : ∀ f, (wM ad cA σ).set 10 (ad 10, .inl (cA 10, 60, .inl f)) = wM ad cA (sA σ 10 f) := fun _ => rfl
theorem tM_10 (cA : Nat → ClassId) : (tM cA)[9]? = some (cA 10, .int) := rfl
theorem wM_11 (ad : Nat → Nat) (cA : Nat → ClassId) (σ : tyS) : (wM ad cA σ)[11]? = some (ad 11, .inl (cA 11, 60, .inl (σ.1 11))) := rfl
theorem wMs_11 (ad : Nat → Nat) (cA : Nat → ClassId) (σ : tyS) : ∀ f, (wM ad cA σ).set 11 (ad 11, .inl (cA 11, 60, .inl f)) = wM ad cA (sA σ 11 f) := fun _ => rfl
theorem tM_11 (cA : Nat → ClassId) : (tM cA)[10]? = some (cA 11, .boolean) := rfl
theorem wM_12 (ad : Nat → Nat) (cA : Nat → ClassId) (σ : tyS) : (wM ad cA σ)[12]? = some (ad 12, .inl (cA 12, 60, .inl (σ.1 12))) := rfl
theorem wMs_12 (ad : Nat → Nat) (cA : Nat → ClassId) (σ : tyS) : ∀ f, (wM ad cA σ).set 12 (ad 12, .inl (cA 12, 60, .inl f)) = wM ad cA (sA σ 12 f) := fun _ => rfl
theorem tM_12 (cA : Nat → ClassId) : (tM cA)[11]? = some (cA 12, .int) := rfl
theorem wM_13 (ad : Nat → Nat) (cA : Nat → ClassId) (σ : tyS) : (wM ad cA σ)[13]? = some (ad 13, .inl (cA 13, 40, .inl (σ.1 13))) := rfl
theorem wMs_13 (ad : Nat → Nat) (cA : Nat → ClassId) (σ : tyS) : ∀ f, (wM ad cA σ).set 13 (ad 13, .inl (cA 13, 40, .inl f)) = wM ad cA (sA σ 13 f) := fun _ => rfl
theorem tM_13 (cA : Nat → ClassId) : (tM cA)[12]? = some (cA 13, .int) := rfl
theorem wM_14 (ad : Nat → Nat) (cA : Nat → ClassId) (σ : tyS) : (wM ad cA σ)[14]? = some (ad 14, .inl (cA 14, 40, .inl (σ.1 14))) := rfl
theorem wMs_14 (ad : Nat → Nat) (cA : Nat → ClassId) (σ : tyS) : ∀ f, (wM ad cA σ).set 14 (ad 14, .inl (cA 14, 40, .inl f)) = wM ad cA (sA σ 14 f) := fun _ => rfl
theorem tM_14 (cA : Nat → ClassId) : (tM cA)[13]? = some (cA 14, .int) := rfl
theorem wM_15 (ad : Nat → Nat) (cA : Nat → ClassId) (σ : tyS) : (wM ad cA σ)[15]? = some (ad 15, .inl (cA 15, 40, .inl (σ.1 15))) := rfl
theorem wMs_15 (ad : Nat → Nat) (cA : Nat → ClassId) (σ : tyS) : ∀ f, (wM ad cA σ).set 15 (ad 15, .inl (cA 15, 40, .inl f)) = wM ad cA (sA σ 15 f) := fun _ => rfl
theorem tM_15 (cA : Nat → ClassId) : (tM cA)[14]? = some (cA 15, .int) := rfl
theorem wM_16 (ad : Nat → Nat) (cA : Nat → ClassId) (σ : tyS) : (wM ad cA σ)[16]? = some (ad 16, .inl (cA 16, 40, .inl (σ.1 16))) := rfl
theorem wMs_16 (ad : Nat → Nat) (cA : Nat → ClassId) (σ : tyS) : ∀ f, (wM ad cA σ).set 16 (ad 16, .inl (cA 16, 40, .inl f)) = wM ad cA (sA σ 16 f) := fun _ => rfl
theorem tM_16 (cA : Nat → ClassId) : (tM cA)[15]? = some (cA 16, .int) := rfl
theorem wM_17 (ad : Nat → Nat) (cA : Nat → ClassId) (σ : tyS) : (wM ad cA σ)[17]? = some (ad 17, .inl (cA 17, 40, .inl (σ.1 17))) := rfl
theorem wMs_17 (ad : Nat → Nat) (cA : Nat → ClassId) (σ : tyS) : ∀ f, (wM ad cA σ).set 17 (ad 17, .inl (cA 17, 40, .inl f)) = wM ad cA (sA σ 17 f) := fun _ => rfl
theorem tM_17 (cA : Nat → ClassId) : (tM cA)[16]? = some (cA 17, .int) := rfl
theorem wM_18 (ad : Nat → Nat) (cA : Nat → ClassId) (σ : tyS) : (wM ad cA σ)[18]? = some (ad 18, .inl (cA 18, 40, .inl (σ.1 18))) := rfl
theorem wMs_18 (ad : Nat → Nat) (cA : Nat → ClassId) (σ : tyS) : ∀ f, (wM ad cA σ).set 18 (ad 18, .inl (cA 18, 40, .inl f)) = wM ad cA (sA σ 18 f) := fun _ => rfl
theorem tM_18 (cA : Nat → ClassId) : (tM cA)[17]? = some (cA 18, .int) := rfl
theorem wM_19 (ad : Nat → Nat) (cA : Nat → ClassId) (σ : tyS) : (wM ad cA σ)[19]? = some (ad 19, .inl (cA 19, 1200, .inl (σ.1 19))) := rfl
theorem wMs_19 (ad : Nat → Nat) (cA : Nat → ClassId) (σ : tyS) : ∀ f, (wM ad cA σ).set 19 (ad 19, .inl (cA 19, 1200, .inl f)) = wM ad cA (sA σ 19 f) := fun _ => rfl
theorem tM_19 (cA : Nat → ClassId) : (tM cA)[18]? = some (cA 19, .int) := rfl
theorem wM_20 (ad : Nat → Nat) (cA : Nat → ClassId) (σ : tyS) : (wM ad cA σ)[20]? = some (ad 20, .inl (cA 20, 40, .inl (σ.1 20))) := rfl
theorem wMs_20 (ad : Nat → Nat) (cA : Nat → ClassId) (σ : tyS) : ∀ f, (wM ad cA σ).set 20 (ad 20, .inl (cA 20, 40, .inl f)) = wM ad cA (sA σ 20 f) := fun _ => rfl
theorem tM_20 (cA : Nat → ClassId) : (tM cA)[19]? = some (cA 20, .int) := rfl
theorem wM_21 (ad : Nat → Nat) (cA : Nat → ClassId) (σ : tyS) : (wM ad cA σ)[21]? = some (ad 21, .inl (cA 21, 40, .inl (σ.1 21))) := rfl
theorem wMs_21 (ad : Nat → Nat) (cA : Nat → ClassId) (σ : tyS) : ∀ f, (wM ad cA σ).set 21 (ad 21, .inl (cA 21, 40, .inl f)) = wM ad cA (sA σ 21 f) := fun _ => rfl
theorem tM_21 (cA : Nat → ClassId) : (tM cA)[20]? = some (cA 21, .boolean) := rfl
theorem wM_22 (ad : Nat → Nat) (cA : Nat → ClassId) (σ : tyS) : (wM ad cA σ)[22]? = some (ad 22, .inl (cA 22, 40, .inl (σ.1 22))) := rfl
theorem wMs_22 (ad : Nat → Nat) (cA : Nat → ClassId) (σ : tyS) : ∀ f, (wM ad cA σ).set 22 (ad 22, .inl (cA 22, 40, .inl f)) = wM ad cA (sA σ 22 f) := fun _ => rfl
theorem tM_22 (cA : Nat → ClassId) : (tM cA)[21]? = some (cA 22, .int) := rfl
theorem wM_23 (ad : Nat → Nat) (cA : Nat → ClassId) (σ : tyS) : (wM ad cA σ)[23]? = some (ad 23, .inl (cA 23, 240, .inl (σ.1 23))) := rfl
theorem wMs_23 (ad : Nat → Nat) (cA : Nat → ClassId) (σ : tyS) : ∀ f, (wM ad cA σ).set 23 (ad 23, .inl (cA 23, 240, .inl f)) = wM ad cA (sA σ 23 f) := fun _ => rfl
theorem tM_23 (cA : Nat → ClassId) : (tM cA)[22]? = some (cA 23, .int) := rfl
theorem wMv_0 (ad : Nat → Nat) (cA : Nat → ClassId) (σ : tyS) (x : Int32) : (wM ad cA σ).set 0 (ad 0, .inr (5, (fM_0 ad σ).set 0 (.int x))) = wM ad cA (sV σ 0 x) := rfl
theorem wMv_1 (ad : Nat → Nat) (cA : Nat → ClassId) (σ : tyS) (x : Int32) : (wM ad cA σ).set 0 (ad 0, .inr (5, (fM_0 ad σ).set 1 (.int x))) = wM ad cA (sV σ 1 x) := rfl
theorem wMv_2 (ad : Nat → Nat) (cA : Nat → ClassId) (σ : tyS) (x : Int32) : (wM ad cA σ).set 0 (ad 0, .inr (5, (fM_0 ad σ).set 2 (.int x))) = wM ad cA (sV σ 2 x) := rfl
theorem wMv_3 (ad : Nat → Nat) (cA : Nat → ClassId) (σ : tyS) (x : Int32) : (wM ad cA σ).set 0 (ad 0, .inr (5, (fM_0 ad σ).set 11 (.int x))) = wM ad cA (sV σ 3 x) := rfl
theorem wMv_4 (ad : Nat → Nat) (cA : Nat → ClassId) (σ : tyS) (x : Int32) : (wM ad cA σ).set 0 (ad 0, .inr (5, (fM_0 ad σ).set 12 (.int x))) = wM ad cA (sV σ 4 x) := rfl
theorem wMv_5 (ad : Nat → Nat) (cA : Nat → ClassId) (σ : tyS) (x : Int32) : (wM ad cA σ).set 0 (ad 0, .inr (5, (fM_0 ad σ).set 17 (.int x))) = wM ad cA (sV σ 5 x) := rfl
theorem wMv_6 (ad : Nat → Nat) (cA : Nat → ClassId) (σ : tyS) (x : Int32) : (wM ad cA σ).set 0 (ad 0, .inr (5, (fM_0 ad σ).set 25 (.int x))) = wM ad cA (sV σ 6 x) := rfl
def gStr : List (String × Nat × String) := [(RX4, 75, "no wagon or no room is left"), (RX4, 88, "the tracks are the same, or many is out of range"), (RX4, 95, "not so many wagons, or not so much room"), (RX4, 105, "there is no wagon"), (RX4, 114, "a grain is out of range, or both are the same"), (RX4, 143, "the customer has a call, or there were too many"), (RX4, 154, "grain is out of range"), (RX4, 166, "another grain, or too many bookings"), (RX4, 187, "no booking is open"), (RX4, 199, "the booking can\'t be taken up in this call"), (RX4, 204, "the booking can\'t be cancelled in this call"), (RX4, 224, "the trunk is cut"), (RX4, 232, "the trunk is not cut"), (RX4, 234, "lines is out of range"), (RX4, 239, "more calls to the yard go on"), (RX4, 244, "ticks is out of range"), (RX4, 249, "too many ticks would have gone by"), (RX4, 263, "the booking has no such wagon"), (RX4, 267, "the booking is not half"), (RX4, 272, "both yards are the same"), (RX4, 280, "no train can depart from the track"), (RX4, 285, "there never was such a train"), (RX4, 290, "track is out of range"), (RX4, 292, "the train has arrived, or the track has not enough room"), (RX4, 300, "yard is out of range"), (RX4, 302, "yard or track is out of range"), (RX4, 304, "customer is out of range"), (RX4, 309, "there is no such trunk"), (RX4, 311, "there is no such wagon"), (RX4, 316, "there never was such a call"), (RX4, 321, "the call does not go on"), (RX4, 323, "there never was such a booking"), (RX4, 325, "there is no wagon at place")]
/-! the words of the throws -/
theorem gnoX4_77 : ∀ w ∈ (vx_atS RX4 77 "java/lang/IllegalStateException" gNms).filter (fun w => !goodWord w), w ∈ gNw := by decide +kernel
theorem ggdX4_73_77 : ∀ w ∈ Cond.classLink RX4 73 "java/lang/IllegalStateException" :: Cond.initialized "java/lang/IllegalStateException" :: vx_atS RX4 77 "java/lang/IllegalStateException" gNms, vx_ot w = true := by decide +kernel
theorem gnoX4_90 : ∀ w ∈ (vx_atS RX4 90 "java/lang/IllegalArgumentException" gNms).filter (fun w => !goodWord w), w ∈ gNw := by decide +kernel
theorem ggdX4_86_90 : ∀ w ∈ Cond.classLink RX4 86 "java/lang/IllegalArgumentException" :: Cond.initialized "java/lang/IllegalArgumentException" :: vx_atS RX4 90 "java/lang/IllegalArgumentException" gNms, vx_ot w = true := by decide +kernel
theorem gnoX4_265 : ∀ w ∈ (vx_atS RX4 265 "java/lang/IndexOutOfBoundsException" gNms).filter (fun w => !goodWord w), w ∈ gNw := by decide +kernel
theorem ggdX4_261_265 : ∀ w ∈ Cond.classLink RX4 261 "java/lang/IndexOutOfBoundsException" :: Cond.initialized "java/lang/IndexOutOfBoundsException" :: vx_atS RX4 265 "java/lang/IndexOutOfBoundsException" gNms, vx_ot w = true := by decide +kernel
/-! the callees' descriptors -/
theorem hd_X0_noteMove : yX0_noteMove.cls = RX0 ∧ yX0_noteMove.cls ≠ "java/lang/invoke/MethodHandle" ∧ yX0_noteMove.cls ≠ "java/lang/invoke/VarHandle" ∧ (parseMethodDescriptor yX0_noteMove.desc).map (fun d => d.parameters.length) = some 3 := by decide +kernel
theorem hd_X0_notePlacing : yX0_notePlacing.cls = RX0 ∧ yX0_notePlacing.cls ≠ "java/lang/invoke/MethodHandle" ∧ yX0_notePlacing.cls ≠ "java/lang/invoke/VarHandle" ∧ (parseMethodDescriptor yX0_notePlacing.desc).map (fun d => d.parameters.length) = some 2 := by decide +kernel
theorem hd_X0_replay : yX0_replay.cls = RX0 ∧ yX0_replay.cls ≠ "java/lang/invoke/MethodHandle" ∧ yX0_replay.cls ≠ "java/lang/invoke/VarHandle" ∧ (parseMethodDescriptor yX0_replay.desc).map (fun d => d.parameters.length) = some 1 := by decide +kernel
theorem hd_X1_add : yX1_add.cls = RX1 ∧ yX1_add.cls ≠ "java/lang/invoke/MethodHandle" ∧ yX1_add.cls ≠ "java/lang/invoke/VarHandle" ∧ (parseMethodDescriptor yX1_add.desc).map (fun d => d.parameters.length) = some 2 := by decide +kernel
theorem hd_X1_bookingFor : yX1_bookingFor.cls = RX1 ∧ yX1_bookingFor.cls ≠ "java/lang/invoke/MethodHandle" ∧ yX1_bookingFor.cls ≠ "java/lang/invoke/VarHandle" ∧ (parseMethodDescriptor yX1_bookingFor.desc).map (fun d => d.parameters.length) = some 1 := by decide +kernel
theorem hd_X1_customer : yX1_customer.cls = RX1 ∧ yX1_customer.cls ≠ "java/lang/invoke/MethodHandle" ∧ yX1_customer.cls ≠ "java/lang/invoke/VarHandle" ∧ (parseMethodDescriptor yX1_customer.desc).map (fun d => d.parameters.length) = some 1 := by decide +kernel
theorem hd_X1_get : yX1_get.cls = RX1 ∧ yX1_get.cls ≠ "java/lang/invoke/MethodHandle" ∧ yX1_get.cls ≠ "java/lang/invoke/VarHandle" ∧ (parseMethodDescriptor yX1_get.desc).map (fun d => d.parameters.length) = some 2 := by decide +kernel
theorem hd_X1_grain : yX1_grain.cls = RX1 ∧ yX1_grain.cls ≠ "java/lang/invoke/MethodHandle" ∧ yX1_grain.cls ≠ "java/lang/invoke/VarHandle" ∧ (parseMethodDescriptor yX1_grain.desc).map (fun d => d.parameters.length) = some 1 := by decide +kernel
theorem hd_X1_halve : yX1_halve.cls = RX1 ∧ yX1_halve.cls ≠ "java/lang/invoke/MethodHandle" ∧ yX1_halve.cls ≠ "java/lang/invoke/VarHandle" ∧ (parseMethodDescriptor yX1_halve.desc).map (fun d => d.parameters.length) = some 2 := by decide +kernel
theorem hd_X1_isFull : yX1_isFull.cls = RX1 ∧ yX1_isFull.cls ≠ "java/lang/invoke/MethodHandle" ∧ yX1_isFull.cls ≠ "java/lang/invoke/VarHandle" ∧ (parseMethodDescriptor yX1_isFull.desc).map (fun d => d.parameters.length) = some 0 := by decide +kernel
theorem hd_X1_keep : yX1_keep.cls = RX1 ∧ yX1_keep.cls ≠ "java/lang/invoke/MethodHandle" ∧ yX1_keep.cls ≠ "java/lang/invoke/VarHandle" ∧ (parseMethodDescriptor yX1_keep.desc).map (fun d => d.parameters.length) = some 2 := by decide +kernel
theorem hd_X1_lapseAll : yX1_lapseAll.cls = RX1 ∧ yX1_lapseAll.cls ≠ "java/lang/invoke/MethodHandle" ∧ yX1_lapseAll.cls ≠ "java/lang/invoke/VarHandle" ∧ (parseMethodDescriptor yX1_lapseAll.desc).map (fun d => d.parameters.length) = some 1 := by decide +kernel
theorem hd_X1_lapseTick : yX1_lapseTick.cls = RX1 ∧ yX1_lapseTick.cls ≠ "java/lang/invoke/MethodHandle" ∧ yX1_lapseTick.cls ≠ "java/lang/invoke/VarHandle" ∧ (parseMethodDescriptor yX1_lapseTick.desc).map (fun d => d.parameters.length) = some 1 := by decide +kernel
theorem hd_X1_open : yX1_open.cls = RX1 ∧ yX1_open.cls ≠ "java/lang/invoke/MethodHandle" ∧ yX1_open.cls ≠ "java/lang/invoke/VarHandle" ∧ (parseMethodDescriptor yX1_open.desc).map (fun d => d.parameters.length) = some 3 := by decide +kernel
theorem hd_X1_opened : yX1_opened.cls = RX1 ∧ yX1_opened.cls ≠ "java/lang/invoke/MethodHandle" ∧ yX1_opened.cls ≠ "java/lang/invoke/VarHandle" ∧ (parseMethodDescriptor yX1_opened.desc).map (fun d => d.parameters.length) = some 0 := by decide +kernel
theorem hd_X1_release : yX1_release.cls = RX1 ∧ yX1_release.cls ≠ "java/lang/invoke/MethodHandle" ∧ yX1_release.cls ≠ "java/lang/invoke/VarHandle" ∧ (parseMethodDescriptor yX1_release.desc).map (fun d => d.parameters.length) = some 2 := by decide +kernel
theorem hd_X1_size : yX1_size.cls = RX1 ∧ yX1_size.cls ≠ "java/lang/invoke/MethodHandle" ∧ yX1_size.cls ≠ "java/lang/invoke/VarHandle" ∧ (parseMethodDescriptor yX1_size.desc).map (fun d => d.parameters.length) = some 1 := by decide +kernel
theorem hd_X1_standing : yX1_standing.cls = RX1 ∧ yX1_standing.cls ≠ "java/lang/invoke/MethodHandle" ∧ yX1_standing.cls ≠ "java/lang/invoke/VarHandle" ∧ (parseMethodDescriptor yX1_standing.desc).map (fun d => d.parameters.length) = some 1 := by decide +kernel
theorem hd_X1_yard : yX1_yard.cls = RX1 ∧ yX1_yard.cls ≠ "java/lang/invoke/MethodHandle" ∧ yX1_yard.cls ≠ "java/lang/invoke/VarHandle" ∧ (parseMethodDescriptor yX1_yard.desc).map (fun d => d.parameters.length) = some 1 := by decide +kernel
theorem hd_X2_clear : yX2_clear.cls = RX2 ∧ yX2_clear.cls ≠ "java/lang/invoke/MethodHandle" ∧ yX2_clear.cls ≠ "java/lang/invoke/VarHandle" ∧ (parseMethodDescriptor yX2_clear.desc).map (fun d => d.parameters.length) = some 0 := by decide +kernel
theorem hd_X2_count : yX2_count.cls = RX2 ∧ yX2_count.cls ≠ "java/lang/invoke/MethodHandle" ∧ yX2_count.cls ≠ "java/lang/invoke/VarHandle" ∧ (parseMethodDescriptor yX2_count.desc).map (fun d => d.parameters.length) = some 1 := by decide +kernel
theorem hd_X2_findOnTracks : yX2_findOnTracks.cls = RX2 ∧ yX2_findOnTracks.cls ≠ "java/lang/invoke/MethodHandle" ∧ yX2_findOnTracks.cls ≠ "java/lang/invoke/VarHandle" ∧ (parseMethodDescriptor yX2_findOnTracks.desc).map (fun d => d.parameters.length) = some 1 := by decide +kernel
theorem hd_X2_get : yX2_get.cls = RX2 ∧ yX2_get.cls ≠ "java/lang/invoke/MethodHandle" ∧ yX2_get.cls ≠ "java/lang/invoke/VarHandle" ∧ (parseMethodDescriptor yX2_get.desc).map (fun d => d.parameters.length) = some 2 := by decide +kernel
theorem hd_X2_hasRoom : yX2_hasRoom.cls = RX2 ∧ yX2_hasRoom.cls ≠ "java/lang/invoke/MethodHandle" ∧ yX2_hasRoom.cls ≠ "java/lang/invoke/VarHandle" ∧ (parseMethodDescriptor yX2_hasRoom.desc).map (fun d => d.parameters.length) = some 2 := by decide +kernel
theorem hd_X2_move : yX2_move.cls = RX2 ∧ yX2_move.cls ≠ "java/lang/invoke/MethodHandle" ∧ yX2_move.cls ≠ "java/lang/invoke/VarHandle" ∧ (parseMethodDescriptor yX2_move.desc).map (fun d => d.parameters.length) = some 3 := by decide +kernel
theorem hd_X2_put : yX2_put.cls = RX2 ∧ yX2_put.cls ≠ "java/lang/invoke/MethodHandle" ∧ yX2_put.cls ≠ "java/lang/invoke/VarHandle" ∧ (parseMethodDescriptor yX2_put.desc).map (fun d => d.parameters.length) = some 2 := by decide +kernel
theorem hd_X3_begin : yX3_begin.cls = RX3 ∧ yX3_begin.cls ≠ "java/lang/invoke/MethodHandle" ∧ yX3_begin.cls ≠ "java/lang/invoke/VarHandle" ∧ (parseMethodDescriptor yX3_begin.desc).map (fun d => d.parameters.length) = some 2 := by decide +kernel
theorem hd_X3_callsTo : yX3_callsTo.cls = RX3 ∧ yX3_callsTo.cls ≠ "java/lang/invoke/MethodHandle" ∧ yX3_callsTo.cls ≠ "java/lang/invoke/VarHandle" ∧ (parseMethodDescriptor yX3_callsTo.desc).map (fun d => d.parameters.length) = some 1 := by decide +kernel
theorem hd_X3_changeLines : yX3_changeLines.cls = RX3 ∧ yX3_changeLines.cls ≠ "java/lang/invoke/MethodHandle" ∧ yX3_changeLines.cls ≠ "java/lang/invoke/VarHandle" ∧ (parseMethodDescriptor yX3_changeLines.desc).map (fun d => d.parameters.length) = some 2 := by decide +kernel
theorem hd_X3_connect : yX3_connect.cls = RX3 ∧ yX3_connect.cls ≠ "java/lang/invoke/MethodHandle" ∧ yX3_connect.cls ≠ "java/lang/invoke/VarHandle" ∧ (parseMethodDescriptor yX3_connect.desc).map (fun d => d.parameters.length) = some 4 := by decide +kernel
theorem hd_X3_customer : yX3_customer.cls = RX3 ∧ yX3_customer.cls ≠ "java/lang/invoke/MethodHandle" ∧ yX3_customer.cls ≠ "java/lang/invoke/VarHandle" ∧ (parseMethodDescriptor yX3_customer.desc).map (fun d => d.parameters.length) = some 1 := by decide +kernel
theorem hd_X3_end : yX3_end.cls = RX3 ∧ yX3_end.cls ≠ "java/lang/invoke/MethodHandle" ∧ yX3_end.cls ≠ "java/lang/invoke/VarHandle" ∧ (parseMethodDescriptor yX3_end.desc).map (fun d => d.parameters.length) = some 1 := by decide +kernel
theorem hd_X3_freeTrunk : yX3_freeTrunk.cls = RX3 ∧ yX3_freeTrunk.cls ≠ "java/lang/invoke/MethodHandle" ∧ yX3_freeTrunk.cls ≠ "java/lang/invoke/VarHandle" ∧ (parseMethodDescriptor yX3_freeTrunk.desc).map (fun d => d.parameters.length) = some 2 := by decide +kernel
theorem hd_X3_goesOn : yX3_goesOn.cls = RX3 ∧ yX3_goesOn.cls ≠ "java/lang/invoke/MethodHandle" ∧ yX3_goesOn.cls ≠ "java/lang/invoke/VarHandle" ∧ (parseMethodDescriptor yX3_goesOn.desc).map (fun d => d.parameters.length) = some 1 := by decide +kernel
theorem hd_X3_hasBegun : yX3_hasBegun.cls = RX3 ∧ yX3_hasBegun.cls ≠ "java/lang/invoke/MethodHandle" ∧ yX3_hasBegun.cls ≠ "java/lang/invoke/VarHandle" ∧ (parseMethodDescriptor yX3_hasBegun.desc).map (fun d => d.parameters.length) = some 1 := by decide +kernel
theorem hd_X3_isFull : yX3_isFull.cls = RX3 ∧ yX3_isFull.cls ≠ "java/lang/invoke/MethodHandle" ∧ yX3_isFull.cls ≠ "java/lang/invoke/VarHandle" ∧ (parseMethodDescriptor yX3_isFull.desc).map (fun d => d.parameters.length) = some 0 := by decide +kernel
theorem hd_X3_occupy : yX3_occupy.cls = RX3 ∧ yX3_occupy.cls ≠ "java/lang/invoke/MethodHandle" ∧ yX3_occupy.cls ≠ "java/lang/invoke/VarHandle" ∧ (parseMethodDescriptor yX3_occupy.desc).map (fun d => d.parameters.length) = some 2 := by decide +kernel
theorem hd_X3_ongoing : yX3_ongoing.cls = RX3 ∧ yX3_ongoing.cls ≠ "java/lang/invoke/MethodHandle" ∧ yX3_ongoing.cls ≠ "java/lang/invoke/VarHandle" ∧ (parseMethodDescriptor yX3_ongoing.desc).map (fun d => d.parameters.length) = some 1 := by decide +kernel
theorem hd_X3_openBooking : yX3_openBooking.cls = RX3 ∧ yX3_openBooking.cls ≠ "java/lang/invoke/MethodHandle" ∧ yX3_openBooking.cls ≠ "java/lang/invoke/VarHandle" ∧ (parseMethodDescriptor yX3_openBooking.desc).map (fun d => d.parameters.length) = some 1 := by decide +kernel
theorem hd_X3_setOpenBooking : yX3_setOpenBooking.cls = RX3 ∧ yX3_setOpenBooking.cls ≠ "java/lang/invoke/MethodHandle" ∧ yX3_setOpenBooking.cls ≠ "java/lang/invoke/VarHandle" ∧ (parseMethodDescriptor yX3_setOpenBooking.desc).map (fun d => d.parameters.length) = some 2 := by decide +kernel
theorem hd_X3_setTrunk : yX3_setTrunk.cls = RX3 ∧ yX3_setTrunk.cls ≠ "java/lang/invoke/MethodHandle" ∧ yX3_setTrunk.cls ≠ "java/lang/invoke/VarHandle" ∧ (parseMethodDescriptor yX3_setTrunk.desc).map (fun d => d.parameters.length) = some 2 := by decide +kernel
theorem hd_X3_trunkHas : yX3_trunkHas.cls = RX3 ∧ yX3_trunkHas.cls ≠ "java/lang/invoke/MethodHandle" ∧ yX3_trunkHas.cls ≠ "java/lang/invoke/VarHandle" ∧ (parseMethodDescriptor yX3_trunkHas.desc).map (fun d => d.parameters.length) = some 1 := by decide +kernel
theorem hd_X3_trunksOf : yX3_trunksOf.cls = RX3 ∧ yX3_trunksOf.cls ≠ "java/lang/invoke/MethodHandle" ∧ yX3_trunksOf.cls ≠ "java/lang/invoke/VarHandle" ∧ (parseMethodDescriptor yX3_trunksOf.desc).map (fun d => d.parameters.length) = some 1 := by decide +kernel
theorem hd_X3_yard : yX3_yard.cls = RX3 ∧ yX3_yard.cls ≠ "java/lang/invoke/MethodHandle" ∧ yX3_yard.cls ≠ "java/lang/invoke/VarHandle" ∧ (parseMethodDescriptor yX3_yard.desc).map (fun d => d.parameters.length) = some 1 := by decide +kernel
theorem hd_X4_canDepart : yX4_canDepart.cls = RX4 ∧ yX4_canDepart.cls ≠ "java/lang/invoke/MethodHandle" ∧ yX4_canDepart.cls ≠ "java/lang/invoke/VarHandle" ∧ (parseMethodDescriptor yX4_canDepart.desc).map (fun d => d.parameters.length) = some 1 := by decide +kernel
theorem hd_X4_cutOff : yX4_cutOff.cls = RX4 ∧ yX4_cutOff.cls ≠ "java/lang/invoke/MethodHandle" ∧ yX4_cutOff.cls ≠ "java/lang/invoke/VarHandle" ∧ (parseMethodDescriptor yX4_cutOff.desc).map (fun d => d.parameters.length) = some 1 := by decide +kernel
theorem hd_X4_findWagon : yX4_findWagon.cls = RX4 ∧ yX4_findWagon.cls ≠ "java/lang/invoke/MethodHandle" ∧ yX4_findWagon.cls ≠ "java/lang/invoke/VarHandle" ∧ (parseMethodDescriptor yX4_findWagon.desc).map (fun d => d.parameters.length) = some 2 := by decide +kernel
theorem hd_X4_fits : yX4_fits.cls = RX4 ∧ yX4_fits.cls ≠ "java/lang/invoke/MethodHandle" ∧ yX4_fits.cls ≠ "java/lang/invoke/VarHandle" ∧ (parseMethodDescriptor yX4_fits.desc).map (fun d => d.parameters.length) = some 2 := by decide +kernel
theorem hd_X4_isExchange : yX4_isExchange.cls ≠ "java/lang/invoke/MethodHandle" ∧ yX4_isExchange.cls ≠ "java/lang/invoke/VarHandle" ∧ (parseMethodDescriptor yX4_isExchange.desc).map (fun d => d.parameters.length) = some 1 := by decide +kernel
theorem hd_X4_isGrain : yX4_isGrain.cls ≠ "java/lang/invoke/MethodHandle" ∧ yX4_isGrain.cls ≠ "java/lang/invoke/VarHandle" ∧ (parseMethodDescriptor yX4_isGrain.desc).map (fun d => d.parameters.length) = some 1 := by decide +kernel
theorem hd_X4_isTrack : yX4_isTrack.cls ≠ "java/lang/invoke/MethodHandle" ∧ yX4_isTrack.cls ≠ "java/lang/invoke/VarHandle" ∧ (parseMethodDescriptor yX4_isTrack.desc).map (fun d => d.parameters.length) = some 1 := by decide +kernel
theorem hd_X4_isWithin : yX4_isWithin.cls = RX4 ∧ yX4_isWithin.cls ≠ "java/lang/invoke/MethodHandle" ∧ yX4_isWithin.cls ≠ "java/lang/invoke/VarHandle" ∧ (parseMethodDescriptor yX4_isWithin.desc).map (fun d => d.parameters.length) = some 3 := by decide +kernel
theorem hd_X4_isYard : yX4_isYard.cls ≠ "java/lang/invoke/MethodHandle" ∧ yX4_isYard.cls ≠ "java/lang/invoke/VarHandle" ∧ (parseMethodDescriptor yX4_isYard.desc).map (fun d => d.parameters.length) = some 1 := by decide +kernel
theorem hd_X4_load : yX4_load.cls = RX4 ∧ yX4_load.cls ≠ "java/lang/invoke/MethodHandle" ∧ yX4_load.cls ≠ "java/lang/invoke/VarHandle" ∧ (parseMethodDescriptor yX4_load.desc).map (fun d => d.parameters.length) = some 1 := by decide +kernel
theorem hd_X4_moveLast : yX4_moveLast.cls = RX4 ∧ yX4_moveLast.cls ≠ "java/lang/invoke/MethodHandle" ∧ yX4_moveLast.cls ≠ "java/lang/invoke/VarHandle" ∧ (parseMethodDescriptor yX4_moveLast.desc).map (fun d => d.parameters.length) = some 3 := by decide +kernel
theorem hd_X4_requireBooking : yX4_requireBooking.cls = RX4 ∧ yX4_requireBooking.cls ≠ "java/lang/invoke/MethodHandle" ∧ yX4_requireBooking.cls ≠ "java/lang/invoke/VarHandle" ∧ (parseMethodDescriptor yX4_requireBooking.desc).map (fun d => d.parameters.length) = some 1 := by decide +kernel
theorem hd_X4_requireCall : yX4_requireCall.cls = RX4 ∧ yX4_requireCall.cls ≠ "java/lang/invoke/MethodHandle" ∧ yX4_requireCall.cls ≠ "java/lang/invoke/VarHandle" ∧ (parseMethodDescriptor yX4_requireCall.desc).map (fun d => d.parameters.length) = some 1 := by decide +kernel
theorem hd_X4_requireCustomer : yX4_requireCustomer.cls ≠ "java/lang/invoke/MethodHandle" ∧ yX4_requireCustomer.cls ≠ "java/lang/invoke/VarHandle" ∧ (parseMethodDescriptor yX4_requireCustomer.desc).map (fun d => d.parameters.length) = some 1 := by decide +kernel
theorem hd_X4_requireOngoing : yX4_requireOngoing.cls = RX4 ∧ yX4_requireOngoing.cls ≠ "java/lang/invoke/MethodHandle" ∧ yX4_requireOngoing.cls ≠ "java/lang/invoke/VarHandle" ∧ (parseMethodDescriptor yX4_requireOngoing.desc).map (fun d => d.parameters.length) = some 1 := by decide +kernel
theorem hd_X4_requireTrack : yX4_requireTrack.cls ≠ "java/lang/invoke/MethodHandle" ∧ yX4_requireTrack.cls ≠ "java/lang/invoke/VarHandle" ∧ (parseMethodDescriptor yX4_requireTrack.desc).map (fun d => d.parameters.length) = some 2 := by decide +kernel
theorem hd_X4_requireTrunk : yX4_requireTrunk.cls ≠ "java/lang/invoke/MethodHandle" ∧ yX4_requireTrunk.cls ≠ "java/lang/invoke/VarHandle" ∧ (parseMethodDescriptor yX4_requireTrunk.desc).map (fun d => d.parameters.length) = some 3 := by decide +kernel
theorem hd_X4_requireWagon : yX4_requireWagon.cls = RX4 ∧ yX4_requireWagon.cls ≠ "java/lang/invoke/MethodHandle" ∧ yX4_requireWagon.cls ≠ "java/lang/invoke/VarHandle" ∧ (parseMethodDescriptor yX4_requireWagon.desc).map (fun d => d.parameters.length) = some 1 := by decide +kernel
theorem hd_X4_requireYard : yX4_requireYard.cls ≠ "java/lang/invoke/MethodHandle" ∧ yX4_requireYard.cls ≠ "java/lang/invoke/VarHandle" ∧ (parseMethodDescriptor yX4_requireYard.desc).map (fun d => d.parameters.length) = some 1 := by decide +kernel
theorem hd_X4_rowOf : yX4_rowOf.cls ≠ "java/lang/invoke/MethodHandle" ∧ yX4_rowOf.cls ≠ "java/lang/invoke/VarHandle" ∧ (parseMethodDescriptor yX4_rowOf.desc).map (fun d => d.parameters.length) = some 2 := by decide +kernel
theorem hd_X4_slotOf : yX4_slotOf.cls ≠ "java/lang/invoke/MethodHandle" ∧ yX4_slotOf.cls ≠ "java/lang/invoke/VarHandle" ∧ (parseMethodDescriptor yX4_slotOf.desc).map (fun d => d.parameters.length) = some 3 := by decide +kernel
theorem hd_X4_standsWhole : yX4_standsWhole.cls = RX4 ∧ yX4_standsWhole.cls ≠ "java/lang/invoke/MethodHandle" ∧ yX4_standsWhole.cls ≠ "java/lang/invoke/VarHandle" ∧ (parseMethodDescriptor yX4_standsWhole.desc).map (fun d => d.parameters.length) = some 2 := by decide +kernel
theorem hd_X4_unload : yX4_unload.cls = RX4 ∧ yX4_unload.cls ≠ "java/lang/invoke/MethodHandle" ∧ yX4_unload.cls ≠ "java/lang/invoke/VarHandle" ∧ (parseMethodDescriptor yX4_unload.desc).map (fun d => d.parameters.length) = some 1 := by decide +kernel
theorem hd_X4_wagonIn : yX4_wagonIn.cls ≠ "java/lang/invoke/MethodHandle" ∧ yX4_wagonIn.cls ≠ "java/lang/invoke/VarHandle" ∧ (parseMethodDescriptor yX4_wagonIn.desc).map (fun d => d.parameters.length) = some 3 := by decide +kernel
theorem hd_X5_adds : yX5_adds.cls = RX5 ∧ yX5_adds.cls ≠ "java/lang/invoke/MethodHandle" ∧ yX5_adds.cls ≠ "java/lang/invoke/VarHandle" ∧ (parseMethodDescriptor yX5_adds.desc).map (fun d => d.parameters.length) = some 2 := by decide +kernel
theorem hd_X5_areOn : yX5_areOn.cls = RX5 ∧ yX5_areOn.cls ≠ "java/lang/invoke/MethodHandle" ∧ yX5_areOn.cls ≠ "java/lang/invoke/VarHandle" ∧ (parseMethodDescriptor yX5_areOn.desc).map (fun d => d.parameters.length) = some 2 := by decide +kernel
theorem hd_X5_asksBooking : yX5_asksBooking.cls = RX5 ∧ yX5_asksBooking.cls ≠ "java/lang/invoke/MethodHandle" ∧ yX5_asksBooking.cls ≠ "java/lang/invoke/VarHandle" ∧ (parseMethodDescriptor yX5_asksBooking.desc).map (fun d => d.parameters.length) = some 1 := by decide +kernel
theorem hd_X5_asksWagon : yX5_asksWagon.cls = RX5 ∧ yX5_asksWagon.cls ≠ "java/lang/invoke/MethodHandle" ∧ yX5_asksWagon.cls ≠ "java/lang/invoke/VarHandle" ∧ (parseMethodDescriptor yX5_asksWagon.desc).map (fun d => d.parameters.length) = some 1 := by decide +kernel
theorem hd_X5_between : yX5_between.cls ≠ "java/lang/invoke/MethodHandle" ∧ yX5_between.cls ≠ "java/lang/invoke/VarHandle" ∧ (parseMethodDescriptor yX5_between.desc).map (fun d => d.parameters.length) = some 2 := by decide +kernel
theorem hd_X5_callNow : yX5_callNow.cls = RX5 ∧ yX5_callNow.cls ≠ "java/lang/invoke/MethodHandle" ∧ yX5_callNow.cls ≠ "java/lang/invoke/VarHandle" ∧ (parseMethodDescriptor yX5_callNow.desc).map (fun d => d.parameters.length) = some 1 := by decide +kernel
theorem hd_X5_callsTo : yX5_callsTo.cls = RX5 ∧ yX5_callsTo.cls ≠ "java/lang/invoke/MethodHandle" ∧ yX5_callsTo.cls ≠ "java/lang/invoke/VarHandle" ∧ (parseMethodDescriptor yX5_callsTo.desc).map (fun d => d.parameters.length) = some 1 := by decide +kernel
theorem hd_X5_canDepart : yX5_canDepart.cls = RX5 ∧ yX5_canDepart.cls ≠ "java/lang/invoke/MethodHandle" ∧ yX5_canDepart.cls ≠ "java/lang/invoke/VarHandle" ∧ (parseMethodDescriptor yX5_canDepart.desc).map (fun d => d.parameters.length) = some 2 := by decide +kernel
theorem hd_X5_ends : yX5_ends.cls = RX5 ∧ yX5_ends.cls ≠ "java/lang/invoke/MethodHandle" ∧ yX5_ends.cls ≠ "java/lang/invoke/VarHandle" ∧ (parseMethodDescriptor yX5_ends.desc).map (fun d => d.parameters.length) = some 1 := by decide +kernel
theorem hd_X5_finds : yX5_finds.cls = RX5 ∧ yX5_finds.cls ≠ "java/lang/invoke/MethodHandle" ∧ yX5_finds.cls ≠ "java/lang/invoke/VarHandle" ∧ (parseMethodDescriptor yX5_finds.desc).map (fun d => d.parameters.length) = some 2 := by decide +kernel
theorem hd_X5_fits : yX5_fits.cls = RX5 ∧ yX5_fits.cls ≠ "java/lang/invoke/MethodHandle" ∧ yX5_fits.cls ≠ "java/lang/invoke/VarHandle" ∧ (parseMethodDescriptor yX5_fits.desc).map (fun d => d.parameters.length) = some 2 := by decide +kernel
theorem hd_X5_freeBetween : yX5_freeBetween.cls = RX5 ∧ yX5_freeBetween.cls ≠ "java/lang/invoke/MethodHandle" ∧ yX5_freeBetween.cls ≠ "java/lang/invoke/VarHandle" ∧ (parseMethodDescriptor yX5_freeBetween.desc).map (fun d => d.parameters.length) = some 2 := by decide +kernel
theorem hd_X5_in : yX5_in.cls ≠ "java/lang/invoke/MethodHandle" ∧ yX5_in.cls ≠ "java/lang/invoke/VarHandle" ∧ (parseMethodDescriptor yX5_in.desc).map (fun d => d.parameters.length) = some 3 := by decide +kernel
theorem hd_X5_isBooking : yX5_isBooking.cls = RX5 ∧ yX5_isBooking.cls ≠ "java/lang/invoke/MethodHandle" ∧ yX5_isBooking.cls ≠ "java/lang/invoke/VarHandle" ∧ (parseMethodDescriptor yX5_isBooking.desc).map (fun d => d.parameters.length) = some 1 := by decide +kernel
theorem hd_X5_isCall : yX5_isCall.cls = RX5 ∧ yX5_isCall.cls ≠ "java/lang/invoke/MethodHandle" ∧ yX5_isCall.cls ≠ "java/lang/invoke/VarHandle" ∧ (parseMethodDescriptor yX5_isCall.desc).map (fun d => d.parameters.length) = some 1 := by decide +kernel
theorem hd_X5_isGrain : yX5_isGrain.cls ≠ "java/lang/invoke/MethodHandle" ∧ yX5_isGrain.cls ≠ "java/lang/invoke/VarHandle" ∧ (parseMethodDescriptor yX5_isGrain.desc).map (fun d => d.parameters.length) = some 1 := by decide +kernel
theorem hd_X5_isOf : yX5_isOf.cls = RX5 ∧ yX5_isOf.cls ≠ "java/lang/invoke/MethodHandle" ∧ yX5_isOf.cls ≠ "java/lang/invoke/VarHandle" ∧ (parseMethodDescriptor yX5_isOf.desc).map (fun d => d.parameters.length) = some 2 := by decide +kernel
theorem hd_X5_isPromised : yX5_isPromised.cls = RX5 ∧ yX5_isPromised.cls ≠ "java/lang/invoke/MethodHandle" ∧ yX5_isPromised.cls ≠ "java/lang/invoke/VarHandle" ∧ (parseMethodDescriptor yX5_isPromised.desc).map (fun d => d.parameters.length) = some 1 := by decide +kernel
theorem hd_X5_isTrack : yX5_isTrack.cls ≠ "java/lang/invoke/MethodHandle" ∧ yX5_isTrack.cls ≠ "java/lang/invoke/VarHandle" ∧ (parseMethodDescriptor yX5_isTrack.desc).map (fun d => d.parameters.length) = some 2 := by decide +kernel
theorem hd_X5_isTrunk : yX5_isTrunk.cls ≠ "java/lang/invoke/MethodHandle" ∧ yX5_isTrunk.cls ≠ "java/lang/invoke/VarHandle" ∧ (parseMethodDescriptor yX5_isTrunk.desc).map (fun d => d.parameters.length) = some 3 := by decide +kernel
theorem hd_X5_isWagon : yX5_isWagon.cls = RX5 ∧ yX5_isWagon.cls ≠ "java/lang/invoke/MethodHandle" ∧ yX5_isWagon.cls ≠ "java/lang/invoke/VarHandle" ∧ (parseMethodDescriptor yX5_isWagon.desc).map (fun d => d.parameters.length) = some 1 := by decide +kernel
theorem hd_X5_isYard : yX5_isYard.cls ≠ "java/lang/invoke/MethodHandle" ∧ yX5_isYard.cls ≠ "java/lang/invoke/VarHandle" ∧ (parseMethodDescriptor yX5_isYard.desc).map (fun d => d.parameters.length) = some 1 := by decide +kernel
theorem hd_X5_puts : yX5_puts.cls = RX5 ∧ yX5_puts.cls ≠ "java/lang/invoke/MethodHandle" ∧ yX5_puts.cls ≠ "java/lang/invoke/VarHandle" ∧ (parseMethodDescriptor yX5_puts.desc).map (fun d => d.parameters.length) = some 3 := by decide +kernel
theorem hd_X5_takesWay : yX5_takesWay.cls = RX5 ∧ yX5_takesWay.cls ≠ "java/lang/invoke/MethodHandle" ∧ yX5_takesWay.cls ≠ "java/lang/invoke/VarHandle" ∧ (parseMethodDescriptor yX5_takesWay.desc).map (fun d => d.parameters.length) = some 2 := by decide +kernel
theorem hd_X5_wagonAt : yX5_wagonAt.cls = RX5 ∧ yX5_wagonAt.cls ≠ "java/lang/invoke/MethodHandle" ∧ yX5_wagonAt.cls ≠ "java/lang/invoke/VarHandle" ∧ (parseMethodDescriptor yX5_wagonAt.desc).map (fun d => d.parameters.length) = some 3 := by decide +kernel
/-! ===== Arrays.fill(int[], int) ===== -/
def tyFill (f : Nat → Int32) (n : Nat) (v : Int32) : Nat → Int32 := fun j => if j < n then v else f j
theorem tyFill_0 (f : Nat → Int32) (v : Int32) : tyFill f 0 v = f := funext fun j => if_neg (Nat.not_lt_zero j)
theorem tyFill_s (f : Nat → Int32) (i : Nat) (v : Int32) : upd (tyFill f i v) i v = tyFill f (i + 1) v := by
  funext j
  unfold upd tyFill
  by_cases h : j = i
  · rw [if_pos h, if_pos (by omega)]
  · rw [if_neg h]
    by_cases h2 : j < i
    · rw [if_pos h2, if_pos (by omega)]
    · rw [if_neg h2, if_neg (by omega)]
abbrev fillW (h0 : Nat) (cA : ClassId) (n : Nat) (f : Nat → Int32) : va_W := [(h0, .inl (cA, n, .inl f))]
set_option maxHeartbeats 4000000 in
set_option maxRecDepth 100000 in
theorem tyc_fill (l : Launch) (D : va_G) (h0 : Nat) (cA : ClassId) (n : Nat) (f : Nat → Int32) (v : Int32) (sz : Nat) (hn : n < 2 ^ 31) : Met l yJ7_fill_53178 wsJ7_fill_53178 ({ frames := 0, cells := 0, slots := 0, locals := 0 } : Room) (va_Pc [.ref h0, .int v] (fun U => U.heap.size = sz ∧ va_P D vwCl (fillW h0 cA n f) U.heap ∧ va_K D vwCl [(cA, .int)] U ∧ va_D (fun _ => True) (fillW h0 cA n f))) (va_Qv (fun (u : Nat → Int32) => u = tyFill f n v) (fun u t => va_P D vwCl (fillW h0 cA n u) t.heap ∧ va_K D vwCl [(cA, .int)] t ∧ va_D (va_A (fillW h0 cA n f) sz) (fillW h0 cA n u)) (va_A (fillW h0 cA n f) sz)) 0 0 (va_A (fillW h0 cA n f) sz) := by
  refine Met.ofW (cc := cJ7_fill_53178) (maxL := 4) (ret := none) (by decide) rfl ?_
  intro p e s m args below meth c s₁ B hml hv
  obtain ⟨rfl, hsz, hP, hK, hD0⟩ := hv
  have hx := B.exec
  have hb := B.bytes
  have hr := B.returns
  have hlocks := B.notSynchronized
  subst hsz
  have hD := hD0.self (sz := s.heap.size)
  generalize hAe : va_A (fillW h0 cA n f) s.heap.size = A at hD ⊢
  clear hAe hD0
  have hS : va_S A s.heap s.heap [] := va_S.rf
  have hl := lv_entry ([.ref h0, .int v]) (n := 4) (Nat.le_of_ble_eq_true rfl)
  rw [lg_entry_eq]
  generalize (lg_sl ([.ref h0, .int v]) ++ List.replicate (4 - (lg_sl ([.ref h0, .int v])).length) Slot.unset).toArray = ls at hl ⊢
  have hl : lv_has ls 4 [(0, .ref h0), (1, .int v)] := hl
  refine lv_iconst (v := 0) hx hb dJ7_fill_53178_0 (by decide) ?_
  refine lv_istore_n (lv' := [(2, .int 0), (0, .ref h0), (1, .int v)]) hx hb dJ7_fill_53178_1 rfl hl (by decide) rfl (fun ls hl => ?_)
  refine lv_aload_n hx hb dJ7_fill_53178_2 rfl (lv_at hl 1 rfl) ?_
  refine va_alen (v := nI n) hx hb hK hP 0 0 rfl rfl rfl dJ7_fill_53178_3 ?_
  refine lv_istore_n (lv' := [(3, .int (nI n)), (2, .int 0), (0, .ref h0), (1, .int v)]) hx hb dJ7_fill_53178_4 rfl hl (by decide) rfl (fun ls hl => ?_)
  have lp : ∀ (k i : Nat), i + k = n → ∀ (H : Heap) (locs : List Loc) (ls : Array Slot), va_P D vwCl (fillW h0 cA n (tyFill f i v)) H → va_D A (fillW h0 cA n (tyFill f i v)) → va_S A s.heap H locs → lv_has ls 4 [(0, .ref h0), (1, .int v), (2, .int (nI i)), (3, .int (nI n))] → W p l e (headSpec wsJ7_fill_53178 ({ frames := 0, cells := 0, slots := 0, locals := 0 } : Room)).room s m #[.ref h0, .int v] below meth c H locs 0 0 (MQ below (va_Qv (fun (u : Nat → Int32) => u = tyFill f n v) (fun u t => va_P D vwCl (fillW h0 cA n u) t.heap ∧ va_K D vwCl [(cA, .int)] t ∧ va_D A (fillW h0 cA n u)) A) #[.ref h0, .int v] s 0 0 A) (F0 m 5 ls []) := by
    intro k
    induction k with
    | zero =>
      intro i hi H locs ls hP hD hS hl
      obtain rfl : i = n := by omega
      refine lv_iload_n hx hb dJ7_fill_53178_5 rfl (lv_at hl 2 rfl) ?_
      refine lv_iload_n hx hb dJ7_fill_53178_6 rfl (lv_at hl 3 rfl) ?_
      refine lv_icmp_ge (tgt := 20) hx hb dJ7_fill_53178_7 (by decide) (fun _ => ?_) (fun c9 => absurd (nI_le (Nat.le_refl i) hn) c9)
      exact W.vret hx hb hr (fun t ht hW => ⟨⟨_, rfl, rfl, by rw [ht]; exact hP, va_K.moved hW.alike hK, hD⟩, hS.F ht⟩) hS.2.2 dJ7_fill_53178_20 hlocks
    | succ k ih =>
      intro i hi H locs ls hP hD hS hl
      have hlt : i < n := by omega
      refine lv_iload_n hx hb dJ7_fill_53178_5 rfl (lv_at hl 2 rfl) ?_
      refine lv_iload_n hx hb dJ7_fill_53178_6 rfl (lv_at hl 3 rfl) ?_
      refine lv_icmp_ge (tgt := 20) hx hb dJ7_fill_53178_7 (by decide) (fun c9 => absurd c9 (nI_ge hlt hn)) (fun _ => ?_)
      refine lv_aload_n hx hb dJ7_fill_53178_10 rfl (lv_at hl 0 rfl) ?_
      refine lv_iload_n hx hb dJ7_fill_53178_11 rfl (lv_at hl 2 rfl) ?_
      refine lv_iload_n hx hb dJ7_fill_53178_12 rfl (lv_at hl 1 rfl) ?_
      refine va_iast hx hb hK hP hD hS 0 0 rfl rfl (vp_in_nI hlt hn) dJ7_fill_53178_13 (fun H locs hP hD hS => ?_)
      rw [nI_clamp (show i < 2 ^ 31 by omega), tyFill_s] at hP hD
      refine lv_iinc (v := nI (i + 1)) (lv' := [(2, .int (nI (i + 1))), (0, .ref h0), (1, .int v), (3, .int (nI n))]) hx hb dJ7_fill_53178_14 hl (k := 2) rfl (nI_1 i) (by decide) rfl (fun ls hl => ?_)
      refine lv_goto (tgt := 5) hx hb dJ7_fill_53178_17 (by decide) ?_
      exact ih (i + 1) (by omega) _ _ _ hP hD hS (lv_sub hl [1, 2, 0, 3] rfl)
  exact lp n 0 (by omega) _ _ _ (by rw [tyFill_0]; exact hP) (by rw [tyFill_0]; exact hD) hS (lv_sub hl [2, 3, 1, 0] rfl)
theorem hd_fill : yJ7_fill_53178.cls ≠ "java/lang/invoke/MethodHandle" ∧ yJ7_fill_53178.cls ≠ "java/lang/invoke/VarHandle" ∧ (parseMethodDescriptor yJ7_fill_53178.desc).map (fun d => d.parameters.length) = some 2 := by decide +kernel
section GF
variable {p : Program} {l : Launch} {e : Env} {R : Room} {s : State} {m : MethodId} {args : Array Value} {below : List Frame} {meth : Method} {c : Code} {H : Heap} {locs : List Loc} {Q : State → Prop}
variable {cc : ByteArray} {nL index : Nat} {Ts : List Cond} {own : String} {rest st0 : List Value} {pc : Nat} {ls : Array Slot} {D : va_G} {w : tyS → va_W} {tys : List (ClassId × FieldType)} {A : Nat → Prop} {σ τ : tyS}
theorem gw_fill {a q0 t0 n : Nat} {cA : ClassId} {x : Int32} (S : CallFix p m c cc nL s args Ts own) (cw : CallB R s args own index yJ7_fill_53178 cJ7_fill_53178 4 none wsJ7_fill_53178 ({ frames := 0, cells := 0, slots := 0, locals := 0 } : Room) 0 0 2 ∧ (Cond.static yJ7_fill_53178).before args s = true)
    (hK : va_K D vwCl tys s) (hP : va_P D vwCl (w σ) H) (hD : va_D A (w σ)) (hS : va_S A s.heap H locs) (hA : ∀ q, s.heap.size ≤ q → A q) (ha : (w σ)[q0]? = some (a, .inl (cA, n, .inl (σ.1 q0)))) (ht : tys[t0]? = some (cA, .int)) (hset : ∀ f, (w σ).set q0 (a, .inl (cA, n, .inl f)) = w (sA σ q0 f)) (hn : n < 2 ^ 31)
    (hsize : ls.size = nL) (hst : st0 = .int x :: .ref a :: rest) (hW : (rest.map fun v => v.category).sum ≤ 8) (hdg : decode cc pc = .ok (.invokestatic index, 3)) (hτ : τ = sA σ q0 (tyFill (σ.1 q0) n x))
    (kk : ∀ (H1 : Heap) (locs1 : List Loc), va_P D vwCl (w τ) H1 → va_D A (w τ) → va_S A s.heap H1 locs1 → W p l e R s m args below meth c H1 locs1 0 0 Q (F0 m (pc + 3) ls rest)) : W p l e R s m args below meth c H locs 0 0 Q (F0 m pc ls st0) := by
  subst hst
  have hPc : va_P D vwCl (fillW a cA n (σ.1 q0)) H := hP.sub [q0] (by simp [ha])
  have hDc : va_D A (fillW a cA n (σ.1 q0)) := hD.sub [q0] rfl (by simp [ha])
  have hKc : va_K D vwCl [(cA, FieldType.int)] s := hK.sub [t0] (by simp [ht])
  have hF := gFree hDc hS hA
  refine va_callv (va_runS (As := [.ref a, .int x]) (rest := rest) S (tyc_fill l D a cA n (σ.1 q0) x H.size hn) cw ⟨fun a U g mk h => ⟨h.1, h.2.1, h.2.2.1, va_K.moved (u := U) (U := U.calling g mk a) (Vm.Alike.refl U.vm) h.2.2.2.1, h.2.2.2.2⟩, fun U hU hWm => ⟨rfl, by rw [hU], by rw [hU]; exact hPc, va_K.moved hWm.alike hKc, hDc.weaken (fun _ _ _ _ => trivial)⟩⟩ rfl rfl hsize rfl (lv_room hW) hdg ⟨Nat.zero_le _, Nat.zero_le _⟩) hS (fun q _ h => hF q h) hF (fun u t H1 locs1 ht2 hvm hw hB hz1 hk1 hS1 => ?_)
  subst hw
  obtain ⟨hP1, hK1, hD1⟩ := hB
  rw [ht2] at hP1
  have hset2 := hset (tyFill (σ.1 q0) n x)
  rw [← hτ] at hset2
  have hl := (List.getElem?_eq_some_iff.mp ha).1
  refine kk H1 locs1 ?_ ?_ hS1
  · rw [← hset2]
    intro k q hk
    by_cases hkq : k = q0
    · subst hkq
      rw [List.getElem?_set_self hl] at hk
      cases hk
      exact hP1 0 _ rfl
    · rw [List.getElem?_set_ne (Ne.symm hkq)] at hk
      have hlt := (hP k q hk).lt
      refine (hP k q hk).kept (hk1 q.1 hlt ?_)
      rintro (⟨j, e9, hj⟩ | hj)
      · have hj0 : j < 1 := (List.getElem?_eq_some_iff.mp hj).1
        obtain rfl : j = 0 := by omega
        have hq : q.1 = a := by cases hj; rfl
        exact hkq (hD.1 k q0 q _ hk ha hq)
      · omega
  · rw [← hset2]
    exact hD.set ha
end GF
