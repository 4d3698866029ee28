/-! ===== the pure part: what holds between the class and the reference ===== -/
def dis (as cs : List Nat) : Bool := as.all (fun a => !cs.contains a)
theorem dis_not {as cs : List Nat} (h : dis as cs = true) {a : Nat} (ha : a ∈ cs) : a ∉ as := by
  intro h2
  have h3 := List.all_eq_true.mp h a h2
  simp only [Bool.not_eq_true', List.contains_eq_mem, decide_eq_false_iff_not] at h3
  exact h3 ha
theorem Fr.ad {as vs cs : List Nat} {σ τ : tyS} (h : Fr as vs σ τ) (d : dis as cs = true) {a : Nat} (ha : a ∈ cs) : τ.1 a = σ.1 a := h.1 a (dis_not d ha)
theorem Fr.vd {as vs cs : List Nat} {σ τ : tyS} (h : Fr as vs σ τ) (d : dis vs cs = true) {a : Nat} (ha : a ∈ cs) : τ.2 a = σ.2 a := h.2 a (dis_not d ha)
/-- wagons, rows, trains, history -/
abbrev Gy (σ μ : tyS) (L : Nat → List Nat) (n T h : Nat) : Prop := (Yd σ L h) ∧ (Pl L n) ∧ (Wh (μ.1 1) L) ∧ (Rows (μ.1 4) (μ.1 5) 15 L) ∧ (n ≤ 30) ∧ (σ.2 0 = nI n) ∧ (μ.2 2 = nI n) ∧ (T ≤ 40) ∧ (σ.2 1 = nI T) ∧ (μ.2 6 = nI T) ∧ (σ.1 31 = μ.1 20) ∧ (∀ t, t < T → ∃ y, y < 3 ∧ μ.1 20 t = nI y) ∧ (∀ r, 15 + T ≤ r → r < 55 → L r = []) ∧ (∀ t, t < T → (L (15 + t) = [] ∧ μ.1 21 t = nI 1) ∨ (L (15 + t) ≠ [] ∧ μ.1 21 t = nI 0 ∧ μ.1 22 t = nI (L (15 + t)).length ∧ ∀ i x, (L (15 + t))[i]? = some x → μ.1 23 (6 * t + i) = nI x)) ∧ (∀ t, T ≤ t → t < 40 → μ.1 21 t = nI 0)
theorem Gy.yd {σ μ : tyS} {L : Nat → List Nat} {n T h : Nat} (g9 : Gy σ μ L n T h) : Yd σ L h := (And.left g9)
theorem Gy.pl {σ μ : tyS} {L : Nat → List Nat} {n T h : Nat} (g9 : Gy σ μ L n T h) : Pl L n := (And.left (And.right g9))
theorem Gy.wh {σ μ : tyS} {L : Nat → List Nat} {n T h : Nat} (g9 : Gy σ μ L n T h) : Wh (μ.1 1) L := (And.left (And.right (And.right g9)))
theorem Gy.mr {σ μ : tyS} {L : Nat → List Nat} {n T h : Nat} (g9 : Gy σ μ L n T h) : Rows (μ.1 4) (μ.1 5) 15 L := (And.left (And.right (And.right (And.right g9))))
theorem Gy.n30 {σ μ : tyS} {L : Nat → List Nat} {n T h : Nat} (g9 : Gy σ μ L n T h) : n ≤ 30 := (And.left (And.right (And.right (And.right (And.right g9)))))
theorem Gy.sn {σ μ : tyS} {L : Nat → List Nat} {n T h : Nat} (g9 : Gy σ μ L n T h) : σ.2 0 = nI n := (And.left (And.right (And.right (And.right (And.right (And.right g9))))))
theorem Gy.mn {σ μ : tyS} {L : Nat → List Nat} {n T h : Nat} (g9 : Gy σ μ L n T h) : μ.2 2 = nI n := (And.left (And.right (And.right (And.right (And.right (And.right (And.right g9)))))))
theorem Gy.T40 {σ μ : tyS} {L : Nat → List Nat} {n T h : Nat} (g9 : Gy σ μ L n T h) : T ≤ 40 := (And.left (And.right (And.right (And.right (And.right (And.right (And.right (And.right g9))))))))
theorem Gy.sT {σ μ : tyS} {L : Nat → List Nat} {n T h : Nat} (g9 : Gy σ μ L n T h) : σ.2 1 = nI T := (And.left (And.right (And.right (And.right (And.right (And.right (And.right (And.right (And.right g9)))))))))
theorem Gy.mT {σ μ : tyS} {L : Nat → List Nat} {n T h : Nat} (g9 : Gy σ μ L n T h) : μ.2 6 = nI T := (And.left (And.right (And.right (And.right (And.right (And.right (And.right (And.right (And.right (And.right g9))))))))))
theorem Gy.dE {σ μ : tyS} {L : Nat → List Nat} {n T h : Nat} (g9 : Gy σ μ L n T h) : σ.1 31 = μ.1 20 := (And.left (And.right (And.right (And.right (And.right (And.right (And.right (And.right (And.right (And.right (And.right g9)))))))))))
theorem Gy.dst {σ μ : tyS} {L : Nat → List Nat} {n T h : Nat} (g9 : Gy σ μ L n T h) : ∀ t, t < T → ∃ y, y < 3 ∧ μ.1 20 t = nI y := (And.left (And.right (And.right (And.right (And.right (And.right (And.right (And.right (And.right (And.right (And.right (And.right g9))))))))))))
theorem Gy.un {σ μ : tyS} {L : Nat → List Nat} {n T h : Nat} (g9 : Gy σ μ L n T h) : ∀ r, 15 + T ≤ r → r < 55 → L r = [] := (And.left (And.right (And.right (And.right (And.right (And.right (And.right (And.right (And.right (And.right (And.right (And.right (And.right g9)))))))))))))
theorem Gy.arr {σ μ : tyS} {L : Nat → List Nat} {n T h : Nat} (g9 : Gy σ μ L n T h) : ∀ t, t < T → (L (15 + t) = [] ∧ μ.1 21 t = nI 1) ∨ (L (15 + t) ≠ [] ∧ μ.1 21 t = nI 0 ∧ μ.1 22 t = nI (L (15 + t)).length ∧ ∀ i x, (L (15 + t))[i]? = some x → μ.1 23 (6 * t + i) = nI x) := (And.left (And.right (And.right (And.right (And.right (And.right (And.right (And.right (And.right (And.right (And.right (And.right (And.right (And.right g9))))))))))))))
theorem Gy.arN {σ μ : tyS} {L : Nat → List Nat} {n T h : Nat} (g9 : Gy σ μ L n T h) : ∀ t, T ≤ t → t < 40 → μ.1 21 t = nI 0 := (And.right (And.right (And.right (And.right (And.right (And.right (And.right (And.right (And.right (And.right (And.right (And.right (And.right (And.right g9))))))))))))))
abbrev cyS : List Nat := [6, 7, 10, 11, 12, 31]
abbrev cyV : List Nat := [0, 1, 4]
abbrev cyM : List Nat := [1, 4, 5, 20, 21, 22, 23]
abbrev cyU : List Nat := [2, 6]
theorem Gy.fr {σ μ σ' μ' : tyS} {L : Nat → List Nat} {n T h : Nat} {as vs bs us : List Nat} (g : Gy σ μ L n T h) (f : Fr as vs σ σ') (f2 : Fr bs us μ μ') (d1 : dis as cyS = true := by decide) (d2 : dis vs cyV = true := by decide) (d3 : dis bs cyM = true := by decide) (d4 : dis us cyU = true := by decide) : Gy σ' μ' L n T h := by
  refine ⟨?_, ?_, ?_, ?_, ?_, ?_, ?_, ?_, ?_, ?_, ?_, ?_, ?_, ?_, ?_⟩
  · refine ⟨?_, ?_, ?_⟩
    · rw [f.ad d1 (a := 6) (by decide), f.ad d1 (a := 7) (by decide)]; exact g.yd.rows
    · rw [f.vd d2 (a := 4) (by decide)]; exact g.yd.hs
    · rw [f.ad d1 (a := 10) (by decide), f.ad d1 (a := 11) (by decide), f.ad d1 (a := 12) (by decide)]; exact g.yd.his
  · exact g.pl
  · rw [f2.ad d3 (a := 1) (by decide)]; exact g.wh
  · rw [f2.ad d3 (a := 4) (by decide), f2.ad d3 (a := 5) (by decide)]; exact g.mr
  · exact g.n30
  · rw [f.vd d2 (a := 0) (by decide)]; exact g.sn
  · rw [f2.vd d4 (a := 2) (by decide)]; exact g.mn
  · exact g.T40
  · rw [f.vd d2 (a := 1) (by decide)]; exact g.sT
  · rw [f2.vd d4 (a := 6) (by decide)]; exact g.mT
  · rw [f.ad d1 (a := 31) (by decide), f2.ad d3 (a := 20) (by decide)]; exact g.dE
  · rw [f2.ad d3 (a := 20) (by decide)]; exact g.dst
  · exact g.un
  · rw [f2.ad d3 (a := 21) (by decide), f2.ad d3 (a := 22) (by decide), f2.ad d3 (a := 23) (by decide)]; exact g.arr
  · rw [f2.ad d3 (a := 21) (by decide)]; exact g.arN
/-- what wagons carried and what may follow what -/
abbrev Gc (σ μ : tyS) (n : Nat) : Prop := (∀ w, w < n → σ.1 29 w = μ.1 2 w ∧ (μ.1 2 w = nM ∨ ∃ g, g < 4 ∧ μ.1 2 w = nI g)) ∧ (∀ w, n ≤ w → w < 30 → σ.1 29 w = nM) ∧ (∀ a, a < 4 → ∃ f, f < 16 ∧ μ.1 6 a = nI f ∧ ∀ b, b < 4 → σ.1 30 (4 * a + b) = nI ((f >>> b) % 2))
theorem Gc.car {σ μ : tyS} {n : Nat} (g9 : Gc σ μ n) : ∀ w, w < n → σ.1 29 w = μ.1 2 w ∧ (μ.1 2 w = nM ∨ ∃ g, g < 4 ∧ μ.1 2 w = nI g) := (And.left g9)
theorem Gc.carN {σ μ : tyS} {n : Nat} (g9 : Gc σ μ n) : ∀ w, n ≤ w → w < 30 → σ.1 29 w = nM := (And.left (And.right g9))
theorem Gc.fol {σ μ : tyS} {n : Nat} (g9 : Gc σ μ n) : ∀ a, a < 4 → ∃ f, f < 16 ∧ μ.1 6 a = nI f ∧ ∀ b, b < 4 → σ.1 30 (4 * a + b) = nI ((f >>> b) % 2) := (And.right (And.right g9))
abbrev ccS : List Nat := [29, 30]
abbrev ccM : List Nat := [2, 6]
theorem Gc.fr {σ μ σ' μ' : tyS} {n : Nat} {as vs bs us : List Nat} (g : Gc σ μ n) (f : Fr as vs σ σ') (f2 : Fr bs us μ μ') (d1 : dis as ccS = true := by decide) (d3 : dis bs ccM = true := by decide) : Gc σ' μ' n := by
  refine ⟨?_, ?_, ?_⟩
  · rw [f.ad d1 (a := 29) (by decide), f2.ad d3 (a := 2) (by decide)]; exact g.car
  · rw [f.ad d1 (a := 29) (by decide)]; exact g.carN
  · rw [f.ad d1 (a := 30) (by decide), f2.ad d3 (a := 6) (by decide)]; exact g.fol
/-- bookings -/
abbrev Gb (σ μ : tyS) (B : Nat → List Nat) (n m : Nat) : Prop := (σ.2 5 = nI m) ∧ (μ.2 5 = nI m) ∧ (m ≤ 40) ∧ (σ.1 13 = μ.1 15) ∧ (σ.1 14 = μ.1 16) ∧ (σ.1 15 = μ.1 14) ∧ (σ.1 16 = μ.1 13) ∧ (σ.1 17 = μ.1 17) ∧ (σ.1 18 = μ.1 18) ∧ (σ.1 19 = μ.1 19) ∧ (∀ b, b < m → ∃ g, g < 4 ∧ μ.1 14 b = nI g) ∧ (∀ b, b < m → (B b).length ≤ 30 ∧ μ.1 18 b = nI (B b).length ∧ (∀ i x, (B b)[i]? = some x → μ.1 19 (30 * b + i) = nI x) ∧ (B b).Nodup ∧ ∀ w ∈ B b, w < n) ∧ (∀ b, m ≤ b → b < 40 → μ.1 18 b = nI 0) ∧ (∀ w, w < n → (μ.1 3 w = nM ∧ σ.1 20 w = nM) ∨ ∃ b, b < m ∧ μ.1 3 w = nI b ∧ w ∈ B b ∧ ((4 ≤ μ.1 13 b ∧ σ.1 20 w = nM) ∨ (¬ 4 ≤ μ.1 13 b ∧ σ.1 20 w = nI b))) ∧ (∀ b, b < m → ¬ 4 ≤ μ.1 13 b → ∀ w ∈ B b, μ.1 3 w = nI b) ∧ (∀ w, n ≤ w → w < 30 → σ.1 20 w = nM)
theorem Gb.sm {σ μ : tyS} {B : Nat → List Nat} {n m : Nat} (g9 : Gb σ μ B n m) : σ.2 5 = nI m := (And.left g9)
theorem Gb.mm {σ μ : tyS} {B : Nat → List Nat} {n m : Nat} (g9 : Gb σ μ B n m) : μ.2 5 = nI m := (And.left (And.right g9))
theorem Gb.m40 {σ μ : tyS} {B : Nat → List Nat} {n m : Nat} (g9 : Gb σ μ B n m) : m ≤ 40 := (And.left (And.right (And.right g9)))
theorem Gb.e13 {σ μ : tyS} {B : Nat → List Nat} {n m : Nat} (g9 : Gb σ μ B n m) : σ.1 13 = μ.1 15 := (And.left (And.right (And.right (And.right g9))))
theorem Gb.e14 {σ μ : tyS} {B : Nat → List Nat} {n m : Nat} (g9 : Gb σ μ B n m) : σ.1 14 = μ.1 16 := (And.left (And.right (And.right (And.right (And.right g9)))))
theorem Gb.e15 {σ μ : tyS} {B : Nat → List Nat} {n m : Nat} (g9 : Gb σ μ B n m) : σ.1 15 = μ.1 14 := (And.left (And.right (And.right (And.right (And.right (And.right g9))))))
theorem Gb.e16 {σ μ : tyS} {B : Nat → List Nat} {n m : Nat} (g9 : Gb σ μ B n m) : σ.1 16 = μ.1 13 := (And.left (And.right (And.right (And.right (And.right (And.right (And.right g9)))))))
theorem Gb.e17 {σ μ : tyS} {B : Nat → List Nat} {n m : Nat} (g9 : Gb σ μ B n m) : σ.1 17 = μ.1 17 := (And.left (And.right (And.right (And.right (And.right (And.right (And.right (And.right g9))))))))
theorem Gb.e18 {σ μ : tyS} {B : Nat → List Nat} {n m : Nat} (g9 : Gb σ μ B n m) : σ.1 18 = μ.1 18 := (And.left (And.right (And.right (And.right (And.right (And.right (And.right (And.right (And.right g9)))))))))
theorem Gb.e19 {σ μ : tyS} {B : Nat → List Nat} {n m : Nat} (g9 : Gb σ μ B n m) : σ.1 19 = μ.1 19 := (And.left (And.right (And.right (And.right (And.right (And.right (And.right (And.right (And.right (And.right g9))))))))))
theorem Gb.gr {σ μ : tyS} {B : Nat → List Nat} {n m : Nat} (g9 : Gb σ μ B n m) : ∀ b, b < m → ∃ g, g < 4 ∧ μ.1 14 b = nI g := (And.left (And.right (And.right (And.right (And.right (And.right (And.right (And.right (And.right (And.right (And.right g9)))))))))))
theorem Gb.bl {σ μ : tyS} {B : Nat → List Nat} {n m : Nat} (g9 : Gb σ μ B n m) : ∀ b, b < m → (B b).length ≤ 30 ∧ μ.1 18 b = nI (B b).length ∧ (∀ i x, (B b)[i]? = some x → μ.1 19 (30 * b + i) = nI x) ∧ (B b).Nodup ∧ ∀ w ∈ B b, w < n := (And.left (And.right (And.right (And.right (And.right (And.right (And.right (And.right (And.right (And.right (And.right (And.right g9))))))))))))
theorem Gb.blN {σ μ : tyS} {B : Nat → List Nat} {n m : Nat} (g9 : Gb σ μ B n m) : ∀ b, m ≤ b → b < 40 → μ.1 18 b = nI 0 := (And.left (And.right (And.right (And.right (And.right (And.right (And.right (And.right (And.right (And.right (And.right (And.right (And.right g9)))))))))))))
theorem Gb.bk {σ μ : tyS} {B : Nat → List Nat} {n m : Nat} (g9 : Gb σ μ B n m) : ∀ w, w < n → (μ.1 3 w = nM ∧ σ.1 20 w = nM) ∨ ∃ b, b < m ∧ μ.1 3 w = nI b ∧ w ∈ B b ∧ ((4 ≤ μ.1 13 b ∧ σ.1 20 w = nM) ∨ (¬ 4 ≤ μ.1 13 b ∧ σ.1 20 w = nI b)) := (And.left (And.right (And.right (And.right (And.right (And.right (And.right (And.right (And.right (And.right (And.right (And.right (And.right (And.right g9))))))))))))))
theorem Gb.act {σ μ : tyS} {B : Nat → List Nat} {n m : Nat} (g9 : Gb σ μ B n m) : ∀ b, b < m → ¬ 4 ≤ μ.1 13 b → ∀ w ∈ B b, μ.1 3 w = nI b := (And.left (And.right (And.right (And.right (And.right (And.right (And.right (And.right (And.right (And.right (And.right (And.right (And.right (And.right (And.right g9)))))))))))))))
theorem Gb.bkN {σ μ : tyS} {B : Nat → List Nat} {n m : Nat} (g9 : Gb σ μ B n m) : ∀ w, n ≤ w → w < 30 → σ.1 20 w = nM := (And.right (And.right (And.right (And.right (And.right (And.right (And.right (And.right (And.right (And.right (And.right (And.right (And.right (And.right (And.right g9)))))))))))))))
abbrev cbS : List Nat := [13, 14, 15, 16, 17, 18, 19, 20]
abbrev cbM : List Nat := [3, 13, 14, 15, 16, 17, 18, 19]
theorem Gb.fr {σ μ σ' μ' : tyS} {B : Nat → List Nat} {n m : Nat} {as vs bs us : List Nat} (g : Gb σ μ B n m) (f : Fr as vs σ σ') (f2 : Fr bs us μ μ') (d1 : dis as cbS = true := by decide) (d2 : dis vs [5] = true := by decide) (d3 : dis bs cbM = true := by decide) (d4 : dis us [5] = true := by decide) : Gb σ' μ' B n m := by
  refine ⟨?_, ?_, ?_, ?_, ?_, ?_, ?_, ?_, ?_, ?_, ?_, ?_, ?_, ?_, ?_, ?_⟩
  · rw [f.vd d2 (a := 5) (by decide)]; exact g.sm
  · rw [f2.vd d4 (a := 5) (by decide)]; exact g.mm
  · exact g.m40
  · rw [f.ad d1 (a := 13) (by decide), f2.ad d3 (a := 15) (by decide)]; exact g.e13
  · rw [f.ad d1 (a := 14) (by decide), f2.ad d3 (a := 16) (by decide)]; exact g.e14
  · rw [f.ad d1 (a := 15) (by decide), f2.ad d3 (a := 14) (by decide)]; exact g.e15
  · rw [f.ad d1 (a := 16) (by decide), f2.ad d3 (a := 13) (by decide)]; exact g.e16
  · rw [f.ad d1 (a := 17) (by decide), f2.ad d3 (a := 17) (by decide)]; exact g.e17
  · rw [f.ad d1 (a := 18) (by decide), f2.ad d3 (a := 18) (by decide)]; exact g.e18
  · rw [f.ad d1 (a := 19) (by decide), f2.ad d3 (a := 19) (by decide)]; exact g.e19
  · rw [f2.ad d3 (a := 14) (by decide)]; exact g.gr
  · rw [f2.ad d3 (a := 18) (by decide), f2.ad d3 (a := 19) (by decide)]; exact g.bl
  · rw [f2.ad d3 (a := 18) (by decide)]; exact g.blN
  · rw [f.ad d1 (a := 20) (by decide), f2.ad d3 (a := 3) (by decide), f2.ad d3 (a := 13) (by decide)]; exact g.bk
  · rw [f2.ad d3 (a := 3) (by decide), f2.ad d3 (a := 13) (by decide)]; exact g.act
  · rw [f.ad d1 (a := 20) (by decide)]; exact g.bkN
/-- calls, trunks and lines -/
abbrev Gk (σ μ : tyS) (m c : Nat) : Prop := (σ.2 6 = nI c) ∧ (μ.2 3 = nI c) ∧ (c ≤ 60) ∧ (σ.1 21 = μ.1 9) ∧ (σ.1 22 = μ.1 10) ∧ (σ.1 23 = μ.1 12) ∧ (σ.1 27 = μ.1 7) ∧ (σ.1 28 = μ.1 8) ∧ (∀ i, i < c → ∃ q, q < 6 ∧ μ.1 9 i = nI q) ∧ (∀ i, i < c → ∃ y, y < 3 ∧ μ.1 10 i = nI y) ∧ (∀ i, i < c → μ.1 12 i = nM ∨ ∃ b, b < m ∧ μ.1 12 i = nI b) ∧ (∀ i, i < c → μ.1 11 i = nI 1 → ∀ b, b < m → μ.1 12 i = nI b → μ.1 13 b = nI 0 ∧ μ.1 15 b = μ.1 9 i) ∧ (∀ i, i < c → μ.1 11 i = nI 0 ∨ μ.1 11 i = nI 1) ∧ (∀ q, q < 6 → σ.1 26 q = nM ∨ ∃ i, i < c ∧ σ.1 26 q = nI i ∧ μ.1 9 i = nI q ∧ μ.1 11 i = nI 1) ∧ (∀ i, i < c → μ.1 11 i = nI 1 → ∀ q, q < 6 → μ.1 9 i = nI q → σ.1 26 q = nI i) ∧ (∀ s, s < 6 → μ.1 7 s = nM ∨ μ.1 7 s = nN ∨ ∃ i, i < c ∧ μ.1 7 s = nI i ∧ μ.1 11 i = nI 1) ∧ (∀ i, i < c → μ.1 11 i = nI 1 → (σ.1 24 i = nM ∨ ∃ s, s < 6 ∧ σ.1 24 i = nI s) ∧ (σ.1 25 i = nM ∨ ∃ s, s < 6 ∧ σ.1 25 i = nI s) ∧ (σ.1 24 i = nM ∨ σ.1 24 i ≠ σ.1 25 i) ∧ ∀ s, s < 6 → (μ.1 7 s = nI i ↔ (σ.1 24 i = nI s ∨ σ.1 25 i = nI s)))
theorem Gk.sc {σ μ : tyS} {m c : Nat} (g9 : Gk σ μ m c) : σ.2 6 = nI c := (And.left g9)
theorem Gk.mc {σ μ : tyS} {m c : Nat} (g9 : Gk σ μ m c) : μ.2 3 = nI c := (And.left (And.right g9))
theorem Gk.c60 {σ μ : tyS} {m c : Nat} (g9 : Gk σ μ m c) : c ≤ 60 := (And.left (And.right (And.right g9)))
theorem Gk.e21 {σ μ : tyS} {m c : Nat} (g9 : Gk σ μ m c) : σ.1 21 = μ.1 9 := (And.left (And.right (And.right (And.right g9))))
theorem Gk.e22 {σ μ : tyS} {m c : Nat} (g9 : Gk σ μ m c) : σ.1 22 = μ.1 10 := (And.left (And.right (And.right (And.right (And.right g9)))))
theorem Gk.e23 {σ μ : tyS} {m c : Nat} (g9 : Gk σ μ m c) : σ.1 23 = μ.1 12 := (And.left (And.right (And.right (And.right (And.right (And.right g9))))))
theorem Gk.e27 {σ μ : tyS} {m c : Nat} (g9 : Gk σ μ m c) : σ.1 27 = μ.1 7 := (And.left (And.right (And.right (And.right (And.right (And.right (And.right g9)))))))
theorem Gk.e28 {σ μ : tyS} {m c : Nat} (g9 : Gk σ μ m c) : σ.1 28 = μ.1 8 := (And.left (And.right (And.right (And.right (And.right (And.right (And.right (And.right g9))))))))
theorem Gk.cu {σ μ : tyS} {m c : Nat} (g9 : Gk σ μ m c) : ∀ i, i < c → ∃ q, q < 6 ∧ μ.1 9 i = nI q := (And.left (And.right (And.right (And.right (And.right (And.right (And.right (And.right (And.right g9)))))))))
theorem Gk.ya {σ μ : tyS} {m c : Nat} (g9 : Gk σ μ m c) : ∀ i, i < c → ∃ y, y < 3 ∧ μ.1 10 i = nI y := (And.left (And.right (And.right (And.right (And.right (And.right (And.right (And.right (And.right (And.right g9))))))))))
theorem Gk.op {σ μ : tyS} {m c : Nat} (g9 : Gk σ μ m c) : ∀ i, i < c → μ.1 12 i = nM ∨ ∃ b, b < m ∧ μ.1 12 i = nI b := (And.left (And.right (And.right (And.right (And.right (And.right (And.right (And.right (And.right (And.right (And.right g9)))))))))))
theorem Gk.opo {σ μ : tyS} {m c : Nat} (g9 : Gk σ μ m c) : ∀ i, i < c → μ.1 11 i = nI 1 → ∀ b, b < m → μ.1 12 i = nI b → μ.1 13 b = nI 0 ∧ μ.1 15 b = μ.1 9 i := (And.left (And.right (And.right (And.right (And.right (And.right (And.right (And.right (And.right (And.right (And.right (And.right g9))))))))))))
theorem Gk.go {σ μ : tyS} {m c : Nat} (g9 : Gk σ μ m c) : ∀ i, i < c → μ.1 11 i = nI 0 ∨ μ.1 11 i = nI 1 := (And.left (And.right (And.right (And.right (And.right (And.right (And.right (And.right (And.right (And.right (And.right (And.right (And.right g9)))))))))))))
theorem Gk.on1 {σ μ : tyS} {m c : Nat} (g9 : Gk σ μ m c) : ∀ q, q < 6 → σ.1 26 q = nM ∨ ∃ i, i < c ∧ σ.1 26 q = nI i ∧ μ.1 9 i = nI q ∧ μ.1 11 i = nI 1 := (And.left (And.right (And.right (And.right (And.right (And.right (And.right (And.right (And.right (And.right (And.right (And.right (And.right (And.right g9))))))))))))))
theorem Gk.on2 {σ μ : tyS} {m c : Nat} (g9 : Gk σ μ m c) : ∀ i, i < c → μ.1 11 i = nI 1 → ∀ q, q < 6 → μ.1 9 i = nI q → σ.1 26 q = nI i := (And.left (And.right (And.right (And.right (And.right (And.right (And.right (And.right (And.right (And.right (And.right (And.right (And.right (And.right (And.right g9)))))))))))))))
theorem Gk.tr1 {σ μ : tyS} {m c : Nat} (g9 : Gk σ μ m c) : ∀ s, s < 6 → μ.1 7 s = nM ∨ μ.1 7 s = nN ∨ ∃ i, i < c ∧ μ.1 7 s = nI i ∧ μ.1 11 i = nI 1 := (And.left (And.right (And.right (And.right (And.right (And.right (And.right (And.right (And.right (And.right (And.right (And.right (And.right (And.right (And.right (And.right g9))))))))))))))))
theorem Gk.tr2 {σ μ : tyS} {m c : Nat} (g9 : Gk σ μ m c) : ∀ i, i < c → μ.1 11 i = nI 1 → (σ.1 24 i = nM ∨ ∃ s, s < 6 ∧ σ.1 24 i = nI s) ∧ (σ.1 25 i = nM ∨ ∃ s, s < 6 ∧ σ.1 25 i = nI s) ∧ (σ.1 24 i = nM ∨ σ.1 24 i ≠ σ.1 25 i) ∧ ∀ s, s < 6 → (μ.1 7 s = nI i ↔ (σ.1 24 i = nI s ∨ σ.1 25 i = nI s)) := (And.right (And.right (And.right (And.right (And.right (And.right (And.right (And.right (And.right (And.right (And.right (And.right (And.right (And.right (And.right (And.right g9))))))))))))))))
abbrev ckS : List Nat := [21, 22, 23, 24, 25, 26, 27, 28]
abbrev ckM : List Nat := [7, 8, 9, 10, 11, 12, 13, 15]
theorem Gk.fr {σ μ σ' μ' : tyS} {m c : Nat} {as vs bs us : List Nat} (g : Gk σ μ m c) (f : Fr as vs σ σ') (f2 : Fr bs us μ μ') (d1 : dis as ckS = true := by decide) (d2 : dis vs [6] = true := by decide) (d3 : dis bs ckM = true := by decide) (d4 : dis us [3] = true := by decide) : Gk σ' μ' m c := by
  refine ⟨?_, ?_, ?_, ?_, ?_, ?_, ?_, ?_, ?_, ?_, ?_, ?_, ?_, ?_, ?_, ?_, ?_⟩
  · rw [f.vd d2 (a := 6) (by decide)]; exact g.sc
  · rw [f2.vd d4 (a := 3) (by decide)]; exact g.mc
  · exact g.c60
  · rw [f.ad d1 (a := 21) (by decide), f2.ad d3 (a := 9) (by decide)]; exact g.e21
  · rw [f.ad d1 (a := 22) (by decide), f2.ad d3 (a := 10) (by decide)]; exact g.e22
  · rw [f.ad d1 (a := 23) (by decide), f2.ad d3 (a := 12) (by decide)]; exact g.e23
  · rw [f.ad d1 (a := 27) (by decide), f2.ad d3 (a := 7) (by decide)]; exact g.e27
  · rw [f.ad d1 (a := 28) (by decide), f2.ad d3 (a := 8) (by decide)]; exact g.e28
  · rw [f2.ad d3 (a := 9) (by decide)]; exact g.cu
  · rw [f2.ad d3 (a := 10) (by decide)]; exact g.ya
  · rw [f2.ad d3 (a := 12) (by decide)]; exact g.op
  · rw [f2.ad d3 (a := 11) (by decide), f2.ad d3 (a := 12) (by decide), f2.ad d3 (a := 13) (by decide), f2.ad d3 (a := 15) (by decide), f2.ad d3 (a := 9) (by decide)]; exact g.opo
  · rw [f2.ad d3 (a := 11) (by decide)]; exact g.go
  · rw [f.ad d1 (a := 26) (by decide), f2.ad d3 (a := 9) (by decide), f2.ad d3 (a := 11) (by decide)]; exact g.on1
  · rw [f.ad d1 (a := 26) (by decide), f2.ad d3 (a := 9) (by decide), f2.ad d3 (a := 11) (by decide)]; exact g.on2
  · rw [f2.ad d3 (a := 7) (by decide), f2.ad d3 (a := 11) (by decide)]; exact g.tr1
  · rw [f.ad d1 (a := 24) (by decide), f.ad d1 (a := 25) (by decide), f2.ad d3 (a := 7) (by decide), f2.ad d3 (a := 11) (by decide)]; exact g.tr2
/-- bookings on the way -/
def cnt34 (f : Nat → Int32) : Nat → Nat
  | 0 => 0
  | m + 1 => cnt34 f m + (if f m = nI 3 ∨ f m = nI 4 then 1 else 0)
abbrev Gt (μ : tyS) (L : Nat → List Nat) (T m : Nat) : Prop := (∀ r, 15 ≤ r → r < 55 → ∀ w ∈ L r, ∃ b, b < m ∧ μ.1 3 w = nI b ∧ (μ.1 13 b = nI 3 ∨ μ.1 13 b = nI 4)) ∧ (T ≤ cnt34 (μ.1 13) m)
theorem Gt.trip {μ : tyS} {L : Nat → List Nat} {T m : Nat} (g9 : Gt μ L T m) : ∀ r, 15 ≤ r → r < 55 → ∀ w ∈ L r, ∃ b, b < m ∧ μ.1 3 w = nI b ∧ (μ.1 13 b = nI 3 ∨ μ.1 13 b = nI 4) := (And.left g9)
theorem Gt.cnt {μ : tyS} {L : Nat → List Nat} {T m : Nat} (g9 : Gt μ L T m) : T ≤ cnt34 (μ.1 13) m := (And.right g9)
theorem Gt.fr {μ μ' : tyS} {L : Nat → List Nat} {T m : Nat} {bs us : List Nat} (g : Gt μ L T m) (f2 : Fr bs us μ μ') (d3 : dis bs [3, 13] = true := by decide) : Gt μ' L T m := by
  constructor
  · rw [f2.ad d3 (a := 3) (by decide), f2.ad d3 (a := 13) (by decide)]; exact g.trip
  · rw [f2.ad d3 (a := 13) (by decide)]; exact g.cnt
abbrev Gs (σ μ : tyS) : Prop := (σ.2 2 = μ.2 4) ∧ (σ.2 3 = μ.2 1)
theorem Gs.busy {σ μ : tyS} (g9 : Gs σ μ) : σ.2 2 = μ.2 4 := (And.left g9)
theorem Gs.now {σ μ : tyS} (g9 : Gs σ μ) : σ.2 3 = μ.2 1 := (And.right g9)
theorem Gs.fr {σ μ σ' μ' : tyS} {as vs bs us : List Nat} (g : Gs σ μ) (f : Fr as vs σ σ') (f2 : Fr bs us μ μ') (d2 : dis vs [2, 3] = true := by decide) (d4 : dis us [4, 1] = true := by decide) : Gs σ' μ' := by
  constructor
  · rw [f.vd d2 (a := 2) (by decide), f2.vd d4 (a := 4) (by decide)]; exact g.busy
  · rw [f.vd d2 (a := 3) (by decide), f2.vd d4 (a := 1) (by decide)]; exact g.now
abbrev InvD (k : Nat) (σ μ : tyS) (L B : Nat → List Nat) (n T h m c : Nat) : Prop := (h ≤ k) ∧ (Gy σ μ L n T h) ∧ (Gc σ μ n) ∧ (Gb σ μ B n m) ∧ (Gk σ μ m c) ∧ (Gt μ L T m) ∧ (Gs σ μ)
theorem InvD.hk {k : Nat} {σ μ : tyS} {L B : Nat → List Nat} {n T h m c : Nat} (g9 : InvD k σ μ L B n T h m c) : h ≤ k := (And.left g9)
theorem InvD.gy {k : Nat} {σ μ : tyS} {L B : Nat → List Nat} {n T h m c : Nat} (g9 : InvD k σ μ L B n T h m c) : Gy σ μ L n T h := (And.left (And.right g9))
theorem InvD.gc {k : Nat} {σ μ : tyS} {L B : Nat → List Nat} {n T h m c : Nat} (g9 : InvD k σ μ L B n T h m c) : Gc σ μ n := (And.left (And.right (And.right g9)))
theorem InvD.gb {k : Nat} {σ μ : tyS} {L B : Nat → List Nat} {n T h m c : Nat} (g9 : InvD k σ μ L B n T h m c) : Gb σ μ B n m := (And.left (And.right (And.right (And.right g9))))
theorem InvD.gk {k : Nat} {σ μ : tyS} {L B : Nat → List Nat} {n T h m c : Nat} (g9 : InvD k σ μ L B n T h m c) : Gk σ μ m c := (And.left (And.right (And.right (And.right (And.right g9)))))
theorem InvD.gt {k : Nat} {σ μ : tyS} {L B : Nat → List Nat} {n T h m c : Nat} (g9 : InvD k σ μ L B n T h m c) : Gt μ L T m := (And.left (And.right (And.right (And.right (And.right (And.right g9))))))
theorem InvD.gs {k : Nat} {σ μ : tyS} {L B : Nat → List Nat} {n T h m c : Nat} (g9 : InvD k σ μ L B n T h m c) : Gs σ μ := (And.right (And.right (And.right (And.right (And.right (And.right g9))))))
def Inv (k : Nat) (σ μ : tyS) : Prop := ∃ L B n T h m c, InvD k σ μ L B n T h m c
/-- what a call of the class and one of the reference have to do with one another: thrown() is the place in the throws clause, and where that is 0 the answers are the same -/
def Ag (codes : List Nat) (res : tyX) (v : Int32) (μ' : tyS) : Prop := ∃ kk, kOf codes res.1 = some kk ∧ μ'.2 0 = nI kk ∧ (kk = 0 → res.2.1 = v)
def AgV (codes : List Nat) (res : tyX) (μ' : tyS) : Prop := ∃ kk, kOf codes res.1 = some kk ∧ μ'.2 0 = nI kk
/-- nothing but thrown() and the replay's rows changed -/
theorem InvD.fr {k : Nat} {σ μ σ' μ' : tyS} {L B : Nat → List Nat} {n T h m c : Nat} (i : InvD k σ μ L B n T h m c) (f : Fr [8, 9] [] σ σ') (f2 : Fr [] [0] μ μ') : InvD (k + 1) σ' μ' L B n T h m c :=
  ⟨Nat.le_succ_of_le i.hk, i.gy.fr f f2, i.gc.fr f f2, i.gb.fr f f2, i.gk.fr f f2, i.gt.fr f2, i.gs.fr f f2⟩
theorem InvD.thr {k : Nat} {σ μ : tyS} {L B : Nat → List Nat} {n T h m c : Nat} (i : InvD k σ μ L B n T h m c) (x : Int32) : InvD (k + 1) σ (sV μ 0 x) L B n T h m c := i.fr (Fr.rf (as := [8, 9]) (vs := [])) Fr.sV
theorem InvD.inv {k : Nat} {σ μ : tyS} {L B : Nat → List Nat} {n T h m c : Nat} (i : InvD k σ μ L B n T h m c) : Inv k σ μ := ⟨L, B, n, T, h, m, c, i⟩
