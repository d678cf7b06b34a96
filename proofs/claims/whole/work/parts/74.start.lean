/-! the law's beginning keeps the relation -/
theorem m_lf : ∀ j, j < 12 → (upd (upd (upd (upd (upd (upd (upd (upd (upd (upd (upd (upd (fun _ => (0 : Int32)) (0 : Int32).toNatClampNeg (-1 : Int32)) (1 : Int32).toNatClampNeg (-1 : Int32)) (2 : Int32).toNatClampNeg (-1 : Int32)) (3 : Int32).toNatClampNeg (-1 : Int32)) (4 : Int32).toNatClampNeg (-1 : Int32)) (5 : Int32).toNatClampNeg (-1 : Int32)) (6 : Int32).toNatClampNeg (-1 : Int32)) (7 : Int32).toNatClampNeg (-1 : Int32)) (8 : Int32).toNatClampNeg (-1 : Int32)) (9 : Int32).toNatClampNeg (-1 : Int32)) (10 : Int32).toNatClampNeg (-1 : Int32)) (11 : Int32).toNatClampNeg (-1 : Int32)) j = (-1 : Int32) := by decide +kernel
theorem m_bo : ∀ j, j < 6 → (upd (upd (upd (upd (upd (upd (fun _ => (0 : Int32)) (0 : Int32).toNatClampNeg (1 : Int32)) (1 : Int32).toNatClampNeg (1 : Int32)) (2 : Int32).toNatClampNeg (1 : Int32)) (3 : Int32).toNatClampNeg (1 : Int32)) (4 : Int32).toNatClampNeg (1 : Int32)) (5 : Int32).toNatClampNeg (1 : Int32)) j = (1 : Int32) := by decide +kernel
theorem m_bo' : fa_fill (fun _ => (1 : Int32)) (fun _ => (0 : Int32)) 6 = (upd (upd (upd (upd (upd (upd (fun _ => (0 : Int32)) (0 : Int32).toNatClampNeg (1 : Int32)) (1 : Int32).toNatClampNeg (1 : Int32)) (2 : Int32).toNatClampNeg (1 : Int32)) (3 : Int32).toNatClampNeg (1 : Int32)) (4 : Int32).toNatClampNeg (1 : Int32)) (5 : Int32).toNatClampNeg (1 : Int32)) := by
  funext k
  by_cases h : k < 6
  · rw [fa_fill_in h, m_bo k h]
  · have e0 : (0 : Int32).toNatClampNeg = 0 := by decide
    have e1 : (1 : Int32).toNatClampNeg = 1 := by decide
    have e2 : (2 : Int32).toNatClampNeg = 2 := by decide
    have e3 : (3 : Int32).toNatClampNeg = 3 := by decide
    have e4 : (4 : Int32).toNatClampNeg = 4 := by decide
    have e5 : (5 : Int32).toNatClampNeg = 5 := by decide
    rw [fa_fill_out (by omega), e0, e1, e2, e3, e4, e5, pk_un (by omega), pk_un (by omega), pk_un (by omega), pk_un (by omega), pk_un (by omega), pk_un (by omega)]
theorem m_last : ∀ j, j < 12 → fa_fill (fun _ => (-1 : Int32)) (fun _ => (0 : Int32)) 12 j = (-1 : Int32) := fun j hj => fa_fill_in hj
theorem init_8 : f_X8_init = some ((-1 : Int32), (0 : Int32), fa_fill (fun _ => (1 : Int32)) (fun _ => (0 : Int32)) 6, (fun _ => (0 : Int32)), (fun _ => (0 : Int32)), (fun _ => (0 : Int32)), (fun _ => (0 : Int32)), (fun _ => (0 : Int32)), (0 : Int32), (0 : Int32), (fun _ => (0 : Int32)), (fun _ => (0 : Int32)), (fun _ => (0 : Int32)), (0 : Int32), (0 : Int32), (0 : Int32), (0 : Int32), (0 : Int32), (fun _ => (0 : Int32)), (fun _ => (0 : Int32)), c0 13 0, (fun _ => (0 : Int64)), (0 : Int32), (0 : Int32), (0 : Int32), (0 : Int32), (0 : Int32), (0 : Int32), (fun _ => (0 : Int32)), (0 : Int32), (fun _ => (0 : Int32)), (fun _ => (0 : Int32)), (fun _ => (0 : Int32)), (0 : Int32), (fun _ => (0 : Int32)), (fun _ => (0 : Int32)), (fun _ => (0 : Int32)), (0 : Int32), (fun _ => (0 : Int32)), (fun _ => (0 : Int32)), fa_fill (fun _ => (-1 : Int32)) (fun _ => (0 : Int32)) 12, (0 : Int32), (fun _ => (0 : Int32)), (fun _ => (0 : Int32)), (0 : Int32)) := by
  unfold f_X8_init f_X7_init f_X1_init f_X4_init f_X3_init f_X5_init
  rw [init_2, init_0, init_6]
  rfl
theorem init_rel : Init Rel := by
  refine ⟨_, _, init_8, rfl, ?_⟩
  refine ⟨⟨rfl, rfl⟩, ⟨rfl, rfl, rfl, 0, by omega, rfl⟩, ⟨rfl, rfl, init_PI⟩, ⟨rfl, rfl, rfl, rfl, ⟨fun i j _ _ => (b_0 j).trans (b_0 i).symm, fun i _ => b_0 i⟩, 0, by omega, rfl, fun j hj => by omega⟩, ⟨rfl, rfl, fun j hj => Or.inl ⟨rfl, m_last j hj, m_lf j hj, m_lf j hj⟩, 0, by omega, rfl, fun j hj => by omega⟩, ⟨m_bo', rfl, rfl, rfl, rfl, ?_, 0, by omega, rfl, fun s hs => by omega, rfl, fun _ _ => rfl⟩, ⟨rfl, rfl, 0, by omega, rfl, fun j hj => by omega⟩, ⟨0, by omega, rfl, rfl, fun j hj => by omega⟩⟩
  intro p hp
  show wi (fa_fill (fun _ => (1 : Int32)) (fun _ => (0 : Int32)) 6 p) 1 3 = true
  rw [fa_fill_in hp]
  decide
