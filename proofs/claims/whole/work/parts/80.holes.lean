theorem st_letter {T : Nat} {μ : Mem} {ν : MM} {x1 : Int32} (h : Rel T μ ν) : ∃ (μ' : Mem) (ν' : MM) (r : Int32), f_X3_letter μ x1 = some (μ', r) ∧ f_X4_letter ν x1 = some (ν', r) ∧ Rel (T + 1) μ' ν' := by
  sorry
theorem st_blank {T : Nat} {μ : Mem} {ν : MM} (h : Rel T μ ν) : ∃ (μ' : Mem) (ν' : MM) (r : Int32), f_X3_blank μ = some (μ', r) ∧ f_X4_blank ν = some (ν', r) ∧ Rel (T + 1) μ' ν' := by
  sorry
theorem st_fault {T : Nat} {μ : Mem} {ν : MM} (h : Rel T μ ν) : ∃ (ν' : MM) (r : Int32), f_X3_fault μ = some r ∧ f_X4_fault ν = some (ν', r) ∧ Rel (T + 1) μ ν' := by
  sorry
theorem st_ring {T : Nat} {μ : Mem} {ν : MM} (h : Rel T μ ν) : ∃ (μ' : Mem) (ν' : MM) (r : Int32), f_X3_ring μ = some (μ', r) ∧ f_X4_ring ν = some (ν', r) ∧ Rel (T + 1) μ' ν' := by
  sorry
theorem st_about {T : Nat} {μ : Mem} {ν : MM} {x1 x2 : Int32} (h : Rel T μ ν) : ∃ (r : Int32), f_X3_about μ x1 x2 = some r ∧ f_X4_about ν x1 x2 = some r ∧ Rel (T + 1) μ ν := by
  sorry
theorem st_as {T : Nat} {μ : Mem} {ν : MM} {x1 x2 : Int32} (h : Rel T μ ν) : ∃ (r : Int32), f_X3_as μ x1 x2 = some r ∧ f_X4_as ν x1 x2 = some r ∧ Rel (T + 1) μ ν := by
  sorry
theorem st_seat {T : Nat} {μ : Mem} {ν : MM} {x1 : Int32} (h : Rel T μ ν) : ∃ (r : Int32), f_X3_seat μ x1 = some r ∧ f_X4_seat ν x1 = some r ∧ Rel (T + 1) μ ν := by
  sorry
theorem st_exchange {T : Nat} {μ : Mem} {ν : MM} {x1 x2 : Int32} (h : Rel T μ ν) : ∃ (μ' : Mem) (ν' : MM) (r : Int32), f_X3_exchange μ x1 x2 = some (μ', r) ∧ f_X4_exchange ν x1 x2 = some (ν', r) ∧ Rel (T + 1) μ' ν' := by
  sorry
theorem st_twig {T : Nat} {μ : Mem} {ν : MM} {x1 x2 : Int32} (h : Rel T μ ν) : ∃ (μ' : Mem) (ν' : MM) (r : Int32), f_X3_twig μ x1 x2 = some (μ', r) ∧ f_X4_twig ν x1 x2 = some (ν', r) ∧ Rel (T + 1) μ' ν' := by
  sorry
theorem st_wind {T : Nat} {μ : Mem} {ν : MM} {x1 : Int32} (h : Rel T μ ν) : ∃ (μ' : Mem) (ν' : MM) (r : Int32), f_X3_wind μ x1 = some (μ', r) ∧ f_X4_wind ν x1 = some (ν', r) ∧ Rel (T + 1) μ' ν' := by
  sorry
theorem st_comes {T : Nat} {μ : Mem} {ν : MM} {x1 x2 : Int32} (h : Rel T μ ν) : ∃ (μ' : Mem) (ν' : MM) (r : Int32), f_X3_comes μ x1 x2 = some (μ', r) ∧ f_X4_comes ν x1 x2 = some (ν', r) ∧ Rel (T + 1) μ' ν' := by
  sorry
theorem st_sit {T : Nat} {μ : Mem} {ν : MM} {x1 x2 : Int32} (h : Rel T μ ν) : ∃ (μ' : Mem) (ν' : MM) (r : Int32), f_X3_sit μ x1 x2 = some (μ', r) ∧ f_X4_sit ν x1 x2 = some (ν', r) ∧ Rel (T + 1) μ' ν' := by
  sorry
theorem st_where {T : Nat} {μ : Mem} {ν : MM} {x1 x2 : Int32} (h : Rel T μ ν) : ∃ (μ' : Mem) (ν' : MM) (r : Int32), f_X3_where μ x1 x2 = some (μ', r) ∧ f_X4_where ν x1 x2 = some (ν', r) ∧ Rel (T + 1) μ' ν' := by
  sorry
theorem st_can {T : Nat} {μ : Mem} {ν : MM} (h : Rel T μ ν) : ∃ (μ' : Mem) (ν' : MM) (r : Int32), f_X3_can μ = some (μ', r) ∧ f_X4_can ν = some (ν', r) ∧ Rel (T + 1) μ' ν' := by
  sorry
theorem st_endless {T : Nat} {μ : Mem} {ν : MM} {x1 x2 x3 : Int32} (h : Rel T μ ν) : ∃ (μ' : Mem) (ν' : MM) (r : Int32), f_X3_endless μ x1 x2 x3 = some (μ', r) ∧ f_X4_endless ν x1 x2 x3 = some (ν', r) ∧ Rel (T + 1) μ' ν' := by
  sorry
theorem st_seating {T : Nat} {μ : Mem} {ν : MM} {x1 x2 x3 : Int32} (h : Rel T μ ν) : ∃ (μ' : Mem) (ν' : MM) (r : Int32), f_X3_seating μ x1 x2 x3 = some (μ', r) ∧ f_X4_seating ν x1 x2 x3 = some (ν', r) ∧ Rel (T + 1) μ' ν' := by
  sorry
theorem st_nestlings {T : Nat} {μ : Mem} {ν : MM} {x1 x2 x3 x4 x5 : Int32} (h : Rel T μ ν) : ∃ (μ' : Mem) (ν' : MM) (r : Int32), f_X3_nestlings μ x1 x2 x3 x4 x5 = some (μ', r) ∧ f_X4_nestlings ν x1 x2 x3 x4 x5 = some (ν', r) ∧ Rel (T + 1) μ' ν' := by
  sorry
theorem st_observe {T : Nat} {μ : Mem} {ν : MM} {x1 x2 x3 : Int32} (h : Rel T μ ν) : ∃ (μ' : Mem) (ν' : MM) (r : Int32), f_X3_observe μ x1 x2 x3 = some (μ', r) ∧ f_X4_observe ν x1 x2 x3 = some (ν', r) ∧ Rel (T + 1) μ' ν' := by
  sorry
theorem st_forget {T : Nat} {μ : Mem} {ν : MM} (h : Rel T μ ν) : ∃ (μ' : Mem) (ν' : MM) (r : Int32), f_X3_forget μ = some (μ', r) ∧ f_X4_forget ν = some (ν', r) ∧ Rel (T + 1) μ' ν' := by
  sorry
theorem st_guess {T : Nat} {μ : Mem} {ν : MM} {x1 x2 : Int32} (h : Rel T μ ν) : ∃ (μ' : Mem) (ν' : MM) (r : Int32), f_X3_guess μ x1 x2 = some (μ', r) ∧ f_X4_guess ν x1 x2 = some (ν', r) ∧ Rel (T + 1) μ' ν' := by
  sorry
theorem st_caw {T : Nat} {μ : Mem} {ν : MM} {x1 : Int32} (h : Rel T μ ν) : ∃ (μ' : Mem) (ν' : MM) (r : Int32), f_X3_caw μ x1 = some (μ', r) ∧ f_X4_caw ν x1 = some (ν', r) ∧ Rel (T + 1) μ' ν' := by
  sorry
theorem st_years {T : Nat} {μ : Mem} {ν : MM} {x1 x2 x3 : Int32} (h : Rel T μ ν) : ∃ (μ' : Mem) (ν' : MM) (r : Int32), f_X3_years μ x1 x2 x3 = some (μ', r) ∧ f_X4_years ν x1 x2 x3 = some (ν', r) ∧ Rel (T + 1) μ' ν' := by
  sorry
theorem st_image {T : Nat} {μ : Mem} {ν : MM} (h : Rel T μ ν) : ∃ (μ' : Mem) (ν' : MM) (r : Int32), f_X3_image μ = some (μ', r) ∧ f_X4_image ν = some (ν', r) ∧ Rel (T + 1) μ' ν' := by
  sorry
theorem st_restore {T : Nat} {μ : Mem} {ν : MM} (h : Rel T μ ν) : ∃ (μ' : Mem) (ν' : MM) (r : Int32), f_X3_restore μ = some (μ', r) ∧ f_X4_restore ν = some (ν', r) ∧ Rel (T + 1) μ' ν' := by
  sorry
theorem st_count {T : Nat} {μ : Mem} {ν : MM} {x1 : Int32} (h : Rel T μ ν) : ∃ (r : Int32), f_X3_count μ x1 = some r ∧ f_X4_count ν x1 = some r ∧ Rel (T + 1) μ ν := by
  sorry
theorem st_digest {T : Nat} {μ : Mem} {ν : MM} (h : Rel T μ ν) : ∃ (μ' : Mem) (ν' : MM) (r : Int64), f_X3_digest μ = some (μ', r) ∧ f_X4_digest ν = some (ν', r) ∧ Rel (T + 1) μ' ν' := by
  sorry
