def lw_privs_3 : List (MethodName × Nat) := [(⟨"RingGamesModel", "isBad", "(I)Z"⟩, 19), (⟨"RingGamesModel", "coming", "(II)I"⟩, 19), (⟨"RingGamesModel", "comes", "(III)Z"⟩, 19), (⟨"RingGamesModel", "allBad", "(I)I"⟩, 19), (⟨"RingGamesModel", "judges", "(I)V"⟩, 19), (⟨"RingGamesModel", "onRings", "(I)I"⟩, 19), (⟨"RingGamesModel", "reaches", "(I)V"⟩, 19), (⟨"RingGamesModel", "ringAt", "(I)I"⟩, 19), (⟨"RingGamesModel", "placesThat", "(I)I"⟩, 19), (⟨"RingGamesModel", "leastColour", "()I"⟩, 19)]
theorem lw_r3 : ∀ q ∈ lw_privs_3, lw_okq q := List.forall_mem_cons.mpr ⟨lw_p32, List.forall_mem_cons.mpr ⟨lw_p33, List.forall_mem_cons.mpr ⟨lw_p34, List.forall_mem_cons.mpr ⟨lw_p35, List.forall_mem_cons.mpr ⟨lw_p36, List.forall_mem_cons.mpr ⟨lw_p37, List.forall_mem_cons.mpr ⟨lw_p38, List.forall_mem_cons.mpr ⟨lw_p39, List.forall_mem_cons.mpr ⟨lw_p40, List.forall_mem_cons.mpr ⟨lw_p41, fun _ h => absurd h List.not_mem_nil⟩⟩⟩⟩⟩⟩⟩⟩⟩⟩
def lw_privs : List (MethodName × Nat) := lw_privs_1 ++ (lw_privs_2 ++ (lw_privs_3))
def lw_tbl : List Cond := k2_sels lw_privs ++ tables_1
theorem lw_privs_ok : ∀ q ∈ lw_privs, lw_okq q := by
  show ∀ q ∈ lw_privs_1 ++ (lw_privs_2 ++ (lw_privs_3)), lw_okq q
  exact List.forall_mem_append.mpr ⟨lw_r1, List.forall_mem_append.mpr ⟨lw_r2, lw_r3⟩⟩
