section
-- ===== PART A: goes FIRST, ahead of the names: the tables' words, and 'selects' of the private methods out of them =====
/-- a private method of a class that the tables say can be made, by its rows of tables_1 -/
def lw_okq (q : MethodName × Nat) : Prop := (q.1.cls ≠ "java/lang/invoke/MethodHandle" ∧ q.1.cls ≠ "java/lang/invoke/VarHandle") ∧ Cond.instantiable q.1.cls q.2 ∈ tables_1 ∧ Cond.privateMethod q.1 ∈ tables_1 ∧ Cond.instanceMethod q.1 ∈ tables_1
theorem lw_p0 : lw_okq (⟨"RentHarmony", "longestChainFrom", "(I)I"⟩, 9) := ⟨⟨by decide +kernel, by decide +kernel⟩, List.mem_of_getElem? (i := 15) (by decide +kernel), List.mem_of_getElem? (i := 89) (by decide +kernel), List.mem_of_getElem? (i := 90) (by decide +kernel)⟩
theorem lw_p1 : lw_okq (⟨"RentHarmony", "wouldEnvy", "(II)Z"⟩, 9) := ⟨⟨by decide +kernel, by decide +kernel⟩, List.mem_of_getElem? (i := 15) (by decide +kernel), List.mem_of_getElem? (i := 93) (by decide +kernel), List.mem_of_getElem? (i := 94) (by decide +kernel)⟩
theorem lw_p2 : lw_okq (⟨"RentHarmony", "ownBidOf", "(I)I"⟩, 9) := ⟨⟨by decide +kernel, by decide +kernel⟩, List.mem_of_getElem? (i := 15) (by decide +kernel), List.mem_of_getElem? (i := 109) (by decide +kernel), List.mem_of_getElem? (i := 110) (by decide +kernel)⟩
theorem lw_p3 : lw_okq (⟨"RentHarmony", "allPays", "()I"⟩, 9) := ⟨⟨by decide +kernel, by decide +kernel⟩, List.mem_of_getElem? (i := 15) (by decide +kernel), List.mem_of_getElem? (i := 120) (by decide +kernel), List.mem_of_getElem? (i := 121) (by decide +kernel)⟩
theorem lw_p4 : lw_okq (⟨"RentHarmony", "payOf", "(I)I"⟩, 9) := ⟨⟨by decide +kernel, by decide +kernel⟩, List.mem_of_getElem? (i := 15) (by decide +kernel), List.mem_of_getElem? (i := 124) (by decide +kernel), List.mem_of_getElem? (i := 125) (by decide +kernel)⟩
theorem lw_p5 : lw_okq (⟨"RentHarmony", "rebateOf", "(I)I"⟩, 9) := ⟨⟨by decide +kernel, by decide +kernel⟩, List.mem_of_getElem? (i := 15) (by decide +kernel), List.mem_of_getElem? (i := 128) (by decide +kernel), List.mem_of_getElem? (i := 129) (by decide +kernel)⟩
theorem lw_p6 : lw_okq (⟨"RentHarmony", "firstRebateOf", "(I)I"⟩, 9) := ⟨⟨by decide +kernel, by decide +kernel⟩, List.mem_of_getElem? (i := 15) (by decide +kernel), List.mem_of_getElem? (i := 132) (by decide +kernel), List.mem_of_getElem? (i := 133) (by decide +kernel)⟩
theorem lw_p7 : lw_okq (⟨"RentHarmony", "total", "(I)I"⟩, 9) := ⟨⟨by decide +kernel, by decide +kernel⟩, List.mem_of_getElem? (i := 15) (by decide +kernel), List.mem_of_getElem? (i := 143) (by decide +kernel), List.mem_of_getElem? (i := 144) (by decide +kernel)⟩
theorem lw_p8 : lw_okq (⟨"RentHarmony", "allFirstRebates", "()I"⟩, 9) := ⟨⟨by decide +kernel, by decide +kernel⟩, List.mem_of_getElem? (i := 15) (by decide +kernel), List.mem_of_getElem? (i := 151) (by decide +kernel), List.mem_of_getElem? (i := 152) (by decide +kernel)⟩
theorem lw_p9 : lw_okq (⟨"RentHarmony", "fact", "(II)I"⟩, 9) := ⟨⟨by decide +kernel, by decide +kernel⟩, List.mem_of_getElem? (i := 15) (by decide +kernel), List.mem_of_getElem? (i := 159) (by decide +kernel), List.mem_of_getElem? (i := 160) (by decide +kernel)⟩
theorem lw_p10 : lw_okq (⟨"RentHarmony", "enviedBy", "(I)I"⟩, 9) := ⟨⟨by decide +kernel, by decide +kernel⟩, List.mem_of_getElem? (i := 15) (by decide +kernel), List.mem_of_getElem? (i := 163) (by decide +kernel), List.mem_of_getElem? (i := 164) (by decide +kernel)⟩
theorem lw_p11 : lw_okq (⟨"java/lang/Throwable", "fillInStackTrace", "(I)Ljava/lang/Throwable;"⟩, 6) := ⟨⟨by decide +kernel, by decide +kernel⟩, List.mem_of_getElem? (i := 213) (by decide +kernel), List.mem_of_getElem? (i := 211) (by decide +kernel), List.mem_of_getElem? (i := 212) (by decide +kernel)⟩
theorem lw_p12 : lw_okq (⟨"RentHarmony", "settleAll", "()V"⟩, 9) := ⟨⟨by decide +kernel, by decide +kernel⟩, List.mem_of_getElem? (i := 15) (by decide +kernel), List.mem_of_getElem? (i := 251) (by decide +kernel), List.mem_of_getElem? (i := 252) (by decide +kernel)⟩
theorem lw_p13 : lw_okq (⟨"RentHarmony$Giving", "weigh", "(LRentHarmony$Bids;I)V"⟩, 3) := ⟨⟨by decide +kernel, by decide +kernel⟩, List.mem_of_getElem? (i := 37) (by decide +kernel), List.mem_of_getElem? (i := 260) (by decide +kernel), List.mem_of_getElem? (i := 261) (by decide +kernel)⟩
theorem lw_p14 : lw_okq (⟨"RentHarmony$Giving", "firstBestRoom", "(LRentHarmony$Bids;II)I"⟩, 3) := ⟨⟨by decide +kernel, by decide +kernel⟩, List.mem_of_getElem? (i := 37) (by decide +kernel), List.mem_of_getElem? (i := 271) (by decide +kernel), List.mem_of_getElem? (i := 272) (by decide +kernel)⟩
theorem lw_p15 : lw_okq (⟨"RentHarmony", "settleFirstRebates", "()V"⟩, 9) := ⟨⟨by decide +kernel, by decide +kernel⟩, List.mem_of_getElem? (i := 15) (by decide +kernel), List.mem_of_getElem? (i := 275) (by decide +kernel), List.mem_of_getElem? (i := 276) (by decide +kernel)⟩
def lw_privs_1 : List (MethodName × Nat) := [(⟨"RentHarmony", "longestChainFrom", "(I)I"⟩, 9), (⟨"RentHarmony", "wouldEnvy", "(II)Z"⟩, 9), (⟨"RentHarmony", "ownBidOf", "(I)I"⟩, 9), (⟨"RentHarmony", "allPays", "()I"⟩, 9), (⟨"RentHarmony", "payOf", "(I)I"⟩, 9), (⟨"RentHarmony", "rebateOf", "(I)I"⟩, 9), (⟨"RentHarmony", "firstRebateOf", "(I)I"⟩, 9), (⟨"RentHarmony", "total", "(I)I"⟩, 9), (⟨"RentHarmony", "allFirstRebates", "()I"⟩, 9), (⟨"RentHarmony", "fact", "(II)I"⟩, 9), (⟨"RentHarmony", "enviedBy", "(I)I"⟩, 9), (⟨"java/lang/Throwable", "fillInStackTrace", "(I)Ljava/lang/Throwable;"⟩, 6), (⟨"RentHarmony", "settleAll", "()V"⟩, 9), (⟨"RentHarmony$Giving", "weigh", "(LRentHarmony$Bids;I)V"⟩, 3), (⟨"RentHarmony$Giving", "firstBestRoom", "(LRentHarmony$Bids;II)I"⟩, 3), (⟨"RentHarmony", "settleFirstRebates", "()V"⟩, 9)]
theorem lw_r1 : ∀ q ∈ lw_privs_1, lw_okq q := List.forall_mem_cons.mpr ⟨lw_p0, List.forall_mem_cons.mpr ⟨lw_p1, List.forall_mem_cons.mpr ⟨lw_p2, List.forall_mem_cons.mpr ⟨lw_p3, List.forall_mem_cons.mpr ⟨lw_p4, List.forall_mem_cons.mpr ⟨lw_p5, List.forall_mem_cons.mpr ⟨lw_p6, List.forall_mem_cons.mpr ⟨lw_p7, List.forall_mem_cons.mpr ⟨lw_p8, List.forall_mem_cons.mpr ⟨lw_p9, List.forall_mem_cons.mpr ⟨lw_p10, List.forall_mem_cons.mpr ⟨lw_p11, List.forall_mem_cons.mpr ⟨lw_p12, List.forall_mem_cons.mpr ⟨lw_p13, List.forall_mem_cons.mpr ⟨lw_p14, List.forall_mem_cons.mpr ⟨lw_p15, fun _ h => absurd h List.not_mem_nil⟩⟩⟩⟩⟩⟩⟩⟩⟩⟩⟩⟩⟩⟩⟩⟩
theorem lw_p16 : lw_okq (⟨"RentHarmony", "bestOfAllRooms", "(I)I"⟩, 9) := ⟨⟨by decide +kernel, by decide +kernel⟩, List.mem_of_getElem? (i := 15) (by decide +kernel), List.mem_of_getElem? (i := 279) (by decide +kernel), List.mem_of_getElem? (i := 280) (by decide +kernel)⟩
theorem lw_p17 : lw_okq (⟨"RentHarmony", "settleLeftOver", "()V"⟩, 9) := ⟨⟨by decide +kernel, by decide +kernel⟩, List.mem_of_getElem? (i := 15) (by decide +kernel), List.mem_of_getElem? (i := 283) (by decide +kernel), List.mem_of_getElem? (i := 284) (by decide +kernel)⟩
theorem lw_p18 : lw_okq (⟨"RentHarmony", "roomTried", "(III)I"⟩, 9) := ⟨⟨by decide +kernel, by decide +kernel⟩, List.mem_of_getElem? (i := 15) (by decide +kernel), List.mem_of_getElem? (i := 401) (by decide +kernel), List.mem_of_getElem? (i := 402) (by decide +kernel)⟩
theorem lw_p19 : lw_okq (⟨"RentHarmonyModel", "fail", "(I)I"⟩, 15) := ⟨⟨by decide +kernel, by decide +kernel⟩, List.mem_of_getElem? (i := 419) (by decide +kernel), List.mem_of_getElem? (i := 479) (by decide +kernel), List.mem_of_getElem? (i := 480) (by decide +kernel)⟩
theorem lw_p20 : lw_okq (⟨"RentHarmonyModel", "isOne", "(I)Z"⟩, 15) := ⟨⟨by decide +kernel, by decide +kernel⟩, List.mem_of_getElem? (i := 419) (by decide +kernel), List.mem_of_getElem? (i := 487) (by decide +kernel), List.mem_of_getElem? (i := 488) (by decide +kernel)⟩
theorem lw_p21 : lw_okq (⟨"RentHarmonyModel", "bi", "(II)I"⟩, 15) := ⟨⟨by decide +kernel, by decide +kernel⟩, List.mem_of_getElem? (i := 419) (by decide +kernel), List.mem_of_getElem? (i := 494) (by decide +kernel), List.mem_of_getElem? (i := 495) (by decide +kernel)⟩
theorem lw_p22 : lw_okq (⟨"RentHarmonyModel", "settle", "()V"⟩, 15) := ⟨⟨by decide +kernel, by decide +kernel⟩, List.mem_of_getElem? (i := 419) (by decide +kernel), List.mem_of_getElem? (i := 506) (by decide +kernel), List.mem_of_getElem? (i := 507) (by decide +kernel)⟩
theorem lw_p23 : lw_okq (⟨"RentHarmonyModel", "give", "()I"⟩, 15) := ⟨⟨by decide +kernel, by decide +kernel⟩, List.mem_of_getElem? (i := 419) (by decide +kernel), List.mem_of_getElem? (i := 510) (by decide +kernel), List.mem_of_getElem? (i := 511) (by decide +kernel)⟩
theorem lw_p24 : lw_okq (⟨"RentHarmonyModel", "tryFrom", "(II)V"⟩, 15) := ⟨⟨by decide +kernel, by decide +kernel⟩, List.mem_of_getElem? (i := 419) (by decide +kernel), List.mem_of_getElem? (i := 514) (by decide +kernel), List.mem_of_getElem? (i := 515) (by decide +kernel)⟩
theorem lw_p25 : lw_okq (⟨"RentHarmonyModel", "isTaken", "(II)Z"⟩, 15) := ⟨⟨by decide +kernel, by decide +kernel⟩, List.mem_of_getElem? (i := 419) (by decide +kernel), List.mem_of_getElem? (i := 519) (by decide +kernel), List.mem_of_getElem? (i := 520) (by decide +kernel)⟩
theorem lw_p26 : lw_okq (⟨"RentHarmonyModel", "isRaised", "()Z"⟩, 15) := ⟨⟨by decide +kernel, by decide +kernel⟩, List.mem_of_getElem? (i := 419) (by decide +kernel), List.mem_of_getElem? (i := 523) (by decide +kernel), List.mem_of_getElem? (i := 524) (by decide +kernel)⟩
theorem lw_p27 : lw_okq (⟨"RentHarmonyModel", "of", "(II)I"⟩, 15) := ⟨⟨by decide +kernel, by decide +kernel⟩, List.mem_of_getElem? (i := 419) (by decide +kernel), List.mem_of_getElem? (i := 527) (by decide +kernel), List.mem_of_getElem? (i := 528) (by decide +kernel)⟩
theorem lw_p28 : lw_okq (⟨"RentHarmonyModel", "toldOf", "(II)I"⟩, 15) := ⟨⟨by decide +kernel, by decide +kernel⟩, List.mem_of_getElem? (i := 419) (by decide +kernel), List.mem_of_getElem? (i := 535) (by decide +kernel), List.mem_of_getElem? (i := 536) (by decide +kernel)⟩
theorem lw_p29 : lw_okq (⟨"RentHarmonyModel", "pays", "(I)I"⟩, 15) := ⟨⟨by decide +kernel, by decide +kernel⟩, List.mem_of_getElem? (i := 419) (by decide +kernel), List.mem_of_getElem? (i := 539) (by decide +kernel), List.mem_of_getElem? (i := 540) (by decide +kernel)⟩
theorem lw_p30 : lw_okq (⟨"RentHarmonyModel", "isEnvy", "(II)Z"⟩, 15) := ⟨⟨by decide +kernel, by decide +kernel⟩, List.mem_of_getElem? (i := 419) (by decide +kernel), List.mem_of_getElem? (i := 543) (by decide +kernel), List.mem_of_getElem? (i := 544) (by decide +kernel)⟩
theorem lw_p31 : lw_okq (⟨"RentHarmonyModel", "counted", "(I)I"⟩, 15) := ⟨⟨by decide +kernel, by decide +kernel⟩, List.mem_of_getElem? (i := 419) (by decide +kernel), List.mem_of_getElem? (i := 555) (by decide +kernel), List.mem_of_getElem? (i := 556) (by decide +kernel)⟩
def lw_privs_2 : List (MethodName × Nat) := [(⟨"RentHarmony", "bestOfAllRooms", "(I)I"⟩, 9), (⟨"RentHarmony", "settleLeftOver", "()V"⟩, 9), (⟨"RentHarmony", "roomTried", "(III)I"⟩, 9), (⟨"RentHarmonyModel", "fail", "(I)I"⟩, 15), (⟨"RentHarmonyModel", "isOne", "(I)Z"⟩, 15), (⟨"RentHarmonyModel", "bi", "(II)I"⟩, 15), (⟨"RentHarmonyModel", "settle", "()V"⟩, 15), (⟨"RentHarmonyModel", "give", "()I"⟩, 15), (⟨"RentHarmonyModel", "tryFrom", "(II)V"⟩, 15), (⟨"RentHarmonyModel", "isTaken", "(II)Z"⟩, 15), (⟨"RentHarmonyModel", "isRaised", "()Z"⟩, 15), (⟨"RentHarmonyModel", "of", "(II)I"⟩, 15), (⟨"RentHarmonyModel", "toldOf", "(II)I"⟩, 15), (⟨"RentHarmonyModel", "pays", "(I)I"⟩, 15), (⟨"RentHarmonyModel", "isEnvy", "(II)Z"⟩, 15), (⟨"RentHarmonyModel", "counted", "(I)I"⟩, 15)]
theorem lw_r2 : ∀ q ∈ lw_privs_2, lw_okq q := List.forall_mem_cons.mpr ⟨lw_p16, List.forall_mem_cons.mpr ⟨lw_p17, List.forall_mem_cons.mpr ⟨lw_p18, List.forall_mem_cons.mpr ⟨lw_p19, List.forall_mem_cons.mpr ⟨lw_p20, List.forall_mem_cons.mpr ⟨lw_p21, List.forall_mem_cons.mpr ⟨lw_p22, List.forall_mem_cons.mpr ⟨lw_p23, List.forall_mem_cons.mpr ⟨lw_p24, List.forall_mem_cons.mpr ⟨lw_p25, List.forall_mem_cons.mpr ⟨lw_p26, List.forall_mem_cons.mpr ⟨lw_p27, List.forall_mem_cons.mpr ⟨lw_p28, List.forall_mem_cons.mpr ⟨lw_p29, List.forall_mem_cons.mpr ⟨lw_p30, List.forall_mem_cons.mpr ⟨lw_p31, fun _ h => absurd h List.not_mem_nil⟩⟩⟩⟩⟩⟩⟩⟩⟩⟩⟩⟩⟩⟩⟩⟩
theorem lw_p32 : lw_okq (⟨"RentHarmonyModel", "chainFrom", "(I)I"⟩, 15) := ⟨⟨by decide +kernel, by decide +kernel⟩, List.mem_of_getElem? (i := 419) (by decide +kernel), List.mem_of_getElem? (i := 571) (by decide +kernel), List.mem_of_getElem? (i := 572) (by decide +kernel)⟩
theorem lw_p33 : lw_okq (⟨"RentHarmonyModel", "roomWith", "(III)I"⟩, 15) := ⟨⟨by decide +kernel, by decide +kernel⟩, List.mem_of_getElem? (i := 419) (by decide +kernel), List.mem_of_getElem? (i := 580) (by decide +kernel), List.mem_of_getElem? (i := 581) (by decide +kernel)⟩
theorem lw_p34 : lw_okq (⟨"RentHarmonyModel", "worthWith", "(IIZZ)I"⟩, 15) := ⟨⟨by decide +kernel, by decide +kernel⟩, List.mem_of_getElem? (i := 419) (by decide +kernel), List.mem_of_getElem? (i := 588) (by decide +kernel), List.mem_of_getElem? (i := 589) (by decide +kernel)⟩
def lw_privs_3 : List (MethodName × Nat) := [(⟨"RentHarmonyModel", "chainFrom", "(I)I"⟩, 15), (⟨"RentHarmonyModel", "roomWith", "(III)I"⟩, 15), (⟨"RentHarmonyModel", "worthWith", "(IIZZ)I"⟩, 15)]
theorem lw_r3 : ∀ q ∈ lw_privs_3, lw_okq q := List.forall_mem_cons.mpr ⟨lw_p32, List.forall_mem_cons.mpr ⟨lw_p33, List.forall_mem_cons.mpr ⟨lw_p34, fun _ h => absurd h List.not_mem_nil⟩⟩⟩
def lw_privs : List (MethodName × Nat) := lw_privs_1 ++ (lw_privs_2 ++ (lw_privs_3))
def lw_tbl : List Cond := k2_sels lw_privs ++ tables_1
theorem lw_privs_ok : ∀ q ∈ lw_privs, lw_okq q := by
  show ∀ q ∈ lw_privs_1 ++ (lw_privs_2 ++ (lw_privs_3)), lw_okq q
  exact List.forall_mem_append.mpr ⟨lw_r1, List.forall_mem_append.mpr ⟨lw_r2, lw_r3⟩⟩
/-- the streams that the claim lets the run draw from -/
abbrev lw_cs : List Choice := [Jvm.Choice.named "NaN.bits"]
theorem lw_bits : nanBits ∈ lw_cs := by first | decide | exact List.mem_cons_self | simp [lw_cs, nanBits]
-- ===== end of PART A =====
/-! ===== BEGIN words of one list among another's, by their places ===== -/
theorem goodIn_r {big : List Cond} (ws : List Cond) (ps : List Nat) (hp : ws = ps.filterMap (fun i => big[i]?)) (h : ws.all goodWord = true) : GoodIn big ws := by
  intro w hw
  have h1 := List.all_eq_true.mp h w hw
  rw [hp] at hw
  obtain ⟨i, -, hi⟩ := List.mem_filterMap.mp hw
  have hm : w ∈ big := by first | exact List.mem_of_getElem? hi | exact List.getElem?_mem hi
  exact ⟨hm, good_of_word h1⟩
theorem goodIn_app {big a b : List Cond} (ha : GoodIn big a) (hb : GoodIn big b) : GoodIn big (a ++ b) := fun w h => (List.mem_append.mp h).elim (ha w) (hb w)
theorem goodIn_ca {big a b : List Cond} {c : Cond} (ha : GoodIn big (c :: a)) (hb : GoodIn big b) : GoodIn big (c :: (a ++ b)) := fun w h => (List.mem_cons.mp h).elim (fun e => ha w (List.mem_cons.mpr (Or.inl e))) (fun h => (List.mem_append.mp h).elim (fun h => ha w (List.mem_cons.mpr (Or.inr h))) (hb w))
theorem goodIn_sub {big ws : List Cond} (hm : ∀ w ∈ ws, w ∈ big) (h : ws.all goodWord = true) : GoodIn big ws := fun w hw => ⟨hm w hw, good_of_word (List.all_eq_true.mp h w hw)⟩
/-! ===== END ===== -/

/-! ===== BEGIN exceptions that leave a method, and their catching by the caller (launches without stack traces) ===== -/
section VXA
/-! The laws vx_back, vx_callV, vx_callS, vx_callSW, vx_throw0, vx_throwS follow proofs of the library, with one case more: JvmDerived/Free/Laws.lean (Back.of_free), Shelf42/LK1.lean (callV, callS), Shelf/KitTraced.lean (throwNew0V, throwNewS). -/
/-- where a method has thrown q: the class by its name, the cell, what was written, the world -/
def vx_T (XC : String → State → State → Prop) (st : State) (q : Addr) (t : State) (mc ms : Nat) (free : Addr → Prop) : Prop :=
  ∃ (E : String) (ce : Cell) (L : List Loc), XC E st t ∧ t.heap[q]? = some ce ∧ ce.vm = .none ∧ st.vm.findClass E = some ce.cls ∧ st.WarmedH t.vm ∧ st.sameButNew ({ t with vm := st.vm } : State) L mc ms ∧ ∀ z ∈ L, free z.base
def vx_Q (Qc : Array Value → State → Outcome → State → Prop) (XC : String → State → State → Prop) (mc ms : Nat) (free : Addr → Prop) : Array Value → State → Outcome → State → Prop := fun a st o t =>
  (Qc a st o t ∧ ∃ L, FrameEnd st o t L mc ms ∧ ∀ q ∈ L, free q.base) ∨ ∃ q, o = .threw q ∧ vx_T XC st q t mc ms free
/-- a callee that returns or throws -/
def vx_Met (l : Launch) (y : MethodName) (ws : List Cond) (rm : Room) (Pc : Array Value → State → Prop) (Qc : Array Value → State → Outcome → State → Prop) (XC : String → State → State → Prop) (mc ms : Nat) (free : Addr → Prop) : Prop :=
  MetFree l y (headSpec ws rm) Pc (fun _ _ _ _ _ => True) (vx_Q Qc XC mc ms free)
def vx_Post (XC : String → State → State → Prop) (mc ms : Nat) (free : Addr → Prop) : Pt → Array Value → Addr → Pt → Prop := fun A a q B =>
  ∃ (g : JFrame) (mk : MethodId) (t : State) (L : List Loc) (E : String) (ce : Cell), B.U.heap = t.heap ∧ B.U.vm = t.vm ∧ XC E (A.U.calling g mk a) t ∧ t.heap[q]? = some ce ∧ ce.vm = .none ∧ A.U.vm.findClass E = some ce.cls ∧ B.locs = A.locs ++ L ∧ (∀ z ∈ L, free z.base) ∧ B.cells = A.cells + mc ∧ B.slots = A.slots + ms
def vx_Back (l : Launch) (R : Room) (p : Program) (e : Env) (below : List Frame) (s : State) (sargs : Array Value) (y : MethodName) (len W9 : Nat)
    (Pre : Pt → Array Value → Prop) (Post : Pt → Array Value → Option Value → Pt → Prop) (PostX : Pt → Array Value → Addr → Pt → Prop) : Prop :=
  ∀ (m : MethodId) (meth : Method) (c : Code) (A : Pt) (g : JFrame) (ig : Instr) (mk : MethodId) (a : Array Value),
    Stand p l e R s m sargs below meth c A.U A.locs A.cells A.slots → g.method = m → g.locals.size = c.maxLocals → decode c.code g.pc = .ok (ig, len) →
    2 * g.monitorRoom + (g.stack.map fun v => v.category).sum ≤ W9 → A.U.methodNamed? y = some mk → Pre A a →
    (∃ (v : Option Value) (B : Pt), Stand p l e R s m sargs below meth c B.U B.locs B.cells B.slots ∧ Post A a v B ∧
      Steps p.tables e below (doInvoke e (A.U.setTop g) [] mk a).1 (B.U.setTop { g with pc := g.pc + len, stack := v.toList ++ g.stack })) ∨
    (∃ (q : Addr) (B : Pt), Stand p l e R s m sargs below meth c B.U B.locs B.cells B.slots ∧ PostX A a q B ∧
      Steps p.tables e below (doInvoke e (A.U.setTop g) [] mk a).1 ((B.U.setTop g).pushFrame (.throwing q)))
section Payer
variable {l : Launch} {R : Room} {p : Program} {e : Env} {below : List Frame} {s : State} {sargs : Array Value} {y : MethodName} {len W9 : Nat}
theorem vx_back {ws : List Cond} {rm : Room} {Pc : Array Value → State → Prop} {Qc : Array Value → State → Outcome → State → Prop} {XC : String → State → State → Prop} {mc ms : Nat} {free : Addr → Prop} {bytes : ByteArray} {maxL : Nat} {ret : Option FieldType}
    (hM : vx_Met l y ws rm Pc Qc XC mc ms free) (hblind : FrameBlind Pc) (hrc : rm.cells = mc) (hrs : rm.slots = ms)
    (hframes : rm.frames + 1 ≤ R.frames) (hlocals : W9 + (maxL + 11) + rm.locals ≤ R.locals)
    (hws : ∀ w ∈ ws, ∀ a' U, s.WarmedH U.vm → w.before a' U = true) (hcode : Cond.code y bytes maxL ret ∈ ws) (hinit : ∀ a' U, s.WarmedH U.vm → (Cond.initialized y.cls).before a' U = true) :
    vx_Back l R p e below s sargs y len W9 (PreOf R mc ms Pc) (PostOf Qc mc ms free) (vx_Post XC mc ms free) := by
  intro m meth c A g ig mk a X hg hsize hdg hW hn hp
  have h1 : (headSpec ws rm).pre.before a A.U = true := atoms_intro fun w hw => hws w hw _ _ X.warmed
  have h2 : (Cond.code y bytes maxL ret).before a A.U = true := hws _ hcode _ _ X.warmed
  have h3 : (Cond.initialized y.cls).before a A.U = true := hinit _ _ X.warmed
  have h4 : A.cells + (headSpec ws rm).room.cells ≤ R.cells := by rw [show (headSpec ws rm).room.cells = mc from hrc]; exact hp.1
  have h5 : A.slots + (headSpec ws rm).room.slots ≤ R.slots := by rw [show (headSpec ws rm).room.slots = ms from hrs]; exact hp.2.1
  have hPc : Pc a (A.U.calling g mk a) := hblind _ _ _ _ hp.2.2
  obtain ⟨U, Ls, c0, s0⟩ := A
  dsimp only [Pt.U, Pt.locs, Pt.cells, Pt.slots] at h1 h2 h3 h4 h5 X hn hPc ⊢
  obtain ⟨methY, cY, hmY, hcY, -, hlY, -, -, -, -⟩ := Cond.code_spec hn h2
  obtain ⟨kY, hkY, -⟩ := className_of_methodNamed hn
  have hinitY : kY.init = .initialized := Cond.initialized_spec (findClass_of_methodNamed hn) hkY h3
  have h : At U g.method c below := by rw [hg]; exact X.here
  have hlocals9 : W9 + (maxL + 11) + (headSpec ws rm).room.locals ≤ R.locals := hlocals
  have happ : (headSpec ws rm).appliesLoose y e.platform (U.calling g mk a) = true :=
    Spec.appliesLoose_calling (g := g) h hdg hn hkY hinitY
      (X.room_calling (g := g) (R' := (headSpec ws rm).room) hsize hmY hcY hframes (by rw [hlY]; omega) h4 h5) h1
  obtain ⟨mid, hmid⟩ := h.above
  have hfr : (U.setTop g).frames = (.java g :: mid) ++ below := by rw [State.frames_setTop' g h.top, hmid]; rfl
  obtain ⟨o, s₂, hsteps, -, hend, hq⟩ := Steps.callFree hM p X.admits X.cas X.clock (acts := []) hfr happ hPc trivial
  have hq' : vx_Q Qc XC mc ms free a (U.calling g mk a) o s₂ := hq
  rw [State.frames_setTop' g h.top] at hend
  obtain ⟨g₀, hg0⟩ := Option.isSome_iff_exists.mp h.top
  obtain ⟨r, hr⟩ := State.topJava?_eq_some.mp hg0
  have hr' : (({ U with heap := s₂.heap, slotsUsed := s₂.slotsUsed } : State).setVm s₂.vm).frames = .java g₀ :: r := hr
  rcases hq' with ⟨hqc, L, hfe, hL⟩ | ⟨q, rfl, E, ce, L, hx, hce, hcv, hcl, hW₂, hsm, hL⟩
  · obtain ⟨⟨v, rfl⟩, hW₂, e2, q2, q3, q4, q5, q6⟩ := id hfe
    have e3 : s₂ = ({ (U.calling g mk a).setFrames s₂.frames with heap := s₂.heap, slotsUsed := s₂.slotsUsed } : State).setVm s₂.vm := by
      have : s₂ = ({ s₂ with vm := (U.calling g mk a).vm } : State).setVm s₂.vm := rfl
      rw [e2] at this
      exact this
    obtain ⟨c₂, i₂, len₂, hc₂, hd₂, hf₂⟩ := hend
    have hW' : U.WarmedH s₂.vm := hW₂
    have hcc : c₂ = c := by
      have h1 : s₂.code? g.method = U.code? g.method := by
        rw [State.code?_eq, State.code?_eq, hW'.alike.method?]
      exact Option.some.inj (hc₂.symm.trans (h1.trans h.code))
    subst hcc
    have hlen : len₂ = len := by rw [hdg] at hd₂; cases hd₂; rfl
    subst hlen
    have hs₂ : s₂ = (({ U with heap := s₂.heap, slotsUsed := s₂.slotsUsed } : State).setVm s₂.vm).setTop { g with pc := g.pc + len₂, stack := v.toList ++ g.stack } := by
      refine e3.trans ?_
      rw [hf₂, State.calling_eq h.top, State.setFrames_setFrames, State.setTop_of_frames _ hr', hr]
      rfl
    have hsame : U.sameButNew ({ U with heap := s₂.heap, slotsUsed := s₂.slotsUsed } : State) L mc ms := by
      refine ⟨?_, q2, q3, q4, q5, q6⟩
      obtain ⟨t, ht, -⟩ := State.frames_cons hr
      show ({ U with heap := s₂.heap, slotsUsed := s₂.slotsUsed } : State) = { U.setFrames U.frames with heap := s₂.heap, slotsUsed := s₂.slotsUsed }
      rw [State.setFrames_self ht]
    subst hg
    refine Or.inl ⟨v, ⟨(({ U with heap := s₂.heap, slotsUsed := s₂.slotsUsed } : State).setVm s₂.vm), Ls ++ L, c0 + mc, s0 + ms⟩,
      ⟨X.admits, X.cas, X.clock, X.frames, X.room, X.hears, X.method, X.code, (X.here.setHeapUsed s₂.heap s₂.slotsUsed).setVm hW'.alike, X.tail, State.WarmedH.trans X.warmed hW', X.limits, X.bytes, X.same.trans (hsame.setVm s.vm)⟩,
      ⟨g, mk, s₂, L, rfl, rfl, hqc, rfl, hL, rfl, rfl⟩, ?_⟩
    show Steps p.tables e below _ ((({ U with heap := s₂.heap, slotsUsed := s₂.slotsUsed } : State).setVm s₂.vm).setTop { g with pc := g.pc + len₂, stack := v.toList ++ g.stack })
    rw [← hs₂]
    exact hsteps
  · obtain ⟨e2, q2, q3, q4, q5, q6⟩ := id hsm
    have e3 : s₂ = ({ (U.calling g mk a).setFrames s₂.frames with heap := s₂.heap, slotsUsed := s₂.slotsUsed } : State).setVm s₂.vm := by
      have : s₂ = ({ s₂ with vm := (U.calling g mk a).vm } : State).setVm s₂.vm := rfl
      rw [e2] at this
      exact this
    have hf₂ : s₂.frames = .throwing q :: .java g :: U.frames.tail := hend
    have hW' : U.WarmedH s₂.vm := hW₂
    have hs₂ : s₂ = ((({ U with heap := s₂.heap, slotsUsed := s₂.slotsUsed } : State).setVm s₂.vm).setTop g).pushFrame (.throwing q) := by
      refine e3.trans ?_
      rw [hf₂, State.calling_eq h.top, State.setFrames_setFrames, State.pushFrame, State.frames_setTop _ hr', State.setTop_of_frames _ hr', State.setFrames_setFrames, hr]
      rfl
    have hsame : U.sameButNew ({ U with heap := s₂.heap, slotsUsed := s₂.slotsUsed } : State) L mc ms := by
      refine ⟨?_, q2, q3, q4, q5, q6⟩
      obtain ⟨t, ht, -⟩ := State.frames_cons hr
      show ({ U with heap := s₂.heap, slotsUsed := s₂.slotsUsed } : State) = { U.setFrames U.frames with heap := s₂.heap, slotsUsed := s₂.slotsUsed }
      rw [State.setFrames_self ht]
    subst hg
    refine Or.inr ⟨q, ⟨(({ U with heap := s₂.heap, slotsUsed := s₂.slotsUsed } : State).setVm s₂.vm), Ls ++ L, c0 + mc, s0 + ms⟩,
      ⟨X.admits, X.cas, X.clock, X.frames, X.room, X.hears, X.method, X.code, (X.here.setHeapUsed s₂.heap s₂.slotsUsed).setVm hW'.alike, X.tail, State.WarmedH.trans X.warmed hW', X.limits, X.bytes, X.same.trans (hsame.setVm s.vm)⟩,
      ⟨g, mk, s₂, L, E, ce, rfl, rfl, hx, hce, hcv, hcl, rfl, hL, rfl, rfl⟩, ?_⟩
    show Steps p.tables e below _ (((({ U with heap := s₂.heap, slotsUsed := s₂.slotsUsed } : State).setVm s₂.vm).setTop g).pushFrame (.throwing q))
    rw [← hs₂]
    exact hsteps
end Payer
section Calls
variable {p : Program} {l : Launch} {e : Env} {R : Room} {s : State} {m : MethodId} {args : Array Value} {below : List Frame} {meth : Method} {c : Code} {T : State} {locs : List Loc} {cells slots : Nat}
theorem vx_callV (X : Stand p l e R s m args below meth c T locs cells slots) (hexec : p.tables.exec = Jvm.exec) {own C : String} {index : Nat} {y : MethodName} {bytes : ByteArray} {maxL : Nat} {ret : Option FieldType}
    (hown : s.vm.findClass own = some m.cls) (hlink : (Cond.methodLink own index y).before args s = true) (hinst : (Cond.instanceMethod y).before args s = true) (hsel : (Cond.selects C y y).before args s = true)
    (hcode : (Cond.code y bytes maxL ret).before args s = true) (hy : y.cls ≠ "java/lang/invoke/MethodHandle" ∧ y.cls ≠ "java/lang/invoke/VarHandle")
    {W9 : Nat} {Pre : Pt → Array Value → Prop} {Post : Pt → Array Value → Option Value → Pt → Prop} {PostX : Pt → Array Value → Addr → Pt → Prop} (hK : vx_Back l R p e below s args y 3 W9 Pre Post PostX)
    {b : Addr} {cellB : Cell} (hcell : T.heap[b]? = some cellB) (hobj : cellB.vm.isStatics = false) (hcls : s.vm.findClass C = some cellB.cls)
    {g : JFrame} (hg : g.method = m) (hsize : g.locals.size = c.maxLocals) {argsL rest : List Value} (hlen : ∀ sig, parseMethodDescriptor y.desc = some sig → argsL.length = sig.parameters.length)
    (hstack : g.stack = argsL.reverse ++ .ref b :: rest) (hW : 2 * g.monitorRoom + (rest.map fun v => v.category).sum ≤ W9) (hdg : decode c.code g.pc = .ok (.invokevirtual index, 3))
    (hpre : ∀ vm₁, s.WarmedH vm₁ → Pre ⟨T.setVm vm₁, locs, cells, slots⟩ (Value.ref b :: argsL).toArray) :
    (∃ (v : Option Value) (vm₁ : Vm) (B : Pt), s.WarmedH vm₁ ∧ Stand p l e R s m args below meth c B.U B.locs B.cells B.slots ∧ Post ⟨T.setVm vm₁, locs, cells, slots⟩ (Value.ref b :: argsL).toArray v B ∧
      ∀ target, Steps p.tables e below (B.U.setTop { g with pc := g.pc + 3, stack := v.toList ++ rest }) target → Steps p.tables e below (T.setTop g) target) ∨
    (∃ (q : Addr) (vm₁ : Vm) (B : Pt), s.WarmedH vm₁ ∧ Stand p l e R s m args below meth c B.U B.locs B.cells B.slots ∧ PostX ⟨T.setVm vm₁, locs, cells, slots⟩ (Value.ref b :: argsL).toArray q B ∧
      Steps p.tables e below (T.setTop g) ((B.U.setTop { g with stack := rest }).pushFrame (.throwing q))) := by
  obtain ⟨mk, methM, hnamed, hmethM, hstM, habM⟩ := Cond.instanceMethod_spec hinst
  obtain ⟨methM', cM, hmethM', -, -, -, -, -, -, hsigM⟩ := Cond.code_spec hnamed hcode
  cases hmethM.symm.trans hmethM'
  obtain ⟨c2, r2, m2, q1, q2, q3, q4, kP, hkP, hkPi⟩ := Cond.selects_spec hsel
  cases hcls.symm.trans q1
  cases (State.methodFound?_of_named hnamed hy).symm.trans q2
  cases hnamed.symm.trans q3
  have hselP : selectMethod e.platform s.vm cellB.cls mk = .method mk := by rw [Launch.admits_selectMethod X.admits]; exact q4
  obtain ⟨vm₁, X₁, hstep₁⟩ := X.invokevirtual hexec hown hlink hnamed hmethM hstM hkP hkPi hy (a := b) (cell := cellB) hcell
    (fun z h => by rw [h] at hobj; cases hobj) hselP hmethM habM hkP hkPi (g := g) hg (argsL := argsL) (rest := rest) (hlen _ hsigM) hstack hdg
  rcases hK m meth c ⟨T.setVm vm₁, locs, cells, slots⟩ { g with stack := rest } (.invokevirtual index) mk (Value.ref b :: argsL).toArray X₁ hg hsize hdg hW (X₁.named hnamed) (hpre vm₁ X₁.warmed) with ⟨v, B, X', hpost, hsteps⟩ | ⟨q, B, X', hpost, hsteps⟩
  · exact Or.inl ⟨v, vm₁, B, X₁.warmed, X', hpost, fun target h => hstep₁ _ fun acts => by rw [doInvoke_state]; exact hsteps.trans h⟩
  · exact Or.inr ⟨q, vm₁, B, X₁.warmed, X', hpost, hstep₁ _ fun acts => by rw [doInvoke_state]; exact hsteps⟩
theorem vx_callS (X : Stand p l e R s m args below meth c T locs cells slots) (hexec : p.tables.exec = Jvm.exec) {own : String} {index : Nat} {y : MethodName} {bytes : ByteArray} {maxL : Nat} {ret : Option FieldType}
    (hown : s.vm.findClass own = some m.cls) (hlink : (Cond.methodLink own index y).before args s = true) (hstat : (Cond.static y).before args s = true) (hinit : (Cond.initialized y.cls).before args s = true)
    (hcode : (Cond.code y bytes maxL ret).before args s = true) (hy : y.cls ≠ "java/lang/invoke/MethodHandle" ∧ y.cls ≠ "java/lang/invoke/VarHandle")
    {W9 : Nat} {Pre : Pt → Array Value → Prop} {Post : Pt → Array Value → Option Value → Pt → Prop} {PostX : Pt → Array Value → Addr → Pt → Prop} (hK : vx_Back l R p e below s args y 3 W9 Pre Post PostX)
    {g : JFrame} (hg : g.method = m) (hsize : g.locals.size = c.maxLocals) {argsL rest : List Value} (hlen : ∀ sig, parseMethodDescriptor y.desc = some sig → argsL.length = sig.parameters.length)
    (hstack : g.stack = argsL.reverse ++ rest) (hW : 2 * g.monitorRoom + (rest.map fun v => v.category).sum ≤ W9) (hdg : decode c.code g.pc = .ok (.invokestatic index, 3))
    (hpre : ∀ vm₁, s.WarmedH vm₁ → Pre ⟨T.setVm vm₁, locs, cells, slots⟩ argsL.toArray) :
    (∃ (v : Option Value) (vm₁ : Vm) (B : Pt), s.WarmedH vm₁ ∧ Stand p l e R s m args below meth c B.U B.locs B.cells B.slots ∧ Post ⟨T.setVm vm₁, locs, cells, slots⟩ argsL.toArray v B ∧
      ∀ target, Steps p.tables e below (B.U.setTop { g with pc := g.pc + 3, stack := v.toList ++ rest }) target → Steps p.tables e below (T.setTop g) target) ∨
    (∃ (q : Addr) (vm₁ : Vm) (B : Pt), s.WarmedH vm₁ ∧ Stand p l e R s m args below meth c B.U B.locs B.cells B.slots ∧ PostX ⟨T.setVm vm₁, locs, cells, slots⟩ argsL.toArray q B ∧
      Steps p.tables e below (T.setTop g) ((B.U.setTop { g with stack := rest }).pushFrame (.throwing q))) := by
  obtain ⟨mk, hnamed⟩ := Cond.code_named hcode
  obtain ⟨methM, cM, hmethM, -, -, -, -, -, -, hsigM⟩ := Cond.code_spec hnamed hcode
  have hstatic : methM.isStatic = true := Cond.static_spec hnamed hmethM hstat
  obtain ⟨kP, hkP, -⟩ := className_of_methodNamed hnamed
  have hinitP : kP.init = .initialized := Cond.initialized_spec (findClass_of_methodNamed hnamed) hkP hinit
  obtain ⟨vm₁, X₁, hstep₁⟩ := X.invokestatic hexec hown hlink hnamed hmethM hstatic hkP hinitP hy (g := g) hg (argsL := argsL) (rest := rest) (hlen _ hsigM) hstack hdg
  rcases hK m meth c ⟨T.setVm vm₁, locs, cells, slots⟩ { g with stack := rest } (.invokestatic index) mk argsL.toArray X₁ hg hsize hdg hW (X₁.named hnamed) (hpre vm₁ X₁.warmed) with ⟨v, B, X', hpost, hsteps⟩ | ⟨q, B, X', hpost, hsteps⟩
  · exact Or.inl ⟨v, vm₁, B, X₁.warmed, X', hpost, fun target h => hstep₁ _ fun acts => by rw [doInvoke_state]; exact hsteps.trans h⟩
  · exact Or.inr ⟨q, vm₁, B, X₁.warmed, X', hpost, hstep₁ _ fun acts => by rw [doInvoke_state]; exact hsteps⟩
end Calls
theorem vx_cls {s : State} {T : State} {vm₁ : Vm} {E : String} {k : ClassId} (hW : s.WarmedH vm₁) (h : (T.setVm vm₁).vm.findClass E = some k) : s.vm.findClass E = some k := by
  have h1 : vm₁.findClass E = some k := h
  rw [hW.alike.findClass] at h1
  exact h1
/-- the method's frame g, with q thrown over it -/
def vx_W (p : Program) (l : Launch) (e : Env) (R : Room) (s : State) (m : MethodId) (args : Array Value) (below : List Frame) (meth : Method) (c : Code) (H : Heap) (locs : List Loc) (cells slots : Nat) (Q : State → Prop) (g : JFrame) (q : Addr) : Prop :=
  ∀ T : State, T.heap = H → Stand p l e R s m args below meth c T locs cells slots → ∃ t, Steps p.tables e below ((T.setTop g).pushFrame (.throwing q)) t ∧ Q t
def vx_Run (p : Program) (l : Launch) (e : Env) (R : Room) (s : State) (m : MethodId) (args : Array Value) (below : List Frame) (meth : Method) (c : Code) (H : Heap) (locs : List Loc) (cells slots mc ms : Nat) (g : JFrame) (rest : List Value) (Qa : State → Outcome → State → Prop) (XC : String → State → State → Prop) (free : Addr → Prop) : Prop :=
  ∀ T : State, T.heap = H → Stand p l e R s m args below meth c T locs cells slots →
    (∃ (v : Option Value) (st₀ t T' : State) (L : List Loc), st₀.heap = H ∧ Stand p l e R s m args below meth c T' (locs ++ L) (cells + mc) (slots + ms) ∧ (∀ q ∈ L, free q.base) ∧ T'.heap = t.heap ∧ T'.vm = t.vm ∧ Qa st₀ (.returned v) t ∧
      Goes p e below T g T' { g with pc := g.pc + 3, stack := v.toList ++ rest }) ∨
    (∃ (q : Addr) (st₀ t T' : State) (L : List Loc) (E : String) (ce : Cell), st₀.heap = H ∧ Stand p l e R s m args below meth c T' (locs ++ L) (cells + mc) (slots + ms) ∧ (∀ z ∈ L, free z.base) ∧ T'.heap = t.heap ∧ T'.vm = t.vm ∧ XC E st₀ t ∧ t.heap[q]? = some ce ∧ ce.vm = .none ∧ s.vm.findClass E = some ce.cls ∧
      Steps p.tables e below (T.setTop g) ((T'.setTop { g with stack := rest }).pushFrame (.throwing q)))
def vx_X {S : Type} (px : S → Prop) (B : String → S → State → Prop) (A : Nat → Prop) : String → State → State → Prop := fun E st t => ∃ u : S, px u ∧ B E u t ∧ va_F A st t
section Runs
variable {p : Program} {l : Launch} {e : Env} {R : Room} {s : State} {m : MethodId} {args : Array Value} {below : List Frame} {meth : Method} {c : Code} {H : Heap} {locs : List Loc} {cells slots : Nat}
variable {y : MethodName} {bytes cc : ByteArray} {maxL nL mc ms n index : Nat} {ret : Option FieldType} {ws : List Cond} {rm : Room} {Pc : Array Value → State → Prop} {Qc : Array Value → State → Outcome → State → Prop} {XC : String → State → State → Prop} {free : Addr → Prop} {Ts : List Cond} {own C : String} {b : Addr} {As rest : List Value} {g : JFrame}
theorem vx_callBack (cb : CallB R s args own index y bytes maxL ret ws rm mc ms n) (hM : vx_Met l y ws rm Pc Qc XC mc ms free) (hbl : FrameBlind Pc) : vx_Back l R p e below s args y 3 8 (PreOf R mc ms Pc) (PostOf Qc mc ms free) (vx_Post XC mc ms free) := by
  obtain ⟨hrc, hrs, hfr, hlo, hws, hcw, -, hini, -⟩ := cb
  exact vx_back (bytes := bytes) (maxL := maxL) (ret := ret) hM hbl hrc hrs hfr hlo hws hcw (fun a' U hW => word_at hW (Or.inl (by first | rfl | simp [Cond.onTables, Cond.keeps, Cond.steady])) hini)
theorem vx_runV (S : CallFix p m c cc nL s args Ts own) (hM : vx_Met l y ws rm Pc Qc XC mc ms free) (cw : CallW R s args own C index y bytes maxL ret ws rm mc ms n) (hp : PreV s H C b Pc As)
    (hg : g.method = m) (hn : As.length = n) (hsize : g.locals.size = nL) (hstack : g.stack = As.reverse ++ .ref b :: rest) (hW : 2 * g.monitorRoom + (rest.map fun v => v.category).sum ≤ 8) (hdg : decode cc g.pc = .ok (.invokevirtual index, 3)) (hf : cells + mc ≤ R.cells ∧ slots + ms ≤ R.slots) :
    vx_Run p l e R s m args below meth c H locs cells slots mc ms g rest (Qc (Value.ref b :: As).toArray) XC free := by
  have hK : vx_Back l R p e below s args y 3 8 (PreOf R mc ms Pc) (PostOf Qc mc ms free) (vx_Post XC mc ms free) := vx_callBack cw.1 hM hp.1
  obtain ⟨⟨-, -, -, -, -, -, hcode, -, hy, hlen, hl⟩, hin, hse⟩ := cw
  obtain ⟨hx, hb, hml, ho, -⟩ := S
  obtain ⟨-, ⟨cellB, hcB, hoB, hclB⟩, hPc⟩ := hp
  intro T hT X
  rcases vx_callV X hx (C := C) (bytes := bytes) (maxL := maxL) (ret := ret) ho hl hin hse hcode hy hK (by rw [hT]; exact hcB) hoB hclB hg (hsize.trans hml.symm) (argsL := As) (rest := rest) (fun sig h => hn.trans (hlen sig h)) hstack hW (by rw [hb]; exact hdg)
    (fun vm₁ hW₁ => ⟨hf.1, hf.2, hPc (T.setVm vm₁) hT hW₁⟩) with ⟨v, vm₁, ⟨U', l2, c2, s2⟩, hW₁, X', ⟨g', mk, t, L, e1, e2, hq, h1, hL, h2, h3⟩, st⟩ | ⟨q, vm₁, ⟨U', l2, c2, s2⟩, hW₁, X', ⟨g', mk, t, L, E, ce, e1, e2, hq, hce, hcv, hcl, h1, hL, h2, h3⟩, st⟩
  · dsimp only [Pt.U, Pt.locs, Pt.cells, Pt.slots] at X' e1 e2 h1 h2 h3 st
    subst h1; subst h2; subst h3
    exact Or.inl ⟨v, (T.setVm vm₁).calling g' mk (Value.ref b :: As).toArray, t, U', L, hT, X', hL, e1, e2, hq, st⟩
  · dsimp only [Pt.U, Pt.locs, Pt.cells, Pt.slots] at X' e1 e2 h1 h2 h3 st hcl
    subst h1; subst h2; subst h3
    exact Or.inr ⟨q, (T.setVm vm₁).calling g' mk (Value.ref b :: As).toArray, t, U', L, E, ce, hT, X', hL, e1, e2, hq, hce, hcv, vx_cls hW₁ hcl, st⟩
theorem vx_runS (S : CallFix p m c cc nL s args Ts own) (hM : vx_Met l y ws rm Pc Qc XC mc ms free) (cw : CallB R s args own index y bytes maxL ret ws rm mc ms n ∧ (Cond.static y).before args s = true) (hp : PreS s H Pc As)
    (hg : g.method = m) (hn : As.length = n) (hsize : g.locals.size = nL) (hstack : g.stack = As.reverse ++ rest) (hW : 2 * g.monitorRoom + (rest.map fun v => v.category).sum ≤ 8) (hdg : decode cc g.pc = .ok (.invokestatic index, 3)) (hf : cells + mc ≤ R.cells ∧ slots + ms ≤ R.slots) :
    vx_Run p l e R s m args below meth c H locs cells slots mc ms g rest (Qc As.toArray) XC free := by
  have hK : vx_Back l R p e below s args y 3 8 (PreOf R mc ms Pc) (PostOf Qc mc ms free) (vx_Post XC mc ms free) := vx_callBack cw.1 hM hp.1
  obtain ⟨⟨-, -, -, -, -, -, hcode, hini, hy, hlen, hl⟩, hstt⟩ := cw
  obtain ⟨hx, hb, hml, ho, -⟩ := S
  intro T hT X
  rcases vx_callS X hx (bytes := bytes) (maxL := maxL) (ret := ret) ho hl hstt hini hcode hy hK hg (hsize.trans hml.symm) (argsL := As) (rest := rest) (fun sig h => hn.trans (hlen sig h)) hstack hW (by rw [hb]; exact hdg)
    (fun vm₁ hW₁ => ⟨hf.1, hf.2, hp.2 (T.setVm vm₁) hT hW₁⟩) with ⟨v, vm₁, ⟨U', l2, c2, s2⟩, hW₁, X', ⟨g', mk, t, L, e1, e2, hq, h1, hL, h2, h3⟩, st⟩ | ⟨q, vm₁, ⟨U', l2, c2, s2⟩, hW₁, X', ⟨g', mk, t, L, E, ce, e1, e2, hq, hce, hcv, hcl, h1, hL, h2, h3⟩, st⟩
  · dsimp only [Pt.U, Pt.locs, Pt.cells, Pt.slots] at X' e1 e2 h1 h2 h3 st
    subst h1; subst h2; subst h3
    exact Or.inl ⟨v, (T.setVm vm₁).calling g' mk As.toArray, t, U', L, hT, X', hL, e1, e2, hq, st⟩
  · dsimp only [Pt.U, Pt.locs, Pt.cells, Pt.slots] at X' e1 e2 h1 h2 h3 st hcl
    subst h1; subst h2; subst h3
    exact Or.inr ⟨q, (T.setVm vm₁).calling g' mk As.toArray, t, U', L, E, ce, hT, X', hL, e1, e2, hq, hce, hcv, vx_cls hW₁ hcl, st⟩
end Runs
section Rows
variable {p : Program} {l : Launch} {e : Env} {R : Room} {s : State} {m : MethodId} {args : Array Value} {below : List Frame} {meth : Method} {c : Code} {H : Heap} {locs : List Loc} {cells slots : Nat} {Q : State → Prop}
variable {mc ms : Nat} {free : Addr → Prop} {A0 A1 : Nat → Prop} {H0 : Heap} {a : Array Value} {pc : Nat} {ls : Array Slot} {st0 rest : List Value}
theorem vx_keep {st₀ t T' : State} {L : List Loc} (h0 : st₀.heap = H) (e1 : T'.heap = t.heap) (hS : va_S A0 H0 H locs) (hA : ∀ q, q < H.size → A1 q → A0 q) (hf : ∀ q, free q → A0 q) (hL : ∀ q ∈ L, free q.base) (hF : va_F A1 st₀ t) :
    H.size ≤ T'.heap.size ∧ (∀ q : Nat, q < H.size → ¬ A1 q → T'.heap[q]? = H[q]?) ∧ va_S A0 H0 T'.heap (locs ++ L) := by
  obtain ⟨hz, hk⟩ := hF
  rw [h0] at hz hk
  exact ⟨by rw [e1]; exact hz, fun q h1 h2 => by rw [e1]; exact hk q h1 h2,
    ⟨Nat.le_trans hS.1 (by rw [e1]; exact hz), fun q h1 h2 => by rw [e1, hk q (Nat.lt_of_lt_of_le h1 hS.1) (fun z => h2 (hA q (Nat.lt_of_lt_of_le h1 hS.1) z))]; exact hS.2.1 q h1 h2, fun q hq => by
      rcases List.mem_append.mp hq with h | h
      · exact hS.2.2 q h
      · exact hf _ (hL q h)⟩⟩
theorem vx_calli {S SX : Type} {post : Int32 → S → Prop} {px : SX → Prop} {B : S → State → Prop} {BX : String → SX → State → Prop} {AX : Nat → Prop} (hr : vx_Run p l e R s m args below meth c H locs cells slots mc ms (F0 m pc ls st0) rest (va_Qi post B A1 a) (vx_X px BX AX) free) (hS : va_S A0 H0 H locs) (hA : ∀ q, q < H.size → A1 q → A0 q) (hf : ∀ q, free q → A0 q) (hAX : ∀ q, q < H.size → AX q → A0 q)
    (kx : ∀ (E : String) (ce : Cell) (q9 : Addr) (u : SX) (t : State) (H1 : Heap) (locs1 : List Loc), t.heap = H1 → s.vm.Alike t.vm → px u → BX E u t → H.size ≤ H1.size → (∀ q : Nat, q < H.size → ¬ AX q → H1[q]? = H[q]?) → va_S A0 H0 H1 locs1 → H1[q9]? = some ce → ce.vm = .none → s.vm.findClass E = some ce.cls → vx_W p l e R s m args below meth c H1 locs1 (cells + mc) (slots + ms) Q (F0 m pc ls rest) q9)
    (kk : ∀ (r : Int32) (u : S) (t : State) (H1 : Heap) (locs1 : List Loc), t.heap = H1 → s.vm.Alike t.vm → post r u → B u t → H.size ≤ H1.size → (∀ q : Nat, q < H.size → ¬ A1 q → H1[q]? = H[q]?) → va_S A0 H0 H1 locs1 → W p l e R s m args below meth c H1 locs1 (cells + mc) (slots + ms) Q (F0 m (pc + 3) ls (.int r :: rest))) : W p l e R s m args below meth c H locs cells slots Q (F0 m pc ls st0) := by
  intro T hT X
  rcases hr T hT X with ⟨v, st₀, t, T', L, h0, X', hL, e1, e2, ⟨⟨r, u, hv, hp, hb⟩, hF⟩, st⟩ | ⟨q, st₀, t, T', L, E, ce, h0, X', hL, e1, e2, ⟨u, hp, hb, hF⟩, hce, hcv, hcl, st⟩
  · cases hv
    obtain ⟨k1, k2, k3⟩ := vx_keep h0 e1 hS hA hf hL hF
    obtain ⟨t2, a1, b1⟩ := kk r u t T'.heap (locs ++ L) e1.symm (by rw [← e2]; exact X'.warmed.alike) hp hb k1 k2 k3 T' rfl X'
    exact ⟨t2, st t2 a1, b1⟩
  · obtain ⟨k1, k2, k3⟩ := vx_keep h0 e1 hS hAX hf hL hF
    obtain ⟨t2, a1, b1⟩ := kx E ce q u t T'.heap (locs ++ L) e1.symm (by rw [← e2]; exact X'.warmed.alike) hp hb k1 k2 k3 (by rw [e1]; exact hce) hcv hcl T' rfl X'
    exact ⟨t2, st.trans a1, b1⟩
theorem vx_calll {S SX : Type} {post : Int64 → S → Prop} {px : SX → Prop} {B : S → State → Prop} {BX : String → SX → State → Prop} {AX : Nat → Prop} (hr : vx_Run p l e R s m args below meth c H locs cells slots mc ms (F0 m pc ls st0) rest (va_Ql post B A1 a) (vx_X px BX AX) free) (hS : va_S A0 H0 H locs) (hA : ∀ q, q < H.size → A1 q → A0 q) (hf : ∀ q, free q → A0 q) (hAX : ∀ q, q < H.size → AX q → A0 q)
    (kx : ∀ (E : String) (ce : Cell) (q9 : Addr) (u : SX) (t : State) (H1 : Heap) (locs1 : List Loc), t.heap = H1 → s.vm.Alike t.vm → px u → BX E u t → H.size ≤ H1.size → (∀ q : Nat, q < H.size → ¬ AX q → H1[q]? = H[q]?) → va_S A0 H0 H1 locs1 → H1[q9]? = some ce → ce.vm = .none → s.vm.findClass E = some ce.cls → vx_W p l e R s m args below meth c H1 locs1 (cells + mc) (slots + ms) Q (F0 m pc ls rest) q9)
    (kk : ∀ (r : Int64) (u : S) (t : State) (H1 : Heap) (locs1 : List Loc), t.heap = H1 → s.vm.Alike t.vm → post r u → B u t → H.size ≤ H1.size → (∀ q : Nat, q < H.size → ¬ A1 q → H1[q]? = H[q]?) → va_S A0 H0 H1 locs1 → W p l e R s m args below meth c H1 locs1 (cells + mc) (slots + ms) Q (F0 m (pc + 3) ls (.long r :: rest))) : W p l e R s m args below meth c H locs cells slots Q (F0 m pc ls st0) := by
  intro T hT X
  rcases hr T hT X with ⟨v, st₀, t, T', L, h0, X', hL, e1, e2, ⟨⟨r, u, hv, hp, hb⟩, hF⟩, st⟩ | ⟨q, st₀, t, T', L, E, ce, h0, X', hL, e1, e2, ⟨u, hp, hb, hF⟩, hce, hcv, hcl, st⟩
  · cases hv
    obtain ⟨k1, k2, k3⟩ := vx_keep h0 e1 hS hA hf hL hF
    obtain ⟨t2, a1, b1⟩ := kk r u t T'.heap (locs ++ L) e1.symm (by rw [← e2]; exact X'.warmed.alike) hp hb k1 k2 k3 T' rfl X'
    exact ⟨t2, st t2 a1, b1⟩
  · obtain ⟨k1, k2, k3⟩ := vx_keep h0 e1 hS hAX hf hL hF
    obtain ⟨t2, a1, b1⟩ := kx E ce q u t T'.heap (locs ++ L) e1.symm (by rw [← e2]; exact X'.warmed.alike) hp hb k1 k2 k3 (by rw [e1]; exact hce) hcv hcl T' rfl X'
    exact ⟨t2, st.trans a1, b1⟩
theorem vx_callf {S SX : Type} {post : UInt32 → S → Prop} {px : SX → Prop} {B : S → State → Prop} {BX : String → SX → State → Prop} {AX : Nat → Prop} (hr : vx_Run p l e R s m args below meth c H locs cells slots mc ms (F0 m pc ls st0) rest (va_Qf post B A1 a) (vx_X px BX AX) free) (hS : va_S A0 H0 H locs) (hA : ∀ q, q < H.size → A1 q → A0 q) (hf : ∀ q, free q → A0 q) (hAX : ∀ q, q < H.size → AX q → A0 q)
    (kx : ∀ (E : String) (ce : Cell) (q9 : Addr) (u : SX) (t : State) (H1 : Heap) (locs1 : List Loc), t.heap = H1 → s.vm.Alike t.vm → px u → BX E u t → H.size ≤ H1.size → (∀ q : Nat, q < H.size → ¬ AX q → H1[q]? = H[q]?) → va_S A0 H0 H1 locs1 → H1[q9]? = some ce → ce.vm = .none → s.vm.findClass E = some ce.cls → vx_W p l e R s m args below meth c H1 locs1 (cells + mc) (slots + ms) Q (F0 m pc ls rest) q9)
    (kk : ∀ (r : UInt32) (u : S) (t : State) (H1 : Heap) (locs1 : List Loc), t.heap = H1 → s.vm.Alike t.vm → post r u → B u t → H.size ≤ H1.size → (∀ q : Nat, q < H.size → ¬ A1 q → H1[q]? = H[q]?) → va_S A0 H0 H1 locs1 → W p l e R s m args below meth c H1 locs1 (cells + mc) (slots + ms) Q (F0 m (pc + 3) ls (.float r :: rest))) : W p l e R s m args below meth c H locs cells slots Q (F0 m pc ls st0) := by
  intro T hT X
  rcases hr T hT X with ⟨v, st₀, t, T', L, h0, X', hL, e1, e2, ⟨⟨r, u, hv, hp, hb⟩, hF⟩, st⟩ | ⟨q, st₀, t, T', L, E, ce, h0, X', hL, e1, e2, ⟨u, hp, hb, hF⟩, hce, hcv, hcl, st⟩
  · cases hv
    obtain ⟨k1, k2, k3⟩ := vx_keep h0 e1 hS hA hf hL hF
    obtain ⟨t2, a1, b1⟩ := kk r u t T'.heap (locs ++ L) e1.symm (by rw [← e2]; exact X'.warmed.alike) hp hb k1 k2 k3 T' rfl X'
    exact ⟨t2, st t2 a1, b1⟩
  · obtain ⟨k1, k2, k3⟩ := vx_keep h0 e1 hS hAX hf hL hF
    obtain ⟨t2, a1, b1⟩ := kx E ce q u t T'.heap (locs ++ L) e1.symm (by rw [← e2]; exact X'.warmed.alike) hp hb k1 k2 k3 (by rw [e1]; exact hce) hcv hcl T' rfl X'
    exact ⟨t2, st.trans a1, b1⟩
theorem vx_calld {S SX : Type} {post : UInt64 → S → Prop} {px : SX → Prop} {B : S → State → Prop} {BX : String → SX → State → Prop} {AX : Nat → Prop} (hr : vx_Run p l e R s m args below meth c H locs cells slots mc ms (F0 m pc ls st0) rest (va_Qd post B A1 a) (vx_X px BX AX) free) (hS : va_S A0 H0 H locs) (hA : ∀ q, q < H.size → A1 q → A0 q) (hf : ∀ q, free q → A0 q) (hAX : ∀ q, q < H.size → AX q → A0 q)
    (kx : ∀ (E : String) (ce : Cell) (q9 : Addr) (u : SX) (t : State) (H1 : Heap) (locs1 : List Loc), t.heap = H1 → s.vm.Alike t.vm → px u → BX E u t → H.size ≤ H1.size → (∀ q : Nat, q < H.size → ¬ AX q → H1[q]? = H[q]?) → va_S A0 H0 H1 locs1 → H1[q9]? = some ce → ce.vm = .none → s.vm.findClass E = some ce.cls → vx_W p l e R s m args below meth c H1 locs1 (cells + mc) (slots + ms) Q (F0 m pc ls rest) q9)
    (kk : ∀ (r : UInt64) (u : S) (t : State) (H1 : Heap) (locs1 : List Loc), t.heap = H1 → s.vm.Alike t.vm → post r u → B u t → H.size ≤ H1.size → (∀ q : Nat, q < H.size → ¬ A1 q → H1[q]? = H[q]?) → va_S A0 H0 H1 locs1 → W p l e R s m args below meth c H1 locs1 (cells + mc) (slots + ms) Q (F0 m (pc + 3) ls (.double r :: rest))) : W p l e R s m args below meth c H locs cells slots Q (F0 m pc ls st0) := by
  intro T hT X
  rcases hr T hT X with ⟨v, st₀, t, T', L, h0, X', hL, e1, e2, ⟨⟨r, u, hv, hp, hb⟩, hF⟩, st⟩ | ⟨q, st₀, t, T', L, E, ce, h0, X', hL, e1, e2, ⟨u, hp, hb, hF⟩, hce, hcv, hcl, st⟩
  · cases hv
    obtain ⟨k1, k2, k3⟩ := vx_keep h0 e1 hS hA hf hL hF
    obtain ⟨t2, a1, b1⟩ := kk r u t T'.heap (locs ++ L) e1.symm (by rw [← e2]; exact X'.warmed.alike) hp hb k1 k2 k3 T' rfl X'
    exact ⟨t2, st t2 a1, b1⟩
  · obtain ⟨k1, k2, k3⟩ := vx_keep h0 e1 hS hAX hf hL hF
    obtain ⟨t2, a1, b1⟩ := kx E ce q u t T'.heap (locs ++ L) e1.symm (by rw [← e2]; exact X'.warmed.alike) hp hb k1 k2 k3 (by rw [e1]; exact hce) hcv hcl T' rfl X'
    exact ⟨t2, st.trans a1, b1⟩
theorem vx_callv {S SX : Type} {post : S → Prop} {px : SX → Prop} {B : S → State → Prop} {BX : String → SX → State → Prop} {AX : Nat → Prop} (hr : vx_Run p l e R s m args below meth c H locs cells slots mc ms (F0 m pc ls st0) rest (va_Qv post B A1 a) (vx_X px BX AX) free) (hS : va_S A0 H0 H locs) (hA : ∀ q, q < H.size → A1 q → A0 q) (hf : ∀ q, free q → A0 q) (hAX : ∀ q, q < H.size → AX q → A0 q)
    (kx : ∀ (E : String) (ce : Cell) (q9 : Addr) (u : SX) (t : State) (H1 : Heap) (locs1 : List Loc), t.heap = H1 → s.vm.Alike t.vm → px u → BX E u t → H.size ≤ H1.size → (∀ q : Nat, q < H.size → ¬ AX q → H1[q]? = H[q]?) → va_S A0 H0 H1 locs1 → H1[q9]? = some ce → ce.vm = .none → s.vm.findClass E = some ce.cls → vx_W p l e R s m args below meth c H1 locs1 (cells + mc) (slots + ms) Q (F0 m pc ls rest) q9)
    (kk : ∀ (u : S) (t : State) (H1 : Heap) (locs1 : List Loc), t.heap = H1 → s.vm.Alike t.vm → post u → B u t → H.size ≤ H1.size → (∀ q : Nat, q < H.size → ¬ A1 q → H1[q]? = H[q]?) → va_S A0 H0 H1 locs1 → W p l e R s m args below meth c H1 locs1 (cells + mc) (slots + ms) Q (F0 m (pc + 3) ls (rest))) : W p l e R s m args below meth c H locs cells slots Q (F0 m pc ls st0) := by
  intro T hT X
  rcases hr T hT X with ⟨v, st₀, t, T', L, h0, X', hL, e1, e2, ⟨⟨u, hv, hp, hb⟩, hF⟩, st⟩ | ⟨q, st₀, t, T', L, E, ce, h0, X', hL, e1, e2, ⟨u, hp, hb, hF⟩, hce, hcv, hcl, st⟩
  · cases hv
    obtain ⟨k1, k2, k3⟩ := vx_keep h0 e1 hS hA hf hL hF
    obtain ⟨t2, a1, b1⟩ := kk u t T'.heap (locs ++ L) e1.symm (by rw [← e2]; exact X'.warmed.alike) hp hb k1 k2 k3 T' rfl X'
    exact ⟨t2, st t2 a1, b1⟩
  · obtain ⟨k1, k2, k3⟩ := vx_keep h0 e1 hS hAX hf hL hF
    obtain ⟨t2, a1, b1⟩ := kx E ce q u t T'.heap (locs ++ L) e1.symm (by rw [← e2]; exact X'.warmed.alike) hp hb k1 k2 k3 (by rw [e1]; exact hce) hcv hcl T' rfl X'
    exact ⟨t2, st.trans a1, b1⟩
/-- caught by the row x of this method's table; the rows ahead don't take it -/
theorem vx_catch {own name : String} {E : String} {ce : Cell} {q : Addr} (hown : s.vm.findClass own = some m.cls) (pre : List ExceptionTableEntry) (x : ExceptionTableEntry) (suf : List ExceptionTableEntry) (hsplit : c.exceptionTable.toList = pre ++ x :: suf)
    (hpass : ∀ z ∈ pre, covers z pc = false ∨ (z.catchType ≠ 0 ∧ ∃ nm : String, (Cond.classLink own z.catchType nm).before args s = true ∧ va_Nc E nm s)) (hx : covers x pc = true) (h0 : x.catchType ≠ 0)
    (hlink : (Cond.classLink own x.catchType name).before args s = true) (hcast : (Cond.castable E name).before args s = true) (hcell : H[q]? = some ce) (hv : ce.vm = .none) (hcl : s.vm.findClass E = some ce.cls)
    (kk : W p l e R s m args below meth c H locs cells slots Q (F0 m x.handlerPc ls [.ref q])) : vx_W p l e R s m args below meth c H locs cells slots Q (F0 m pc ls rest) q := by
  intro T hT X
  have hpl : e.platform.magicAccessors = ({} : Platform).magicAccessors := by rw [X.admits.platform]
  obtain ⟨c3, c4, hc3, hc4, hasg⟩ := Cond.castable_spec hcast
  cases Option.some.inj (hc3.symm.trans hcl)
  obtain ⟨c5, hc5, hcl5⟩ := Cond.classLink_spec hown hlink e.platform hpl
  cases Option.some.inj (hc4.symm.trans hc5)
  obtain ⟨vm', X', st⟩ := X.thenCaughtThrough q (g := F0 m pc ls rest) rfl (Steps.refl _) (by rw [hT]; exact hcell) (by rw [hv]; rfl) (by obtain ⟨k9, h9, -⟩ := Vm.findClass_spec hcl; exact ⟨k9, h9⟩) pre x suf hsplit
    (fun z hz => by
      rcases hpass z hz with h | ⟨hz0, nm, hl1, hn1⟩
      · exact Or.inl h
      · obtain ⟨c6, hc6, hcl6⟩ := Cond.classLink_spec hown hl1 e.platform hpl
        obtain ⟨a8, b8, h1, h2, h3⟩ := hn1
        cases Option.some.inj (h1.symm.trans hcl)
        cases Option.some.inj (h2.symm.trans hc6)
        exact Or.inr ⟨hz0, _, hcl6, h3⟩) hx (Or.inr ⟨h0, c4, hcl5, hasg⟩)
  obtain ⟨t, a1, b1⟩ := kk (T.setVm vm') hT X'
  exact ⟨t, st.trans a1, b1⟩
end Rows
section Ends
variable {p : Program} {l : Launch} {e : Env} {R : Room} {s : State} {m : MethodId} {args : Array Value} {below : List Frame} {meth : Method} {c : Code} {H : Heap} {locs : List Loc} {cells slots : Nat} {Q : State → Prop}
variable {mc ms : Nat} {free : Addr → Prop} {A0 A1 : Nat → Prop} {H0 : Heap} {a : Array Value} {ls : Array Slot} {st0 rest : List Value}
variable {Qc : Array Value → State → Outcome → State → Prop} {XC : String → State → State → Prop}
/-- what a body that may throw owes at its end -/
def vx_MQ (below : List Frame) (Qc : Array Value → State → Outcome → State → Prop) (XC : String → State → State → Prop) (a : Array Value) (s : State) (mc ms : Nat) (free : Addr → Prop) : State → Prop := fun t =>
  ∃ o, t.status = .running ∧ Ended t below o ∧ vx_Q Qc XC mc ms free a s o t
theorem vx_ret {g : JFrame} {mc ms : Nat} (k : W p l e R s m args below meth c H locs cells slots (MQ below Qc args s mc ms free) g) : W p l e R s m args below meth c H locs cells slots (vx_MQ below Qc XC args s mc ms free) g := by
  intro T hT X
  obtain ⟨t, a1, o, b1, b2, b3, b4⟩ := k T hT X
  exact ⟨t, a1, o, b1, b2, Or.inl ⟨b3, b4⟩⟩
/-- not caught here: it goes on to the caller -/
theorem vx_widen {g : JFrame} {q : Addr} {k n : Nat} (h1 : cells ≤ k) (h2 : slots ≤ n) (kk : vx_W p l e R s m args below meth c H locs k n Q g q) : vx_W p l e R s m args below meth c H locs cells slots Q g q := fun T hT X => kk T hT (stand_widen X h1 h2)
theorem vx_out {pc : Nat} {E : String} {ce : Cell} {q : Addr} {mc ms : Nat} (hout : ∀ x ∈ c.exceptionTable.toList, covers x pc = false) (hlocks : meth.locks = false) (hcell : H[q]? = some ce) (hv : ce.vm = .none) (hcl : s.vm.findClass E = some ce.cls)
    (hx : ∀ t : State, t.heap = H → s.vm.Alike t.vm → XC E s t) (hf : ∀ z ∈ locs, free z.base) (hc : cells ≤ mc) (hs : slots ≤ ms) :
    vx_W p l e R s m args below meth c H locs cells slots (vx_MQ below Qc XC args s mc ms free) (F0 m pc ls rest) q := by
  intro T hT X
  obtain ⟨st1, hrun, hend, hW, hsm⟩ := X.leaveThrown q (g := F0 m pc ls rest) rfl rfl rfl hout hlocks
  have hcell9 : (T.setFrames (.throwing q :: below)).heap[q]? = some ce := by
    show T.heap[q]? = some ce
    rw [hT]; exact hcell
  exact ⟨_, st1, .threw q, hrun, hend, Or.inr ⟨q, rfl, E, ce, locs, hx _ hT hW.alike, hcell9, hv, hcl, hW, hsm.mono hc hs, hf⟩⟩
theorem vx_frame {U : State} {k n : Nat} (h : s.sameButNew ({ U with vm := s.vm } : State) locs k n) : s.heap.size ≤ U.heap.size ∧ ∀ q : Nat, q < s.heap.size → (∀ z ∈ locs, z.base ≠ q) → U.heap[q]? = s.heap[q]? := by
  obtain ⟨-, h2, -, -, -, h6⟩ := h
  refine ⟨h2, fun q hq hz => ?_⟩
  obtain ⟨c9, e1, e2, e3, e4⟩ := h6 q _ (Array.getElem?_eq_getElem hq)
  have hs : c9.slots = (s.heap[q]).slots := Array.ext_getElem? fun i => e4 i fun hm => hz _ hm rfl
  have h9 : c9 = s.heap[q] := by
    rw [hs] at e2
    exact e2
  have e5 : U.heap[q]? = some c9 := e1
  rw [e5, h9, Array.getElem?_eq_getElem hq]
/-- the words of a throw but the four that speak of the heap -/
def vx_no (w : Cond) : Bool := decide (w ≠ .isRef (.static Bundle.tN "UNASSIGNED_STACK" Bundle.steD)) && decide (w ≠ .isRef (.static Bundle.tN "SUPPRESSED_SENTINEL" Bundle.listD)) && decide (w ≠ .laysStatic Bundle.tN "UNASSIGNED_STACK" Bundle.steD) && decide (w ≠ .laysStatic Bundle.tN "SUPPRESSED_SENTINEL" Bundle.listD)
def vx_at0 (own : String) (ic : Nat) (X : String) (names : List String) : List Cond := (Bundle.ownAtoms0 own ic X names).filter vx_no
def vx_atS (own : String) (ic : Nat) (X : String) (names : List String) : List Cond := (Bundle.ownAtoms own ic X names).filter vx_no
/-- a word that the tables alone decide, or a good one -/
def vx_ot (w : Cond) : Bool := w.onTables || goodWord w
theorem vx_ot_at {args a' : Array Value} {s U : State} {w : Cond} (hW : s.WarmedH U.vm) (hvm : s.vm = U.vm) (hg : vx_ot w = true) (h : w.before args s = true) : w.before a' U = true := by
  simp only [vx_ot, Bool.or_eq_true] at hg
  rcases hg with hg | hg
  · exact va_tabs hg hvm h
  · exact word_at hW (good_of_word hg) h
/-- a list's words: the good ones out of the method's own list, the others by premises of their own -/
theorem vx_hat {args : Array Value} {s : State} {L B : List Cond} (h1 : ∀ w ∈ L.filter goodWord, w.before args s = true) (h2 : ∀ w ∈ L.filter (fun w => !goodWord w), w ∈ B) (h3 : ∀ w ∈ B, w.before args s = true) : ∀ w ∈ L, w.before args s = true := by
  intro w hw
  by_cases g : goodWord w = true
  · exact h1 w (List.mem_filter.mpr ⟨hw, g⟩)
  · refine h3 w (h2 w (List.mem_filter.mpr ⟨hw, ?_⟩))
    show (!goodWord w) = true
    cases hgw : goodWord w
    · rfl
    · exact absurd hgw g
theorem vx_c {args : Array Value} {s : State} {w : Cond} {B : List Cond} (h : w.before args s = true) (t : ∀ w ∈ B, w.before args s = true) : ∀ w' ∈ w :: B, w'.before args s = true := fun w' h' => (List.mem_cons.mp h').elim (fun e => by rw [e]; exact h) (t w')
theorem vx_n {args : Array Value} {s : State} : ∀ w ∈ ([] : List Cond), w.before args s = true := fun _ h => nomatch h
theorem vx_own {args : Array Value} {s : State} {L : List Cond} (h1 : ∀ w ∈ L.filter vx_no, w.before args s = true)
    (hU : (Cond.isRef (.static Bundle.tN "UNASSIGNED_STACK" Bundle.steD)).before args s = true) (hN : (Cond.isRef (.static Bundle.tN "SUPPRESSED_SENTINEL" Bundle.listD)).before args s = true)
    (lU : (Cond.laysStatic Bundle.tN "UNASSIGNED_STACK" Bundle.steD).before args s = true) (lN : (Cond.laysStatic Bundle.tN "SUPPRESSED_SENTINEL" Bundle.listD).before args s = true) : ∀ w ∈ L, w.before args s = true := by
  intro w hw
  by_cases e1 : w = .isRef (.static Bundle.tN "UNASSIGNED_STACK" Bundle.steD)
  · rw [e1]; exact hU
  · by_cases e2 : w = .isRef (.static Bundle.tN "SUPPRESSED_SENTINEL" Bundle.listD)
    · rw [e2]; exact hN
    · by_cases e3 : w = .laysStatic Bundle.tN "UNASSIGNED_STACK" Bundle.steD
      · rw [e3]; exact lU
      · by_cases e4 : w = .laysStatic Bundle.tN "SUPPRESSED_SENTINEL" Bundle.listD
        · rw [e4]; exact lN
        · exact h1 w (List.mem_filter.mpr ⟨hw, by unfold vx_no; rw [decide_eq_true e1, decide_eq_true e2, decide_eq_true e3, decide_eq_true e4]; rfl⟩)
/-- where a static field lies, its class's statics cell in H -/
def vx_L (C n d : String) (A : Nat → Prop) (U : State) (H : Heap) : Prop := ∃ (c : ClassId) (k : Class) (i : Nat) (f : Field) (a : Nat) (cell : Cell), U.vm.findClass C = some c ∧ U.fieldFound? C n d = some (c, k, i, f) ∧ f.isStatic = true ∧ k.statics = some a ∧ H[a]? = some cell ∧ cell.vm.isStatics = true ∧ cell.cls = c ∧ f.slot < cell.slots.size ∧ k.staticTypes[f.slot]? = some f.type ∧ ¬ A a
theorem vx_L.moved {C n d : String} {A : Nat → Prop} {u U : State} {H : Heap} (hvm : u.vm.Alike U.vm) (h : vx_L C n d A u H) : vx_L C n d A U H := by
  obtain ⟨c, k, i, f, a, cell, h1, h2, h3, h4, h5, h6, h7, h8, h9, h10⟩ := h
  obtain ⟨k', hi', he⟩ := State.fieldFound?_setVm hvm h2
  exact ⟨c, k', i, f, a, cell, by rw [hvm.findClass]; exact h1, hi', h3, by rw [he]; exact h4, h5, h6, h7, h8, by rw [he]; exact h9, h10⟩
theorem vx_L.kept {C n d : String} {A : Nat → Prop} {U : State} {H H1 : Heap} (h : vx_L C n d A U H) (hq : ∀ a : Nat, a < H.size → ¬ A a → H1[a]? = H[a]?) : vx_L C n d A U H1 := by
  obtain ⟨c, k, i, f, a, cell, h1, h2, h3, h4, h5, h6, h7, h8, h9, h10⟩ := h
  exact ⟨c, k, i, f, a, cell, h1, h2, h3, h4, by rw [hq a (Array.getElem?_eq_some_iff.mp h5).1 h10]; exact h5, h6, h7, h8, h9, h10⟩
theorem vx_L.narrow {C n d : String} {A B : Nat → Prop} {U : State} {H : Heap} (h : vx_L C n d A U H) (hAB : ∀ q, B q → A q) : vx_L C n d B U H := by
  obtain ⟨c, k, i, f, a, cell, h1, h2, h3, h4, h5, h6, h7, h8, h9, h10⟩ := h
  exact ⟨c, k, i, f, a, cell, h1, h2, h3, h4, h5, h6, h7, h8, h9, fun z => h10 (hAB _ z)⟩
theorem vx_L.word {C n d : String} {A : Nat → Prop} {s : State} {args : Array Value} (h : vx_L C n d A s s.heap) : (Cond.laysStatic C n d).before args s = true := by
  obtain ⟨c, k, i, f, a, cell, h1, h2, h3, h4, h5, h6, h7, h8, h9, -⟩ := h
  show (Cond.laysStatic C n d).holds args s none s [] = true
  exact Cond.laysStatic_of h1 h2 h3 h4 h5 h6 h7 h8 h9
/-- .. and what it holds: null or some reference -/
def vx_Zq (C n d : String) (A : Nat → Prop) (U : State) (H : Heap) : Prop := va_Zq C n d A U H ∧ vx_L C n d A U H
theorem vx_Zq.moved {C n d : String} {A : Nat → Prop} {u U : State} {H : Heap} (hvm : u.vm.Alike U.vm) (h : vx_Zq C n d A u H) : vx_Zq C n d A U H := ⟨va_Zq.moved hvm h.1, vx_L.moved hvm h.2⟩
theorem vx_Zq.kept {C n d : String} {A : Nat → Prop} {U : State} {H H1 : Heap} (h : vx_Zq C n d A U H) (hq : ∀ a : Nat, a < H.size → ¬ A a → H1[a]? = H[a]?) : vx_Zq C n d A U H1 := ⟨va_Zq.kept h.1 hq, vx_L.kept h.2 hq⟩
theorem vx_Zq.narrow {C n d : String} {A B : Nat → Prop} {U : State} {H : Heap} (h : vx_Zq C n d A U H) (hAB : ∀ q, B q → A q) : vx_Zq C n d B U H := ⟨va_Zq.narrow h.1 hAB, vx_L.narrow h.2 hAB⟩
theorem vx_Zqof {args : Array Value} {s : State} {C n d : String} {A : Nat → Prop} (hl : (Cond.laysStatic C n d).before args s = true) (hini : (Cond.initialized C).before args s = true) (h : (Cond.isRef (.static C n d)).before args s = true) (hA : ∀ a : Nat, a < s.heap.size → ¬ A a) : vx_Zq C n d A s s.heap := by
  refine ⟨va_Zqof hl hini h hA, ?_⟩
  obtain ⟨c, k, i, f, a, cell, h1, h2, h3, h4, h5, h6, h7, h8, h9⟩ := Cond.laysStatic_spec hl
  exact ⟨c, k, i, f, a, cell, h1, h2, h3, h4, h5, h6, h7, h8, h9, hA a (Array.getElem?_eq_some_iff.mp h5).1⟩
theorem vx_isRef {C n d : String} {v : Value} {A : Nat → Prop} {s : State} {args : Array Value} (h : va_Z C n d v A s s.heap) (hv : v.isRef = true) : (Cond.isRef (.static C n d)).before args s = true := by
  obtain ⟨cf, kf, fi, f, a, cell, h1, h2, h3, h4, h5, h6, h7, -⟩ := h
  have he : (Term.static C n d).eval args s none [] s = some v := by
    simp [Term.eval, State.fieldNamed?, h1, h2, h4, h5, h6, h7]
  simp only [Cond.before, Cond.holds, Cond.value, he]
  cases v <;> simp_all [Value.isRef]
theorem vx_isRefq {C n d : String} {A : Nat → Prop} {s : State} {args : Array Value} (h : va_Zq C n d A s s.heap) : (Cond.isRef (.static C n d)).before args s = true := by
  rcases h with h | ⟨t, h⟩
  · exact vx_isRef h rfl
  · exact vx_isRef h rfl
/-- the same frame, seen from here: as if the method were called anew in this heap -/
theorem vx_rebase {T : State} (X : Stand p l e R s m args below meth c T locs cells slots) {R' : Room} (hf : R'.frames ≤ R.frames) (hl : R'.locals ≤ R.locals) (hc : cells + R'.cells ≤ R.cells) (hs : slots + R'.slots ≤ R.slots) :
    Stand p l e R' ((T.setVm s.vm).setFrames (.invoking m args :: below)) m args below meth c T [] 0 0 := by
  have htop : (T.setVm s.vm).topJava?.isSome := X.here.top
  have hF : ((T.setVm s.vm).setFrames (.invoking m args :: below)).frames = .invoking m args :: below := State.frames_setFrames _ (State.cur_lt_of_top htop)
  obtain ⟨g₀, hg0⟩ := Option.isSome_iff_exists.mp htop
  obtain ⟨r, hr⟩ := State.topJava?_eq_some.mp hg0
  have hl9 : e.platform.stackLimits (T.setVm s.vm).me = e.platform.stackLimits s.me := X.limits
  have hb9 : (T.setVm s.vm).me.stackBytes = s.me.stackBytes := X.bytes
  refine ⟨X.admits, X.cas, X.clock, hF, ?_, X.hears, X.method, X.code, X.here, X.tail, X.warmed, ?_, ?_, ?_⟩
  · have h := X.room
    have hU : ((T.setVm s.vm).setFrames (.invoking m args :: below)).localsInUse = s.localsInUse := by
      rw [State.localsInUse_invoking hF (meth := meth) (c := c) X.method X.code, State.localsInUse_invoking X.frames X.method X.code]
    simp only [State.hasRoom, Bool.and_eq_true, decide_eq_true_eq] at h ⊢
    obtain ⟨⟨⟨⟨h1, h2, h3, h4, h5, h6⟩, h7⟩, h8⟩, h9⟩ := h
    rw [X.frames, List.length_cons] at h2 h3
    have q1 := X.heapSize
    have q2 := X.used
    simp only [hF, hU, List.length_cons, State.stackLimits_setFrames, State.stackBytes_setFrames, hl9, hb9]
    refine ⟨⟨⟨⟨by omega, by omega, by omega, by omega, by omega, h6⟩, ?_⟩, ?_⟩, X.book⟩
    · show T.heap.size + R'.cells ≤ e.platform.maxCells
      omega
    · show T.slotsUsed + R'.slots ≤ e.platform.maxSlots
      omega
  · rw [State.stackLimits_setFrames]; rfl
  · rw [State.stackBytes_setFrames]; rfl
  · refine ⟨?_, Nat.le_refl _, Nat.le_refl _, ?_, ?_, fun a c9 h9 => ⟨c9, h9, rfl, rfl, fun _ _ => rfl⟩⟩
    · obtain ⟨t, ht, -⟩ := State.frames_cons hr
      show T.setVm s.vm = { ((T.setVm s.vm).setFrames (.invoking m args :: below)).setFrames (T.setVm s.vm).frames with heap := T.heap, slotsUsed := T.slotsUsed }
      rw [State.setFrames_setFrames, State.setFrames_self ht]
      rfl
    · show T.slotsUsed = T.slotsUsed + ((T.heap.toList.drop T.heap.size).map (·.slots.size)).sum
      rw [List.drop_eq_nil_of_le (Nat.le_of_eq Array.length_toList)]
      rfl
    · show ((T.heap.toList.drop T.heap.size).map (·.slots.size)).sum ≤ 0
      rw [List.drop_eq_nil_of_le (Nat.le_of_eq Array.length_toList)]
      exact Nat.le_refl _
/-- 'throw new E()': new; dup; invokespecial; athrow -/
theorem vx_throw0 {cc : ByteArray} {pc : Nat} (hexec : p.tables.exec = Jvm.exec) (hb : c.code = cc) (hl : l.stackTraces = false) {own cls : String} {names : List String} {ik ic mc ms : Nat} {A : Nat → Prop}
    (hown : s.vm.findClass own = some m.cls) (hcls : Bundle.fit cls = true) (hnames : ∀ n ∈ names, Bundle.fit n = true)
    (hk : (Cond.classLink own ik cls).before args s = true) (hini : (Cond.initialized cls).before args s = true) (hat : ∀ w ∈ vx_at0 own ic cls names, w.before args s = true)
    (hgood : ∀ w ∈ Cond.classLink own ik cls :: Cond.initialized cls :: vx_at0 own ic cls names, vx_ot w = true)
    (hU : vx_Zq Bundle.tN "UNASSIGNED_STACK" Bundle.steD A s s.heap) (hN : vx_Zq Bundle.tN "SUPPRESSED_SENTINEL" Bundle.listD A s s.heap) (hS : va_S A s.heap H locs) (hsize : ls.size = c.maxLocals)
    (d0 : decode cc pc = .ok (.new ik, 3)) (d3 : decode cc (pc + 3) = .ok (.dup, 1)) (d4 : decode cc (pc + 4) = .ok (.invokespecial ic, 3)) (d7 : decode cc (pc + 7) = .ok (.athrow, 1))
    (hout : ∀ x ∈ c.exceptionTable.toList, covers x (pc + 7) = false)
    (hRframes : names.length + 3 < R.frames) (hRlocals : (rest.map fun v => v.category).sum + (13 * (names.length + 1) + 42) ≤ R.locals) (hRcells : cells + 1 ≤ R.cells) (hRslots : slots + 6 ≤ R.slots) (hlocks : meth.locks = false)
    (hx : ∀ t : State, s.vm.Alike t.vm → H.size ≤ t.heap.size → (∀ q : Nat, q < H.size → t.heap[q]? = H[q]?) → XC cls s t)
    (hf : ∀ z ∈ locs, free z.base) (hc : cells + 1 ≤ mc) (hs : slots + 6 ≤ ms) :
    W p l e R s m args below meth c H locs cells slots (vx_MQ below Qc XC args s mc ms free) (F0 m pc ls rest) := by
  intro T hT X
  have htr : e.platform.stackTraces = false := (show e.platform.stackTraces = l.stackTraces by rw [X.admits.platform]).trans hl
  have Y := vx_rebase X (R' := { frames := R.frames, locals := R.locals, cells := 1, slots := 6 }) (Nat.le_refl _) (Nat.le_refl _) hRcells hRslots
  obtain ⟨s', hA⟩ : ∃ z, z = (T.setVm s.vm).setFrames (.invoking m args :: below) := ⟨_, rfl⟩
  rw [← hA] at Y
  have hvm : s'.vm = s.vm := by rw [hA]; rfl
  have hhp : s'.heap = H := by rw [hA]; exact hT
  have hW0 : s.WarmedH s'.vm := by rw [hvm]; exact State.WarmedH.refl s
  have hat' : ∀ w ∈ vx_at0 own ic cls names, w.before args s' = true := fun w hw => vx_ot_at hW0 hvm.symm (hgood w (List.mem_cons_of_mem _ (List.mem_cons_of_mem _ hw))) (hat w hw)
  have hk' : (Cond.classLink own ik cls).before args s' = true := vx_ot_at hW0 hvm.symm (hgood _ List.mem_cons_self) hk
  have hini' : (Cond.initialized cls).before args s' = true := vx_ot_at hW0 hvm.symm (hgood _ (List.mem_cons_of_mem _ List.mem_cons_self)) hini
  have hU' : vx_Zq Bundle.tN "UNASSIGNED_STACK" Bundle.steD A s' s'.heap := by rw [hhp]; exact vx_Zq.moved hW0.alike (hU.kept hS.2.1)
  have hN' : vx_Zq Bundle.tN "SUPPRESSED_SENTINEL" Bundle.listD A s' s'.heap := by rw [hhp]; exact vx_Zq.moved hW0.alike (hN.kept hS.2.1)
  have h : ∀ w ∈ Bundle.ownAtoms0 own ic cls names, w.before args s' = true := vx_own hat' (vx_isRefq hU'.1) (vx_isRefq hN'.1) hU'.2.word hN'.2.word
  have hown' : s'.vm.findClass own = some m.cls := by rw [hvm]; exact hown
  have hins : (Cond.instantiable cls 6).before args s' = true := h _ (by simp [Bundle.ownAtoms0])
  obtain ⟨vm₁, cX, kX, hfX, hkX, -, -, X₁, st1⟩ := Y.newCold hexec (own := own) (C := cls) (index := ik) (n := 6) hown' hk' hins hini'
    (g := F0 m pc ls rest) rfl (by rw [hb]; exact d0) (Nat.le_refl _) (Nat.le_refl _)
  generalize hT1 : (T.setVm vm₁).pushCell { cls := cX, slots := kX.instanceTypes.map defaultValue, vm := .none } = T1 at X₁ st1
  have hcat : (Value.ref T.heap.size).category = 1 := rfl
  have hcellA : T1.heap[T.heap.size]? = some (freshCell cX kX) := by rw [← hT1]; exact State.heap_pushCell_size _ _
  have d3' : decode c.code (pc + 3) = .ok (.dup, 1) := by rw [hb]; exact d3
  obtain ⟨U, hsteps, hrun, hend, hW, hsame, ce, hce, hO⟩ := X₁.ctorThrow0 hexec htr (own := own) (cls := cls) (names := names) (ic := ic) hown' hcls hnames h (fun x hx => nomatch hx) hfX hkX hcellA (by rw [hhp, hT]; exact Nat.le_refl _)
    (g := { method := m, pc := pc + 4, locals := ls, stack := .ref T.heap.size :: .ref T.heap.size :: rest, locked := none }) rfl hsize rfl rfl (rest := rest) rfl
    (by rw [hb]; exact d4) (by rw [hb]; exact d7) hout hRframes (by simp only [List.map_cons, List.sum_cons, hcat]; omega) hlocks
  obtain ⟨f1, f2⟩ := vx_frame hsame
  rw [hhp] at f1 f2
  have hWs : s.WarmedH U.vm := State.WarmedH.trans hW0 hW
  have hcl : s.vm.findClass cls = some ce.cls := by
    have h9 := hO.cls
    rw [hvm] at h9
    exact h9
  have hall : s.sameButNew ({ U with vm := s.vm } : State) locs mc ms := by
    subst hA
    obtain ⟨e1, e2⟩ := hsame
    rw [State.setFrames_setFrames] at e1
    have h2 : (T.setVm s.vm).sameButNew ({ U with vm := s.vm } : State) [] (0 + 1) (0 + 6) := ⟨e1, e2⟩
    have h3 := X.same.trans h2
    rw [List.append_nil] at h3
    exact h3.mono hc hs
  refine ⟨U, ?_, .threw T.heap.size, hrun, hend, Or.inr ⟨T.heap.size, rfl, cls, ce, locs, hx U hWs.alike f1 (fun q hq => f2 q hq (fun z hz => nomatch hz)), hce, hO.vm, hcl, hWs, hall, hf⟩⟩
  refine st1 _ ?_
  show Steps p.tables e below (T1.setTop { method := m, pc := pc + 3, locals := ls, stack := .ref T.heap.size :: rest, locked := none }) _
  jvm_step X₁.here [X₁.here.top, hexec, d3', Value.category]
  exact hsteps
/-- 'throw new E("text")': new; dup; ldc; invokespecial; athrow -/
theorem vx_throwS {cc : ByteArray} {pc : Nat} (hexec : p.tables.exec = Jvm.exec) (hb : c.code = cc) (hl : l.stackTraces = false) {own cls text : String} {names : List String} {ik is ic mc ms sa : Nat} {A : Nat → Prop}
    (hown : s.vm.findClass own = some m.cls) (hcls : Bundle.fit cls = true) (hnames : ∀ n ∈ names, Bundle.fit n = true)
    (hk : (Cond.classLink own ik cls).before args s = true) (hini : (Cond.initialized cls).before args s = true) (hstr : vk_R own is text sa s) (hat : ∀ w ∈ vx_atS own ic cls names, w.before args s = true)
    (hgood : ∀ w ∈ Cond.classLink own ik cls :: Cond.initialized cls :: vx_atS own ic cls names, vx_ot w = true)
    (hU : vx_Zq Bundle.tN "UNASSIGNED_STACK" Bundle.steD A s s.heap) (hN : vx_Zq Bundle.tN "SUPPRESSED_SENTINEL" Bundle.listD A s s.heap) (hS : va_S A s.heap H locs) (hsize : ls.size = c.maxLocals)
    (d0 : decode cc pc = .ok (.new ik, 3)) (d3 : decode cc (pc + 3) = .ok (.dup, 1)) (d4 : decode cc (pc + 4) = .ok (.ldc is, 2)) (d6 : decode cc (pc + 6) = .ok (.invokespecial ic, 3)) (d9 : decode cc (pc + 9) = .ok (.athrow, 1))
    (hout : ∀ x ∈ c.exceptionTable.toList, covers x (pc + 9) = false)
    (hRframes : names.length + 3 < R.frames) (hRlocals : (rest.map fun v => v.category).sum + (13 * (names.length + 1) + 43) ≤ R.locals) (hRcells : cells + 1 ≤ R.cells) (hRslots : slots + 6 ≤ R.slots) (hlocks : meth.locks = false)
    (hx : ∀ t : State, s.vm.Alike t.vm → H.size ≤ t.heap.size → (∀ q : Nat, q < H.size → t.heap[q]? = H[q]?) → XC cls s t)
    (hf : ∀ z ∈ locs, free z.base) (hc : cells + 1 ≤ mc) (hs : slots + 6 ≤ ms) :
    W p l e R s m args below meth c H locs cells slots (vx_MQ below Qc XC args s mc ms free) (F0 m pc ls rest) := by
  intro T hT X
  have htr : e.platform.stackTraces = false := (show e.platform.stackTraces = l.stackTraces by rw [X.admits.platform]).trans hl
  have Y := vx_rebase X (R' := { frames := R.frames, locals := R.locals, cells := 1, slots := 6 }) (Nat.le_refl _) (Nat.le_refl _) hRcells hRslots
  obtain ⟨s', hA⟩ : ∃ z, z = (T.setVm s.vm).setFrames (.invoking m args :: below) := ⟨_, rfl⟩
  rw [← hA] at Y
  have hvm : s'.vm = s.vm := by rw [hA]; rfl
  have hhp : s'.heap = H := by rw [hA]; exact hT
  have hW0 : s.WarmedH s'.vm := by rw [hvm]; exact State.WarmedH.refl s
  have hat' : ∀ w ∈ vx_atS own ic cls names, w.before args s' = true := fun w hw => vx_ot_at hW0 hvm.symm (hgood w (List.mem_cons_of_mem _ (List.mem_cons_of_mem _ hw))) (hat w hw)
  have hk' : (Cond.classLink own ik cls).before args s' = true := vx_ot_at hW0 hvm.symm (hgood _ List.mem_cons_self) hk
  have hini' : (Cond.initialized cls).before args s' = true := vx_ot_at hW0 hvm.symm (hgood _ (List.mem_cons_of_mem _ List.mem_cons_self)) hini
  have hU' : vx_Zq Bundle.tN "UNASSIGNED_STACK" Bundle.steD A s' s'.heap := by rw [hhp]; exact vx_Zq.moved hW0.alike (hU.kept hS.2.1)
  have hN' : vx_Zq Bundle.tN "SUPPRESSED_SENTINEL" Bundle.listD A s' s'.heap := by rw [hhp]; exact vx_Zq.moved hW0.alike (hN.kept hS.2.1)
  have h : ∀ w ∈ Bundle.ownAtoms own ic cls names, w.before args s' = true := vx_own hat' (vx_isRefq hU'.1) (vx_isRefq hN'.1) hU'.2.word hN'.2.word
  have hown' : s'.vm.findClass own = some m.cls := by rw [hvm]; exact hown
  have hins : (Cond.instantiable cls 6).before args s' = true := h _ (by simp [Bundle.ownAtoms])
  obtain ⟨vm₁, cX, kX, hfX, hkX, -, -, X₁, st1⟩ := Y.newCold hexec (own := own) (C := cls) (index := ik) (n := 6) hown' hk' hins hini'
    (g := F0 m pc ls rest) rfl (by rw [hb]; exact d0) (Nat.le_refl _) (Nat.le_refl _)
  generalize hT1 : (T.setVm vm₁).pushCell { cls := cX, slots := kX.instanceTypes.map defaultValue, vm := .none } = T1 at X₁ st1
  have hcat : (Value.ref T.heap.size).category = 1 := rfl
  have hcellA : T1.heap[T.heap.size]? = some (freshCell cX kX) := by rw [← hT1]; exact State.heap_pushCell_size _ _
  have d3' : decode c.code (pc + 3) = .ok (.dup, 1) := by rw [hb]; exact d3
  have d4' : decode c.code (pc + 4) = .ok (.ldc is, 2) := by rw [hb]; exact d4
  have hstr' : vk_R own is text sa s' := vk_R.warm hW0 hstr
  obtain ⟨U, hsteps, hrun, hend, hW, hsame, ce, hce, hO⟩ := X₁.ctorThrowS hexec htr (own := own) (cls := cls) (names := names) (ic := ic) hown' hcls hnames h (fun x hx => nomatch hx) hfX hkX hcellA (by rw [hhp, hT]; exact Nat.le_refl _) (msg := .ref sa) rfl
    (g := { method := m, pc := pc + 6, locals := ls, stack := .ref sa :: .ref T.heap.size :: .ref T.heap.size :: rest, locked := none }) rfl hsize rfl rfl (rest := rest) rfl
    (by rw [hb]; exact d6) (by rw [hb]; exact d9) hout hRframes (by simp only [List.map_cons, List.sum_cons, hcat]; omega) hlocks
  obtain ⟨f1, f2⟩ := vx_frame hsame
  rw [hhp] at f1 f2
  have hWs : s.WarmedH U.vm := State.WarmedH.trans hW0 hW
  have hcl : s.vm.findClass cls = some ce.cls := by
    have h9 := hO.cls
    rw [hvm] at h9
    exact h9
  have hall : s.sameButNew ({ U with vm := s.vm } : State) locs mc ms := by
    subst hA
    obtain ⟨e1, e2⟩ := hsame
    rw [State.setFrames_setFrames] at e1
    have h2 : (T.setVm s.vm).sameButNew ({ U with vm := s.vm } : State) [] (0 + 1) (0 + 6) := ⟨e1, e2⟩
    have h3 := X.same.trans h2
    rw [List.append_nil] at h3
    exact h3.mono hc hs
  refine ⟨U, ?_, .threw T.heap.size, hrun, hend, Or.inr ⟨T.heap.size, rfl, cls, ce, locs, hx U hWs.alike f1 (fun q hq => f2 q hq (fun z hz => nomatch hz)), hce, hO.vm, hcl, hWs, hall, hf⟩⟩
  refine st1 _ ?_
  show Steps p.tables e below (T1.setTop { method := m, pc := pc + 3, locals := ls, stack := .ref T.heap.size :: rest, locked := none }) _
  jvm_step X₁.here [X₁.here.top, hexec, d3', Value.category]
  exact X₁.ldcString hexec (own := own) (text := text) (index := is) (a := sa) hown' hstr'.1 hstr'.2
    (g := { method := m, pc := pc + 4, locals := ls, stack := .ref T.heap.size :: .ref T.heap.size :: rest, locked := none }) rfl d4' _ hsteps
/-- 'throw new E("text")', the text by a wide index -/
theorem vx_throwSW {cc : ByteArray} {pc : Nat} (hexec : p.tables.exec = Jvm.exec) (hb : c.code = cc) (hl : l.stackTraces = false) {own cls text : String} {names : List String} {ik is ic mc ms sa : Nat} {A : Nat → Prop}
    (hown : s.vm.findClass own = some m.cls) (hcls : Bundle.fit cls = true) (hnames : ∀ n ∈ names, Bundle.fit n = true)
    (hk : (Cond.classLink own ik cls).before args s = true) (hini : (Cond.initialized cls).before args s = true) (hstr : vk_R own is text sa s) (hat : ∀ w ∈ vx_atS own ic cls names, w.before args s = true)
    (hgood : ∀ w ∈ Cond.classLink own ik cls :: Cond.initialized cls :: vx_atS own ic cls names, vx_ot w = true)
    (hU : vx_Zq Bundle.tN "UNASSIGNED_STACK" Bundle.steD A s s.heap) (hN : vx_Zq Bundle.tN "SUPPRESSED_SENTINEL" Bundle.listD A s s.heap) (hS : va_S A s.heap H locs) (hsize : ls.size = c.maxLocals)
    (d0 : decode cc pc = .ok (.new ik, 3)) (d3 : decode cc (pc + 3) = .ok (.dup, 1)) (d4 : decode cc (pc + 4) = .ok (.ldc_w is, 3)) (d7 : decode cc (pc + 7) = .ok (.invokespecial ic, 3)) (d10 : decode cc (pc + 10) = .ok (.athrow, 1))
    (hout : ∀ x ∈ c.exceptionTable.toList, covers x (pc + 10) = false)
    (hRframes : names.length + 3 < R.frames) (hRlocals : (rest.map fun v => v.category).sum + (13 * (names.length + 1) + 43) ≤ R.locals) (hRcells : cells + 1 ≤ R.cells) (hRslots : slots + 6 ≤ R.slots) (hlocks : meth.locks = false)
    (hx : ∀ t : State, s.vm.Alike t.vm → H.size ≤ t.heap.size → (∀ q : Nat, q < H.size → t.heap[q]? = H[q]?) → XC cls s t)
    (hf : ∀ z ∈ locs, free z.base) (hc : cells + 1 ≤ mc) (hs : slots + 6 ≤ ms) :
    W p l e R s m args below meth c H locs cells slots (vx_MQ below Qc XC args s mc ms free) (F0 m pc ls rest) := by
  intro T hT X
  have htr : e.platform.stackTraces = false := (show e.platform.stackTraces = l.stackTraces by rw [X.admits.platform]).trans hl
  have Y := vx_rebase X (R' := { frames := R.frames, locals := R.locals, cells := 1, slots := 6 }) (Nat.le_refl _) (Nat.le_refl _) hRcells hRslots
  obtain ⟨s', hA⟩ : ∃ z, z = (T.setVm s.vm).setFrames (.invoking m args :: below) := ⟨_, rfl⟩
  rw [← hA] at Y
  have hvm : s'.vm = s.vm := by rw [hA]; rfl
  have hhp : s'.heap = H := by rw [hA]; exact hT
  have hW0 : s.WarmedH s'.vm := by rw [hvm]; exact State.WarmedH.refl s
  have hat' : ∀ w ∈ vx_atS own ic cls names, w.before args s' = true := fun w hw => vx_ot_at hW0 hvm.symm (hgood w (List.mem_cons_of_mem _ (List.mem_cons_of_mem _ hw))) (hat w hw)
  have hk' : (Cond.classLink own ik cls).before args s' = true := vx_ot_at hW0 hvm.symm (hgood _ List.mem_cons_self) hk
  have hini' : (Cond.initialized cls).before args s' = true := vx_ot_at hW0 hvm.symm (hgood _ (List.mem_cons_of_mem _ List.mem_cons_self)) hini
  have hU' : vx_Zq Bundle.tN "UNASSIGNED_STACK" Bundle.steD A s' s'.heap := by rw [hhp]; exact vx_Zq.moved hW0.alike (hU.kept hS.2.1)
  have hN' : vx_Zq Bundle.tN "SUPPRESSED_SENTINEL" Bundle.listD A s' s'.heap := by rw [hhp]; exact vx_Zq.moved hW0.alike (hN.kept hS.2.1)
  have h : ∀ w ∈ Bundle.ownAtoms own ic cls names, w.before args s' = true := vx_own hat' (vx_isRefq hU'.1) (vx_isRefq hN'.1) hU'.2.word hN'.2.word
  have hown' : s'.vm.findClass own = some m.cls := by rw [hvm]; exact hown
  have hins : (Cond.instantiable cls 6).before args s' = true := h _ (by simp [Bundle.ownAtoms])
  obtain ⟨vm₁, cX, kX, hfX, hkX, -, -, X₁, st1⟩ := Y.newCold hexec (own := own) (C := cls) (index := ik) (n := 6) hown' hk' hins hini'
    (g := F0 m pc ls rest) rfl (by rw [hb]; exact d0) (Nat.le_refl _) (Nat.le_refl _)
  generalize hT1 : (T.setVm vm₁).pushCell { cls := cX, slots := kX.instanceTypes.map defaultValue, vm := .none } = T1 at X₁ st1
  have hcat : (Value.ref T.heap.size).category = 1 := rfl
  have hcellA : T1.heap[T.heap.size]? = some (freshCell cX kX) := by rw [← hT1]; exact State.heap_pushCell_size _ _
  have d3' : decode c.code (pc + 3) = .ok (.dup, 1) := by rw [hb]; exact d3
  have d4' : decode c.code (pc + 4) = .ok (.ldc_w is, 3) := by rw [hb]; exact d4
  have hstr' : vk_R own is text sa s' := vk_R.warm hW0 hstr
  obtain ⟨U, hsteps, hrun, hend, hW, hsame, ce, hce, hO⟩ := X₁.ctorThrowS hexec htr (own := own) (cls := cls) (names := names) (ic := ic) hown' hcls hnames h (fun x hx => nomatch hx) hfX hkX hcellA (by rw [hhp, hT]; exact Nat.le_refl _) (msg := .ref sa) rfl
    (g := { method := m, pc := pc + 7, locals := ls, stack := .ref sa :: .ref T.heap.size :: .ref T.heap.size :: rest, locked := none }) rfl hsize rfl rfl (rest := rest) rfl
    (by rw [hb]; exact d7) (by rw [hb]; exact d10) hout hRframes (by simp only [List.map_cons, List.sum_cons, hcat]; omega) hlocks
  obtain ⟨f1, f2⟩ := vx_frame hsame
  rw [hhp] at f1 f2
  have hWs : s.WarmedH U.vm := State.WarmedH.trans hW0 hW
  have hcl : s.vm.findClass cls = some ce.cls := by
    have h9 := hO.cls
    rw [hvm] at h9
    exact h9
  have hall : s.sameButNew ({ U with vm := s.vm } : State) locs mc ms := by
    subst hA
    obtain ⟨e1, e2⟩ := hsame
    rw [State.setFrames_setFrames] at e1
    have h2 : (T.setVm s.vm).sameButNew ({ U with vm := s.vm } : State) [] (0 + 1) (0 + 6) := ⟨e1, e2⟩
    have h3 := X.same.trans h2
    rw [List.append_nil] at h3
    exact h3.mono hc hs
  refine ⟨U, ?_, .threw T.heap.size, hrun, hend, Or.inr ⟨T.heap.size, rfl, cls, ce, locs, hx U hWs.alike f1 (fun q hq => f2 q hq (fun z hz => nomatch hz)), hce, hO.vm, hcl, hWs, hall, hf⟩⟩
  refine st1 _ ?_
  show Steps p.tables e below (T1.setTop { method := m, pc := pc + 3, locals := ls, stack := .ref T.heap.size :: rest, locked := none }) _
  jvm_step X₁.here [X₁.here.top, hexec, d3', Value.category]
  exact X₁.ldcStringW hexec (own := own) (text := text) (index := is) (a := sa) hown' hstr'.1 hstr'.2
    (g := { method := m, pc := pc + 4, locals := ls, stack := .ref T.heap.size :: .ref T.heap.size :: rest, locked := none }) rfl d4' _ hsteps
end Ends
section Bodies
variable {l : Launch}
theorem vx_ofW {y : MethodName} {ws ws' : List Cond} {rm : Room} {Pc : Array Value → State → Prop} {Qc : Array Value → State → Outcome → State → Prop} {XC : String → State → State → Prop} {mc ms : Nat} {free : Addr → Prop} {cc : ByteArray} {maxL : Nat} {ret : Option FieldType}
    (hy : plainName y.cls = true) (hw : ws = Cond.code y cc maxL ret :: ws')
    (body : ∀ p e s m args below meth c s₁, BodyLoose p l y (headSpec ws rm) cc maxL ret e s m args below meth c s₁ → c.maxLocals = maxL → (∀ x ∈ c.exceptionTable.toList, False) → Pc args s →
      W p l e (headSpec ws rm).room s m args below meth c s.heap [] 0 0 (vx_MQ below Qc XC args s mc ms free) (entryFrame m args maxL)) : vx_Met l y ws rm Pc Qc XC mc ms free := by
  refine MetFree.of_bodyS (code := cc) (maxLocals := maxL) (ret := ret) hy ?_ ?_
  · intro args s m h hn
    obtain ⟨meth, c, h1, h2, h3, h4, h5, h6, -, -⟩ := Cond.code_spec hn (atoms_spec (ws := ws) h _ (by rw [hw]; exact List.mem_cons_self))
    exact ⟨meth, c, h1, h2, h3, h4, h5, h6⟩
  · intro p e s m args below meth c s₁ B hml hP _
    have hh0 : s₁.heap = s.heap := by rw [B.state]; rfl
    have ht : ∀ x ∈ c.exceptionTable.toList, False := by
      obtain ⟨meth9, c9, h1, h2, -, -, -, -, h7, -⟩ := Cond.code_spec B.named (atoms_spec (ws := ws) B.pre _ (by rw [hw]; exact List.mem_cons_self))
      cases Option.some.inj (h1.symm.trans B.method)
      cases Option.some.inj (h2.symm.trans (Stand.of_body B).code)
      intro x hx
      rw [Array.isEmpty_iff.mp h7] at hx
      cases hx
    obtain ⟨t, a1, o, b1, b2, b3⟩ := body p e s m args below meth c s₁ B hml ht hP s₁ hh0 (Stand.of_body B)
    exact ⟨t, o, a1, b1, b2, b3⟩
/-- the table of a body with handlers -/
theorem vx_table {p : Program} {x y : MethodName} {S : Spec} {cc bytes : ByteArray} {maxL maxL' : Nat} {ret ret' : Option FieldType} {e : Env} {s s₁ : State} {m : MethodId} {args : Array Value} {below : List Frame} {meth : Method} {c : Code} {hh : List (Nat × Nat × Nat × Nat)}
    (B : BodyLoose p l y S cc maxL ret e s m args below meth c s₁) (h : (Cond.codeWith y bytes maxL' ret' hh).before args s = true) : c.exceptionTable.toList = tableOf hh := by
  obtain ⟨m9, meth9, c9, hn9, h1, h2, -, -, h6, -⟩ := Cond.codeWith_spec h
  cases Option.some.inj (hn9.symm.trans B.named)
  cases Option.some.inj (h1.symm.trans B.method)
  cases Option.some.inj (h2.symm.trans (Stand.of_body B).code)
  rw [← h6, table_eq]
end Bodies
end VXA
/-! ===== END ===== -/
/-! ===== BEGIN a static call of a method with an exception table ===== -/
section VXS
variable {p : Program} {l : Launch} {e : Env} {R : Room} {s : State} {m : MethodId} {args : Array Value} {below : List Frame} {meth : Method} {c : Code} {T : State} {H : Heap} {locs : List Loc} {cells slots : Nat}
abbrev vx_CSW (R : Room) (s : State) (args : Array Value) (own : String) (index : Nat) (y : MethodName) (bytes : ByteArray) (maxL : Nat) (ret : Option FieldType) (hh : List (Nat × Nat × Nat × Nat)) (ws : List Cond) (rm : Room) (mc ms n : Nat) : Prop :=
  (rm.cells = mc ∧ rm.slots = ms ∧ rm.frames + 1 ≤ R.frames ∧ 8 + (maxL + 11) + rm.locals ≤ R.locals ∧ (∀ w ∈ ws, ∀ (a' : Array Value) (U : State), s.WarmedH U.vm → w.before a' U = true) ∧ Cond.codeWith y bytes maxL ret hh ∈ ws) ∧
  (Cond.codeWith y bytes maxL ret hh).before args s = true ∧ (Cond.initialized y.cls).before args s = true ∧ (y.cls ≠ "java/lang/invoke/MethodHandle" ∧ y.cls ≠ "java/lang/invoke/VarHandle") ∧
  (∀ sig, parseMethodDescriptor y.desc = some sig → n = sig.parameters.length) ∧ (Cond.methodLink own index y).before args s = true ∧ (Cond.static y).before args s = true
theorem vx_cwSW {own : String} {index maxL mc ms : Nat} {y : MethodName} {bytes : ByteArray} {ret : Option FieldType} {hh : List (Nat × Nat × Nat × Nat)} {Ts ws ws' : List Cond} {rm : Room} (n : Nat) (ht : ∀ w ∈ Ts, w.before args s = true) (hT : GoodIn Ts (va_wsS own index y ws)) (hw : ws = Cond.codeWith y bytes maxL ret hh :: ws') (hrc : rm.cells = mc) (hrs : rm.slots = ms)
    (hd : y.cls ≠ "java/lang/invoke/MethodHandle" ∧ y.cls ≠ "java/lang/invoke/VarHandle" ∧ (parseMethodDescriptor y.desc).map (fun d => d.parameters.length) = some n) (hR : rm.frames + 1 ≤ R.frames ∧ 8 + (maxL + 11) + rm.locals ≤ R.locals) :
    vx_CSW R s args own index y bytes maxL ret hh ws rm mc ms n := by
  have ok : ∀ w ∈ va_wsS own index y ws, w.before args s = true := fun w h => ht w (hT w h).1
  have hG : GoodIn Ts ws := fun w h => hT w (by unfold va_wsS; exact List.mem_append_right _ h)
  have hc : Cond.codeWith y bytes maxL ret hh ∈ ws := by rw [hw]; exact List.mem_cons_self
  refine ⟨⟨hrc, hrs, hR.1, hR.2, pay_in ht hG, hc⟩, ht _ (hG _ hc).1, ok _ (by simp [va_wsS]), ⟨hd.1, hd.2.1⟩, fun sig h => ?_, ok _ (by simp [va_wsS]), ok _ (by simp [va_wsS])⟩
  have h2 := hd.2.2
  rw [h] at h2
  exact (Option.some.inj h2).symm
theorem vx_callSW (X : Stand p l e R s m args below meth c T locs cells slots) (hexec : p.tables.exec = Jvm.exec) {own : String} {index : Nat} {y : MethodName} {bytes : ByteArray} {maxL : Nat} {ret : Option FieldType} {hh : List (Nat × Nat × Nat × Nat)}
    (hown : s.vm.findClass own = some m.cls) (hlink : (Cond.methodLink own index y).before args s = true) (hstat : (Cond.static y).before args s = true) (hinit : (Cond.initialized y.cls).before args s = true)
    (hcode : (Cond.codeWith y bytes maxL ret hh).before args s = true) (hy : y.cls ≠ "java/lang/invoke/MethodHandle" ∧ y.cls ≠ "java/lang/invoke/VarHandle")
    {W9 : Nat} {Pre : Pt → Array Value → Prop} {Post : Pt → Array Value → Option Value → Pt → Prop} (hK : Back l R p e below s args y 3 W9 Pre Post)
    {g : JFrame} (hg : g.method = m) (hsize : g.locals.size = c.maxLocals) {argsL rest : List Value} (hlen : ∀ sig, parseMethodDescriptor y.desc = some sig → argsL.length = sig.parameters.length)
    (hstack : g.stack = argsL.reverse ++ rest) (hW : 2 * g.monitorRoom + (rest.map fun v => v.category).sum ≤ W9) (hdg : decode c.code g.pc = .ok (.invokestatic index, 3))
    (hpre : ∀ vm₁, s.WarmedH vm₁ → Pre ⟨T.setVm vm₁, locs, cells, slots⟩ argsL.toArray) :
    ∃ (v : Option Value) (vm₁ : Vm) (B : Pt), s.WarmedH vm₁ ∧ Stand p l e R s m args below meth c B.U B.locs B.cells B.slots ∧ Post ⟨T.setVm vm₁, locs, cells, slots⟩ argsL.toArray v B ∧
      ∀ target, Steps p.tables e below (B.U.setTop { g with pc := g.pc + 3, stack := v.toList ++ rest }) target → Steps p.tables e below (T.setTop g) target := by
  obtain ⟨mk, methM, cM, hnamed, hmethM, -, -, -, -, -, -, hsigM⟩ := Cond.codeWith_spec hcode
  have hstatic : methM.isStatic = true := Cond.static_spec hnamed hmethM hstat
  obtain ⟨kP, hkP, -⟩ := className_of_methodNamed hnamed
  have hinitP : kP.init = .initialized := Cond.initialized_spec (findClass_of_methodNamed hnamed) hkP hinit
  obtain ⟨vm₁, X₁, hstep₁⟩ := X.invokestatic hexec hown hlink hnamed hmethM hstatic hkP hinitP hy (g := g) hg (argsL := argsL) (rest := rest) (hlen _ hsigM) hstack hdg
  obtain ⟨v, B, X', hpost, hsteps⟩ := hK m meth c ⟨T.setVm vm₁, locs, cells, slots⟩ { g with stack := rest } (.invokestatic index) mk argsL.toArray X₁ hg hsize hdg hW (X₁.named hnamed) (hpre vm₁ X₁.warmed)
  exact ⟨v, vm₁, B, X₁.warmed, X', hpost, fun target h => hstep₁ _ fun acts => by rw [doInvoke_state]; exact hsteps.trans h⟩
theorem vx_runSW {y : MethodName} {bytes cc : ByteArray} {maxL nL mc ms n index : Nat} {ret : Option FieldType} {hh : List (Nat × Nat × Nat × Nat)} {ws : List Cond} {rm : Room} {Pc : Array Value → State → Prop} {Qc : Array Value → State → Outcome → State → Prop} {free : Addr → Prop} {Ts : List Cond} {own : String} {As rest : List Value} {g : JFrame}
    (S : CallFix p m c cc nL s args Ts own) (hM : Met l y ws rm Pc Qc mc ms free) (cw : vx_CSW R s args own index y bytes maxL ret hh ws rm mc ms n) (hp : PreS s H Pc As)
    (hg : g.method = m) (hn : As.length = n) (hsize : g.locals.size = nL) (hstack : g.stack = As.reverse ++ rest) (hW : 2 * g.monitorRoom + (rest.map fun v => v.category).sum ≤ 8) (hdg : decode cc g.pc = .ok (.invokestatic index, 3)) (hf : cells + mc ≤ R.cells ∧ slots + ms ≤ R.slots) :
    va_Run p l e R s m args below meth c H locs cells slots mc ms g rest (Qc As.toArray) (free) := by
  obtain ⟨⟨hrc, hrs, hfr, hlo, hws, hcw⟩, hcode, hini, hy, hlen, hl, hstt⟩ := cw
  have hK : Back l R p e below s args y 3 8 (PreOf R mc ms Pc) (PostOf Qc mc ms free) := va_backW (hh := hh) (bytes := bytes) (maxL := maxL) (ret := ret) hM hp.1 hrc hrs hfr hlo hws hcw (fun a' U hW => word_at hW (Or.inl (by first | rfl | simp [Cond.onTables, Cond.keeps, Cond.steady])) hini)
  obtain ⟨hx, hb, hml, ho, -⟩ := S
  intro T hT X
  obtain ⟨v, vm₁, ⟨U', l2, c2, s2⟩, hW₁, X', ⟨g', mk, t, L, e1, e2, hq, h1, hL, h2, h3⟩, st⟩ := vx_callSW X hx (hh := hh) (bytes := bytes) (maxL := maxL) (ret := ret) ho hl hstt hini hcode hy hK hg (hsize.trans hml.symm) (argsL := As) (rest := rest) (fun sig h => hn.trans (hlen sig h)) hstack hW (by rw [hb]; exact hdg)
    (fun vm₁ hW₁ => ⟨hf.1, hf.2, hp.2 (T.setVm vm₁) hT hW₁⟩)
  dsimp only [Pt.U, Pt.locs, Pt.cells, Pt.slots] at X' e1 e2 h1 h2 h3 st
  subst h1; subst h2; subst h3
  exact ⟨v, (T.setVm vm₁).calling g' mk As.toArray, t, U', L, hT, X', hL, e1, e2, hq, st⟩
/-- not caught here, past rows that name other classes: it goes on to the caller -/
theorem vx_outP {p : Program} {l : Launch} {e : Env} {R : Room} {s : State} {m : MethodId} {args : Array Value} {below : List Frame} {meth : Method} {c : Code} {H : Heap} {locs : List Loc} {cells slots : Nat} {free : Addr → Prop} {ls : Array Slot} {rest : List Value} {Qc : Array Value → State → Outcome → State → Prop} {XC : String → State → State → Prop}
    {pc : Nat} {own E : String} {ce : Cell} {q : Addr} {mc ms : Nat} (hown : s.vm.findClass own = some m.cls) (hlocks : meth.locks = false)
    (hpass : ∀ z ∈ c.exceptionTable.toList, covers z pc = false ∨ (z.catchType ≠ 0 ∧ ∃ nm : String, (Cond.classLink own z.catchType nm).before args s = true ∧ va_Nc E nm s)) (hcell : H[q]? = some ce) (hv : ce.vm = .none) (hcl : s.vm.findClass E = some ce.cls)
    (hx : ∀ t : State, t.heap = H → s.vm.Alike t.vm → XC E s t) (hf : ∀ z ∈ locs, free z.base) (hc : cells ≤ mc) (hs : slots ≤ ms) :
    vx_W p l e R s m args below meth c H locs cells slots (vx_MQ below Qc XC args s mc ms free) (F0 m pc ls rest) q := by
  intro T hT X
  have hpl : e.platform.magicAccessors = ({} : Platform).magicAccessors := by rw [X.admits.platform]
  obtain ⟨vm', hW', X', st⟩ := X.outThrough hlocks q (g := F0 m pc ls rest) rfl rfl rfl (cell := ce) (by rw [hT]; exact hcell) (by rw [hv]; rfl)
    (by obtain ⟨k9, h9, -⟩ := Vm.findClass_spec hcl; exact ⟨k9, h9⟩) (fun z hz => by
      rcases hpass z hz with h | ⟨hz0, nm, hl1, hn1⟩
      · exact Or.inl h
      · obtain ⟨c6, hc6, hcl6⟩ := Cond.classLink_spec hown hl1 e.platform hpl
        obtain ⟨a8, b8, h1, h2, h3⟩ := hn1
        cases Option.some.inj (h1.symm.trans hcl)
        cases Option.some.inj (h2.symm.trans hc6)
        exact Or.inr ⟨hz0, _, hcl6, h3⟩)
  obtain ⟨g₀, hfr⟩ := X'.frames_eq
  have hcell9 : ((T.setVm vm').setFrames (.throwing q :: below)).heap[q]? = some ce := by
    show T.heap[q]? = some ce
    rw [hT]; exact hcell
  have hend : Ended ((T.setVm vm').setFrames (.throwing q :: below)) below (.threw q) := State.frames_setFrames _ (State.cur_lt_of_frames hfr)
  refine ⟨(T.setVm vm').setFrames (.throwing q :: below), ?_, .threw q, X'.here.running, hend, Or.inr ⟨q, rfl, E, ce, locs, hx _ hT (X'.ends _).1.alike, hcell9, hv, hcl, (X'.ends _).1, (X'.ends _).2.mono hc hs, hf⟩⟩
  rw [X.pushThrowing_eq]
  exact st
/-- a thing of a world lies in the heap -/
theorem vx_lt {D : va_G} {cl : List vw_C} {ws : va_W} {H1 : Heap} (h : va_P D cl ws H1) {k : Nat} {q : Nat × va_E} (hk : ws[k]? = some q) : q.1 < H1.size := (h k q hk).lt
end VXS
/-! ===== END ===== -/
/-! ===== BEGIN methods with a table of their own: called by a name, returning or throwing ===== -/
section VXH
/-! vx_backW, vx_callVX, vx_callSX, vx_callVW, vx_runVW, vx_runVX, vx_runSX, vx_ofWH follow the same proofs as their sisters above (Free/Laws.lean, Shelf42/LK1.lean); vx_outP calls Shelf42/NT130.lean (outThrough). -/
section
variable {l : Launch} {R : Room} {p : Program} {e : Env} {below : List Frame} {s : State} {sargs : Array Value} {y : MethodName} {len W9 : Nat}
theorem vx_backW {ws : List Cond} {rm : Room} {Pc : Array Value → State → Prop} {Qc : Array Value → State → Outcome → State → Prop} {XC : String → State → State → Prop} {mc ms : Nat} {free : Addr → Prop} {bytes : ByteArray} {maxL : Nat} {ret : Option FieldType} {hh : List (Nat × Nat × Nat × Nat)}
    (hM : vx_Met l y ws rm Pc Qc XC mc ms free) (hblind : FrameBlind Pc) (hrc : rm.cells = mc) (hrs : rm.slots = ms)
    (hframes : rm.frames + 1 ≤ R.frames) (hlocals : W9 + (maxL + 11) + rm.locals ≤ R.locals)
    (hws : ∀ w ∈ ws, ∀ a' U, s.WarmedH U.vm → w.before a' U = true) (hcode : Cond.codeWith y bytes maxL ret hh ∈ ws) (hinit : ∀ a' U, s.WarmedH U.vm → (Cond.initialized y.cls).before a' U = true) :
    vx_Back l R p e below s sargs y len W9 (PreOf R mc ms Pc) (PostOf Qc mc ms free) (vx_Post XC mc ms free) := by
  intro m meth c A g ig mk a X hg hsize hdg hW hn hp
  have h1 : (headSpec ws rm).pre.before a A.U = true := atoms_intro fun w hw => hws w hw _ _ X.warmed
  have h2 : (Cond.codeWith y bytes maxL ret hh).before a A.U = true := hws _ hcode _ _ X.warmed
  have h3 : (Cond.initialized y.cls).before a A.U = true := hinit _ _ X.warmed
  have h4 : A.cells + (headSpec ws rm).room.cells ≤ R.cells := by rw [show (headSpec ws rm).room.cells = mc from hrc]; exact hp.1
  have h5 : A.slots + (headSpec ws rm).room.slots ≤ R.slots := by rw [show (headSpec ws rm).room.slots = ms from hrs]; exact hp.2.1
  have hPc : Pc a (A.U.calling g mk a) := hblind _ _ _ _ hp.2.2
  obtain ⟨U, Ls, c0, s0⟩ := A
  dsimp only [Pt.U, Pt.locs, Pt.cells, Pt.slots] at h1 h2 h3 h4 h5 X hn hPc ⊢
  obtain ⟨m9, methY, cY, hn9, hmY, hcY, -, hlY, -⟩ := Cond.codeWith_spec h2
  cases Option.some.inj (hn9.symm.trans hn)
  obtain ⟨kY, hkY, -⟩ := className_of_methodNamed hn
  have hinitY : kY.init = .initialized := Cond.initialized_spec (findClass_of_methodNamed hn) hkY h3
  have h : At U g.method c below := by rw [hg]; exact X.here
  have hlocals9 : W9 + (maxL + 11) + (headSpec ws rm).room.locals ≤ R.locals := hlocals
  have happ : (headSpec ws rm).appliesLoose y e.platform (U.calling g mk a) = true :=
    Spec.appliesLoose_calling (g := g) h hdg hn hkY hinitY
      (X.room_calling (g := g) (R' := (headSpec ws rm).room) hsize hmY hcY hframes (by rw [hlY]; omega) h4 h5) h1
  obtain ⟨mid, hmid⟩ := h.above
  have hfr : (U.setTop g).frames = (.java g :: mid) ++ below := by rw [State.frames_setTop' g h.top, hmid]; rfl
  obtain ⟨o, s₂, hsteps, -, hend, hq⟩ := Steps.callFree hM p X.admits X.cas X.clock (acts := []) hfr happ hPc trivial
  have hq' : vx_Q Qc XC mc ms free a (U.calling g mk a) o s₂ := hq
  rw [State.frames_setTop' g h.top] at hend
  obtain ⟨g₀, hg0⟩ := Option.isSome_iff_exists.mp h.top
  obtain ⟨r, hr⟩ := State.topJava?_eq_some.mp hg0
  have hr' : (({ U with heap := s₂.heap, slotsUsed := s₂.slotsUsed } : State).setVm s₂.vm).frames = .java g₀ :: r := hr
  rcases hq' with ⟨hqc, L, hfe, hL⟩ | ⟨q, rfl, E, ce, L, hx, hce, hcv, hcl, hW₂, hsm, hL⟩
  · obtain ⟨⟨v, rfl⟩, hW₂, e2, q2, q3, q4, q5, q6⟩ := id hfe
    have e3 : s₂ = ({ (U.calling g mk a).setFrames s₂.frames with heap := s₂.heap, slotsUsed := s₂.slotsUsed } : State).setVm s₂.vm := by
      have : s₂ = ({ s₂ with vm := (U.calling g mk a).vm } : State).setVm s₂.vm := rfl
      rw [e2] at this
      exact this
    obtain ⟨c₂, i₂, len₂, hc₂, hd₂, hf₂⟩ := hend
    have hW' : U.WarmedH s₂.vm := hW₂
    have hcc : c₂ = c := by
      have h1 : s₂.code? g.method = U.code? g.method := by
        rw [State.code?_eq, State.code?_eq, hW'.alike.method?]
      exact Option.some.inj (hc₂.symm.trans (h1.trans h.code))
    subst hcc
    have hlen : len₂ = len := by rw [hdg] at hd₂; cases hd₂; rfl
    subst hlen
    have hs₂ : s₂ = (({ U with heap := s₂.heap, slotsUsed := s₂.slotsUsed } : State).setVm s₂.vm).setTop { g with pc := g.pc + len₂, stack := v.toList ++ g.stack } := by
      refine e3.trans ?_
      rw [hf₂, State.calling_eq h.top, State.setFrames_setFrames, State.setTop_of_frames _ hr', hr]
      rfl
    have hsame : U.sameButNew ({ U with heap := s₂.heap, slotsUsed := s₂.slotsUsed } : State) L mc ms := by
      refine ⟨?_, q2, q3, q4, q5, q6⟩
      obtain ⟨t, ht, -⟩ := State.frames_cons hr
      show ({ U with heap := s₂.heap, slotsUsed := s₂.slotsUsed } : State) = { U.setFrames U.frames with heap := s₂.heap, slotsUsed := s₂.slotsUsed }
      rw [State.setFrames_self ht]
    subst hg
    refine Or.inl ⟨v, ⟨(({ U with heap := s₂.heap, slotsUsed := s₂.slotsUsed } : State).setVm s₂.vm), Ls ++ L, c0 + mc, s0 + ms⟩,
      ⟨X.admits, X.cas, X.clock, X.frames, X.room, X.hears, X.method, X.code, (X.here.setHeapUsed s₂.heap s₂.slotsUsed).setVm hW'.alike, X.tail, State.WarmedH.trans X.warmed hW', X.limits, X.bytes, X.same.trans (hsame.setVm s.vm)⟩,
      ⟨g, mk, s₂, L, rfl, rfl, hqc, rfl, hL, rfl, rfl⟩, ?_⟩
    show Steps p.tables e below _ ((({ U with heap := s₂.heap, slotsUsed := s₂.slotsUsed } : State).setVm s₂.vm).setTop { g with pc := g.pc + len₂, stack := v.toList ++ g.stack })
    rw [← hs₂]
    exact hsteps
  · obtain ⟨e2, q2, q3, q4, q5, q6⟩ := id hsm
    have e3 : s₂ = ({ (U.calling g mk a).setFrames s₂.frames with heap := s₂.heap, slotsUsed := s₂.slotsUsed } : State).setVm s₂.vm := by
      have : s₂ = ({ s₂ with vm := (U.calling g mk a).vm } : State).setVm s₂.vm := rfl
      rw [e2] at this
      exact this
    have hf₂ : s₂.frames = .throwing q :: .java g :: U.frames.tail := hend
    have hW' : U.WarmedH s₂.vm := hW₂
    have hs₂ : s₂ = ((({ U with heap := s₂.heap, slotsUsed := s₂.slotsUsed } : State).setVm s₂.vm).setTop g).pushFrame (.throwing q) := by
      refine e3.trans ?_
      rw [hf₂, State.calling_eq h.top, State.setFrames_setFrames, State.pushFrame, State.frames_setTop _ hr', State.setTop_of_frames _ hr', State.setFrames_setFrames, hr]
      rfl
    have hsame : U.sameButNew ({ U with heap := s₂.heap, slotsUsed := s₂.slotsUsed } : State) L mc ms := by
      refine ⟨?_, q2, q3, q4, q5, q6⟩
      obtain ⟨t, ht, -⟩ := State.frames_cons hr
      show ({ U with heap := s₂.heap, slotsUsed := s₂.slotsUsed } : State) = { U.setFrames U.frames with heap := s₂.heap, slotsUsed := s₂.slotsUsed }
      rw [State.setFrames_self ht]
    subst hg
    refine Or.inr ⟨q, ⟨(({ U with heap := s₂.heap, slotsUsed := s₂.slotsUsed } : State).setVm s₂.vm), Ls ++ L, c0 + mc, s0 + ms⟩,
      ⟨X.admits, X.cas, X.clock, X.frames, X.room, X.hears, X.method, X.code, (X.here.setHeapUsed s₂.heap s₂.slotsUsed).setVm hW'.alike, X.tail, State.WarmedH.trans X.warmed hW', X.limits, X.bytes, X.same.trans (hsame.setVm s.vm)⟩,
      ⟨g, mk, s₂, L, E, ce, rfl, rfl, hx, hce, hcv, hcl, rfl, hL, rfl, rfl⟩, ?_⟩
    show Steps p.tables e below _ (((({ U with heap := s₂.heap, slotsUsed := s₂.slotsUsed } : State).setVm s₂.vm).setTop g).pushFrame (.throwing q))
    rw [← hs₂]
    exact hsteps
end
variable {p : Program} {l : Launch} {e : Env} {R : Room} {s : State} {m : MethodId} {args : Array Value} {below : List Frame} {meth : Method} {c : Code} {T : State} {H : Heap} {locs : List Loc} {cells slots : Nat}
theorem vx_callVX (X : Stand p l e R s m args below meth c T locs cells slots) (hexec : p.tables.exec = Jvm.exec) {own C : String} {index : Nat} {y : MethodName} {bytes : ByteArray} {maxL : Nat} {ret : Option FieldType} {hh : List (Nat × Nat × Nat × Nat)}
    (hown : s.vm.findClass own = some m.cls) (hlink : (Cond.methodLink own index y).before args s = true) (hinst : (Cond.instanceMethod y).before args s = true) (hsel : (Cond.selects C y y).before args s = true)
    (hcode : (Cond.codeWith y bytes maxL ret hh).before args s = true) (hy : y.cls ≠ "java/lang/invoke/MethodHandle" ∧ y.cls ≠ "java/lang/invoke/VarHandle")
    {W9 : Nat} {Pre : Pt → Array Value → Prop} {Post : Pt → Array Value → Option Value → Pt → Prop} {PostX : Pt → Array Value → Addr → Pt → Prop} (hK : vx_Back l R p e below s args y 3 W9 Pre Post PostX)
    {b : Addr} {cellB : Cell} (hcell : T.heap[b]? = some cellB) (hobj : cellB.vm.isStatics = false) (hcls : s.vm.findClass C = some cellB.cls)
    {g : JFrame} (hg : g.method = m) (hsize : g.locals.size = c.maxLocals) {argsL rest : List Value} (hlen : ∀ sig, parseMethodDescriptor y.desc = some sig → argsL.length = sig.parameters.length)
    (hstack : g.stack = argsL.reverse ++ .ref b :: rest) (hW : 2 * g.monitorRoom + (rest.map fun v => v.category).sum ≤ W9) (hdg : decode c.code g.pc = .ok (.invokevirtual index, 3))
    (hpre : ∀ vm₁, s.WarmedH vm₁ → Pre ⟨T.setVm vm₁, locs, cells, slots⟩ (Value.ref b :: argsL).toArray) :
    (∃ (v : Option Value) (vm₁ : Vm) (B : Pt), s.WarmedH vm₁ ∧ Stand p l e R s m args below meth c B.U B.locs B.cells B.slots ∧ Post ⟨T.setVm vm₁, locs, cells, slots⟩ (Value.ref b :: argsL).toArray v B ∧
      ∀ target, Steps p.tables e below (B.U.setTop { g with pc := g.pc + 3, stack := v.toList ++ rest }) target → Steps p.tables e below (T.setTop g) target) ∨
    (∃ (q : Addr) (vm₁ : Vm) (B : Pt), s.WarmedH vm₁ ∧ Stand p l e R s m args below meth c B.U B.locs B.cells B.slots ∧ PostX ⟨T.setVm vm₁, locs, cells, slots⟩ (Value.ref b :: argsL).toArray q B ∧
      Steps p.tables e below (T.setTop g) ((B.U.setTop { g with stack := rest }).pushFrame (.throwing q))) := by
  obtain ⟨mk, methM, hnamed, hmethM, hstM, habM⟩ := Cond.instanceMethod_spec hinst
  obtain ⟨m8, methM', cM, hn8, hmethM', -, -, -, -, -, -, hsigM⟩ := Cond.codeWith_spec hcode
  cases Option.some.inj (hn8.symm.trans hnamed)
  cases hmethM.symm.trans hmethM'
  obtain ⟨c2, r2, m2, q1, q2, q3, q4, kP, hkP, hkPi⟩ := Cond.selects_spec hsel
  cases hcls.symm.trans q1
  cases (State.methodFound?_of_named hnamed hy).symm.trans q2
  cases hnamed.symm.trans q3
  have hselP : selectMethod e.platform s.vm cellB.cls mk = .method mk := by rw [Launch.admits_selectMethod X.admits]; exact q4
  obtain ⟨vm₁, X₁, hstep₁⟩ := X.invokevirtual hexec hown hlink hnamed hmethM hstM hkP hkPi hy (a := b) (cell := cellB) hcell
    (fun z h => by rw [h] at hobj; cases hobj) hselP hmethM habM hkP hkPi (g := g) hg (argsL := argsL) (rest := rest) (hlen _ hsigM) hstack hdg
  rcases hK m meth c ⟨T.setVm vm₁, locs, cells, slots⟩ { g with stack := rest } (.invokevirtual index) mk (Value.ref b :: argsL).toArray X₁ hg hsize hdg hW (X₁.named hnamed) (hpre vm₁ X₁.warmed) with ⟨v, B, X', hpost, hsteps⟩ | ⟨q, B, X', hpost, hsteps⟩
  · exact Or.inl ⟨v, vm₁, B, X₁.warmed, X', hpost, fun target h => hstep₁ _ fun acts => by rw [doInvoke_state]; exact hsteps.trans h⟩
  · exact Or.inr ⟨q, vm₁, B, X₁.warmed, X', hpost, hstep₁ _ fun acts => by rw [doInvoke_state]; exact hsteps⟩
theorem vx_callSX (X : Stand p l e R s m args below meth c T locs cells slots) (hexec : p.tables.exec = Jvm.exec) {own : String} {index : Nat} {y : MethodName} {bytes : ByteArray} {maxL : Nat} {ret : Option FieldType} {hh : List (Nat × Nat × Nat × Nat)}
    (hown : s.vm.findClass own = some m.cls) (hlink : (Cond.methodLink own index y).before args s = true) (hstat : (Cond.static y).before args s = true) (hinit : (Cond.initialized y.cls).before args s = true)
    (hcode : (Cond.codeWith y bytes maxL ret hh).before args s = true) (hy : y.cls ≠ "java/lang/invoke/MethodHandle" ∧ y.cls ≠ "java/lang/invoke/VarHandle")
    {W9 : Nat} {Pre : Pt → Array Value → Prop} {Post : Pt → Array Value → Option Value → Pt → Prop} {PostX : Pt → Array Value → Addr → Pt → Prop} (hK : vx_Back l R p e below s args y 3 W9 Pre Post PostX)
    {g : JFrame} (hg : g.method = m) (hsize : g.locals.size = c.maxLocals) {argsL rest : List Value} (hlen : ∀ sig, parseMethodDescriptor y.desc = some sig → argsL.length = sig.parameters.length)
    (hstack : g.stack = argsL.reverse ++ rest) (hW : 2 * g.monitorRoom + (rest.map fun v => v.category).sum ≤ W9) (hdg : decode c.code g.pc = .ok (.invokestatic index, 3))
    (hpre : ∀ vm₁, s.WarmedH vm₁ → Pre ⟨T.setVm vm₁, locs, cells, slots⟩ argsL.toArray) :
    (∃ (v : Option Value) (vm₁ : Vm) (B : Pt), s.WarmedH vm₁ ∧ Stand p l e R s m args below meth c B.U B.locs B.cells B.slots ∧ Post ⟨T.setVm vm₁, locs, cells, slots⟩ argsL.toArray v B ∧
      ∀ target, Steps p.tables e below (B.U.setTop { g with pc := g.pc + 3, stack := v.toList ++ rest }) target → Steps p.tables e below (T.setTop g) target) ∨
    (∃ (q : Addr) (vm₁ : Vm) (B : Pt), s.WarmedH vm₁ ∧ Stand p l e R s m args below meth c B.U B.locs B.cells B.slots ∧ PostX ⟨T.setVm vm₁, locs, cells, slots⟩ argsL.toArray q B ∧
      Steps p.tables e below (T.setTop g) ((B.U.setTop { g with stack := rest }).pushFrame (.throwing q))) := by
  obtain ⟨mk, methM, cM, hnamed, hmethM, -, -, -, -, -, -, hsigM⟩ := Cond.codeWith_spec hcode
  have hstatic : methM.isStatic = true := Cond.static_spec hnamed hmethM hstat
  obtain ⟨kP, hkP, -⟩ := className_of_methodNamed hnamed
  have hinitP : kP.init = .initialized := Cond.initialized_spec (findClass_of_methodNamed hnamed) hkP hinit
  obtain ⟨vm₁, X₁, hstep₁⟩ := X.invokestatic hexec hown hlink hnamed hmethM hstatic hkP hinitP hy (g := g) hg (argsL := argsL) (rest := rest) (hlen _ hsigM) hstack hdg
  rcases hK m meth c ⟨T.setVm vm₁, locs, cells, slots⟩ { g with stack := rest } (.invokestatic index) mk argsL.toArray X₁ hg hsize hdg hW (X₁.named hnamed) (hpre vm₁ X₁.warmed) with ⟨v, B, X', hpost, hsteps⟩ | ⟨q, B, X', hpost, hsteps⟩
  · exact Or.inl ⟨v, vm₁, B, X₁.warmed, X', hpost, fun target h => hstep₁ _ fun acts => by rw [doInvoke_state]; exact hsteps.trans h⟩
  · exact Or.inr ⟨q, vm₁, B, X₁.warmed, X', hpost, hstep₁ _ fun acts => by rw [doInvoke_state]; exact hsteps⟩
theorem vx_callVW (X : Stand p l e R s m args below meth c T locs cells slots) (hexec : p.tables.exec = Jvm.exec) {own C : String} {index : Nat} {y : MethodName} {bytes : ByteArray} {maxL : Nat} {ret : Option FieldType} {hh : List (Nat × Nat × Nat × Nat)}
    (hown : s.vm.findClass own = some m.cls) (hlink : (Cond.methodLink own index y).before args s = true) (hinst : (Cond.instanceMethod y).before args s = true) (hsel : (Cond.selects C y y).before args s = true)
    (hcode : (Cond.codeWith y bytes maxL ret hh).before args s = true) (hy : y.cls ≠ "java/lang/invoke/MethodHandle" ∧ y.cls ≠ "java/lang/invoke/VarHandle")
    {W9 : Nat} {Pre : Pt → Array Value → Prop} {Post : Pt → Array Value → Option Value → Pt → Prop} (hK : Back l R p e below s args y 3 W9 Pre Post)
    {b : Addr} {cellB : Cell} (hcell : T.heap[b]? = some cellB) (hobj : cellB.vm.isStatics = false) (hcls : s.vm.findClass C = some cellB.cls)
    {g : JFrame} (hg : g.method = m) (hsize : g.locals.size = c.maxLocals) {argsL rest : List Value} (hlen : ∀ sig, parseMethodDescriptor y.desc = some sig → argsL.length = sig.parameters.length)
    (hstack : g.stack = argsL.reverse ++ .ref b :: rest) (hW : 2 * g.monitorRoom + (rest.map fun v => v.category).sum ≤ W9) (hdg : decode c.code g.pc = .ok (.invokevirtual index, 3))
    (hpre : ∀ vm₁, s.WarmedH vm₁ → Pre ⟨T.setVm vm₁, locs, cells, slots⟩ (Value.ref b :: argsL).toArray) :
    ∃ (v : Option Value) (vm₁ : Vm) (B : Pt), s.WarmedH vm₁ ∧ Stand p l e R s m args below meth c B.U B.locs B.cells B.slots ∧ Post ⟨T.setVm vm₁, locs, cells, slots⟩ (Value.ref b :: argsL).toArray v B ∧
      ∀ target, Steps p.tables e below (B.U.setTop { g with pc := g.pc + 3, stack := v.toList ++ rest }) target → Steps p.tables e below (T.setTop g) target := by
  obtain ⟨mk, methM, hnamed, hmethM, hstM, habM⟩ := Cond.instanceMethod_spec hinst
  obtain ⟨m8, methM', cM, hn8, hmethM', -, -, -, -, -, -, hsigM⟩ := Cond.codeWith_spec hcode
  cases Option.some.inj (hn8.symm.trans hnamed)
  cases hmethM.symm.trans hmethM'
  obtain ⟨c2, r2, m2, q1, q2, q3, q4, kP, hkP, hkPi⟩ := Cond.selects_spec hsel
  cases hcls.symm.trans q1
  cases (State.methodFound?_of_named hnamed hy).symm.trans q2
  cases hnamed.symm.trans q3
  have hselP : selectMethod e.platform s.vm cellB.cls mk = .method mk := by rw [Launch.admits_selectMethod X.admits]; exact q4
  obtain ⟨vm₁, X₁, hstep₁⟩ := X.invokevirtual hexec hown hlink hnamed hmethM hstM hkP hkPi hy (a := b) (cell := cellB) hcell
    (fun z h => by rw [h] at hobj; cases hobj) hselP hmethM habM hkP hkPi (g := g) hg (argsL := argsL) (rest := rest) (hlen _ hsigM) hstack hdg
  obtain ⟨v, B, X', hpost, hsteps⟩ := hK m meth c ⟨T.setVm vm₁, locs, cells, slots⟩ { g with stack := rest } (.invokevirtual index) mk (Value.ref b :: argsL).toArray X₁ hg hsize hdg hW (X₁.named hnamed) (hpre vm₁ X₁.warmed)
  exact ⟨v, vm₁, B, X₁.warmed, X', hpost, fun target h => hstep₁ _ fun acts => by rw [doInvoke_state]; exact hsteps.trans h⟩
abbrev vx_CVW (R : Room) (s : State) (args : Array Value) (own C : String) (index : Nat) (y : MethodName) (bytes : ByteArray) (maxL : Nat) (ret : Option FieldType) (hh : List (Nat × Nat × Nat × Nat)) (ws : List Cond) (rm : Room) (mc ms n : Nat) : Prop :=
  (rm.cells = mc ∧ rm.slots = ms ∧ rm.frames + 1 ≤ R.frames ∧ 8 + (maxL + 11) + rm.locals ≤ R.locals ∧ (∀ w ∈ ws, ∀ (a' : Array Value) (U : State), s.WarmedH U.vm → w.before a' U = true) ∧ Cond.codeWith y bytes maxL ret hh ∈ ws) ∧
  (Cond.codeWith y bytes maxL ret hh).before args s = true ∧ (Cond.initialized y.cls).before args s = true ∧ (y.cls ≠ "java/lang/invoke/MethodHandle" ∧ y.cls ≠ "java/lang/invoke/VarHandle") ∧
  (∀ sig, parseMethodDescriptor y.desc = some sig → n = sig.parameters.length) ∧ (Cond.methodLink own index y).before args s = true ∧ (Cond.instanceMethod y).before args s = true ∧ (Cond.selects C y y).before args s = true
theorem vx_cwVW {own C : String} {index maxL mc ms : Nat} {y : MethodName} {bytes : ByteArray} {ret : Option FieldType} {hh : List (Nat × Nat × Nat × Nat)} {Ts ws ws' : List Cond} {rm : Room} (n : Nat) (ht : ∀ w ∈ Ts, w.before args s = true) (hT : GoodIn Ts (wsV own index C y ws)) (hw : ws = Cond.codeWith y bytes maxL ret hh :: ws') (hrc : rm.cells = mc) (hrs : rm.slots = ms)
    (hd : y.cls = C ∧ y.cls ≠ "java/lang/invoke/MethodHandle" ∧ y.cls ≠ "java/lang/invoke/VarHandle" ∧ (parseMethodDescriptor y.desc).map (fun d => d.parameters.length) = some n) (hR : rm.frames + 1 ≤ R.frames ∧ 8 + (maxL + 11) + rm.locals ≤ R.locals) :
    vx_CVW R s args own C index y bytes maxL ret hh ws rm mc ms n := by
  obtain ⟨hC, hd⟩ := hd
  subst hC
  have ok : ∀ w ∈ wsV own index y.cls y ws, w.before args s = true := fun w h => ht w (hT w h).1
  have hG : GoodIn Ts ws := fun w h => hT w (by unfold wsV; exact List.mem_append_right _ h)
  have hc : Cond.codeWith y bytes maxL ret hh ∈ ws := by rw [hw]; exact List.mem_cons_self
  refine ⟨⟨hrc, hrs, hR.1, hR.2, pay_in ht hG, hc⟩, ht _ (hG _ hc).1, ok _ (by simp [wsV]), ⟨hd.1, hd.2.1⟩, fun sig h => ?_, ok _ (by simp [wsV]), ok _ (by simp [wsV]), ok _ (by simp [wsV])⟩
  have h2 := hd.2.2
  rw [h] at h2
  exact (Option.some.inj h2).symm
theorem vx_runVW {y : MethodName} {bytes cc : ByteArray} {maxL nL mc ms n index : Nat} {ret : Option FieldType} {hh : List (Nat × Nat × Nat × Nat)} {ws : List Cond} {rm : Room} {Pc : Array Value → State → Prop} {Qc : Array Value → State → Outcome → State → Prop} {free : Addr → Prop} {Ts : List Cond} {own C : String} {b : Addr} {As rest : List Value} {g : JFrame}
    (S : CallFix p m c cc nL s args Ts own) (hM : Met l y ws rm Pc Qc mc ms free) (cw : vx_CVW R s args own C index y bytes maxL ret hh ws rm mc ms n) (hp : PreV s H C b Pc As)
    (hg : g.method = m) (hn : As.length = n) (hsize : g.locals.size = nL) (hstack : g.stack = As.reverse ++ .ref b :: rest) (hW : 2 * g.monitorRoom + (rest.map fun v => v.category).sum ≤ 8) (hdg : decode cc g.pc = .ok (.invokevirtual index, 3)) (hf : cells + mc ≤ R.cells ∧ slots + ms ≤ R.slots) :
    va_Run p l e R s m args below meth c H locs cells slots mc ms g rest (Qc (Value.ref b :: As).toArray) free := by
  obtain ⟨⟨hrc, hrs, hfr, hlo, hws, hcw⟩, hcode, hini, hy, hlen, hl, hin, hse⟩ := cw
  have hK : Back l R p e below s args y 3 8 (PreOf R mc ms Pc) (PostOf Qc mc ms free) := va_backW (hh := hh) (bytes := bytes) (maxL := maxL) (ret := ret) hM hp.1 hrc hrs hfr hlo hws hcw (fun a' U hW => word_at hW (Or.inl (by first | rfl | simp [Cond.onTables, Cond.keeps, Cond.steady])) hini)
  obtain ⟨hx, hb, hml, ho, -⟩ := S
  obtain ⟨-, ⟨cellB, hcB, hoB, hclB⟩, hPc⟩ := hp
  intro T hT X
  obtain ⟨v, vm₁, ⟨U', l2, c2, s2⟩, hW₁, X', ⟨g', mk, t, L, e1, e2, hq, h1, hL, h2, h3⟩, st⟩ := vx_callVW X hx (C := C) (hh := hh) (bytes := bytes) (maxL := maxL) (ret := ret) ho hl hin hse hcode hy hK (by rw [hT]; exact hcB) hoB hclB hg (hsize.trans hml.symm) (argsL := As) (rest := rest) (fun sig h => hn.trans (hlen sig h)) hstack hW (by rw [hb]; exact hdg)
    (fun vm₁ hW₁ => ⟨hf.1, hf.2, hPc (T.setVm vm₁) hT hW₁⟩)
  dsimp only [Pt.U, Pt.locs, Pt.cells, Pt.slots] at X' e1 e2 h1 h2 h3 st
  subst h1; subst h2; subst h3
  exact ⟨v, (T.setVm vm₁).calling g' mk (Value.ref b :: As).toArray, t, U', L, hT, X', hL, e1, e2, hq, st⟩
section
variable {y : MethodName} {bytes cc : ByteArray} {maxL nL mc ms n index : Nat} {ret : Option FieldType} {ws : List Cond} {rm : Room} {Pc : Array Value → State → Prop} {Qc : Array Value → State → Outcome → State → Prop} {XC : String → State → State → Prop} {free : Addr → Prop} {Ts : List Cond} {own C : String} {b : Addr} {As rest : List Value} {g : JFrame}
theorem vx_runVX {hh : List (Nat × Nat × Nat × Nat)} (S : CallFix p m c cc nL s args Ts own) (hM : vx_Met l y ws rm Pc Qc XC mc ms free) (cw : vx_CVW R s args own C index y bytes maxL ret hh ws rm mc ms n) (hp : PreV s H C b Pc As)
    (hg : g.method = m) (hn : As.length = n) (hsize : g.locals.size = nL) (hstack : g.stack = As.reverse ++ .ref b :: rest) (hW : 2 * g.monitorRoom + (rest.map fun v => v.category).sum ≤ 8) (hdg : decode cc g.pc = .ok (.invokevirtual index, 3)) (hf : cells + mc ≤ R.cells ∧ slots + ms ≤ R.slots) :
    vx_Run p l e R s m args below meth c H locs cells slots mc ms g rest (Qc (Value.ref b :: As).toArray) XC free := by
  obtain ⟨⟨hrc, hrs, hfr, hlo, hws, hcw⟩, hcode, hini, hy, hlen, hl, hin, hse⟩ := cw
  have hK : vx_Back l R p e below s args y 3 8 (PreOf R mc ms Pc) (PostOf Qc mc ms free) (vx_Post XC mc ms free) := vx_backW (hh := hh) (bytes := bytes) (maxL := maxL) (ret := ret) hM hp.1 hrc hrs hfr hlo hws hcw (fun a' U hW => word_at hW (Or.inl (by first | rfl | simp [Cond.onTables, Cond.keeps, Cond.steady])) hini)
  obtain ⟨hx, hb, hml, ho, -⟩ := S
  obtain ⟨-, ⟨cellB, hcB, hoB, hclB⟩, hPc⟩ := hp
  intro T hT X
  rcases vx_callVX X hx (C := C) (hh := hh) (bytes := bytes) (maxL := maxL) (ret := ret) ho hl hin hse hcode hy hK (by rw [hT]; exact hcB) hoB hclB hg (hsize.trans hml.symm) (argsL := As) (rest := rest) (fun sig h => hn.trans (hlen sig h)) hstack hW (by rw [hb]; exact hdg)
    (fun vm₁ hW₁ => ⟨hf.1, hf.2, hPc (T.setVm vm₁) hT hW₁⟩) with ⟨v, vm₁, ⟨U', l2, c2, s2⟩, hW₁, X', ⟨g', mk, t, L, e1, e2, hq, h1, hL, h2, h3⟩, st⟩ | ⟨q, vm₁, ⟨U', l2, c2, s2⟩, hW₁, X', ⟨g', mk, t, L, E, ce, e1, e2, hq, hce, hcv, hcl, h1, hL, h2, h3⟩, st⟩
  · dsimp only [Pt.U, Pt.locs, Pt.cells, Pt.slots] at X' e1 e2 h1 h2 h3 st
    subst h1; subst h2; subst h3
    exact Or.inl ⟨v, (T.setVm vm₁).calling g' mk (Value.ref b :: As).toArray, t, U', L, hT, X', hL, e1, e2, hq, st⟩
  · dsimp only [Pt.U, Pt.locs, Pt.cells, Pt.slots] at X' e1 e2 h1 h2 h3 st hcl
    subst h1; subst h2; subst h3
    exact Or.inr ⟨q, (T.setVm vm₁).calling g' mk (Value.ref b :: As).toArray, t, U', L, E, ce, hT, X', hL, e1, e2, hq, hce, hcv, vx_cls hW₁ hcl, st⟩
theorem vx_runSX {hh : List (Nat × Nat × Nat × Nat)} (S : CallFix p m c cc nL s args Ts own) (hM : vx_Met l y ws rm Pc Qc XC mc ms free) (cw : vx_CSW R s args own index y bytes maxL ret hh ws rm mc ms n) (hp : PreS s H Pc As)
    (hg : g.method = m) (hn : As.length = n) (hsize : g.locals.size = nL) (hstack : g.stack = As.reverse ++ rest) (hW : 2 * g.monitorRoom + (rest.map fun v => v.category).sum ≤ 8) (hdg : decode cc g.pc = .ok (.invokestatic index, 3)) (hf : cells + mc ≤ R.cells ∧ slots + ms ≤ R.slots) :
    vx_Run p l e R s m args below meth c H locs cells slots mc ms g rest (Qc As.toArray) XC free := by
  obtain ⟨⟨hrc, hrs, hfr, hlo, hws, hcw⟩, hcode, hini, hy, hlen, hl, hstt⟩ := cw
  have hK : vx_Back l R p e below s args y 3 8 (PreOf R mc ms Pc) (PostOf Qc mc ms free) (vx_Post XC mc ms free) := vx_backW (hh := hh) (bytes := bytes) (maxL := maxL) (ret := ret) hM hp.1 hrc hrs hfr hlo hws hcw (fun a' U hW => word_at hW (Or.inl (by first | rfl | simp [Cond.onTables, Cond.keeps, Cond.steady])) hini)
  obtain ⟨hx, hb, hml, ho, -⟩ := S
  intro T hT X
  rcases vx_callSX X hx (hh := hh) (bytes := bytes) (maxL := maxL) (ret := ret) ho hl hstt hini hcode hy hK hg (hsize.trans hml.symm) (argsL := As) (rest := rest) (fun sig h => hn.trans (hlen sig h)) hstack hW (by rw [hb]; exact hdg)
    (fun vm₁ hW₁ => ⟨hf.1, hf.2, hp.2 (T.setVm vm₁) hT hW₁⟩) with ⟨v, vm₁, ⟨U', l2, c2, s2⟩, hW₁, X', ⟨g', mk, t, L, e1, e2, hq, h1, hL, h2, h3⟩, st⟩ | ⟨q, vm₁, ⟨U', l2, c2, s2⟩, hW₁, X', ⟨g', mk, t, L, E, ce, e1, e2, hq, hce, hcv, hcl, h1, hL, h2, h3⟩, st⟩
  · dsimp only [Pt.U, Pt.locs, Pt.cells, Pt.slots] at X' e1 e2 h1 h2 h3 st
    subst h1; subst h2; subst h3
    exact Or.inl ⟨v, (T.setVm vm₁).calling g' mk As.toArray, t, U', L, hT, X', hL, e1, e2, hq, st⟩
  · dsimp only [Pt.U, Pt.locs, Pt.cells, Pt.slots] at X' e1 e2 h1 h2 h3 st hcl
    subst h1; subst h2; subst h3
    exact Or.inr ⟨q, (T.setVm vm₁).calling g' mk As.toArray, t, U', L, E, ce, hT, X', hL, e1, e2, hq, hce, hcv, vx_cls hW₁ hcl, st⟩
end
end VXH
theorem vx_ofWH {l : Launch} {y : MethodName} {ws ws' : List Cond} {rm : Room} {Pc : Array Value → State → Prop} {Qc : Array Value → State → Outcome → State → Prop} {XC : String → State → State → Prop} {mc ms : Nat} {free : Addr → Prop} {cc : ByteArray} {maxL : Nat} {ret : Option FieldType} {hh : List (Nat × Nat × Nat × Nat)}
    (hy : plainName y.cls = true) (hw : ws = Cond.codeWith y cc maxL ret hh :: ws')
    (body : ∀ p e s m args below meth c s₁, BodyLoose p l y (headSpec ws rm) cc maxL ret e s m args below meth c s₁ → c.maxLocals = maxL → Pc args s →
      W p l e (headSpec ws rm).room s m args below meth c s.heap [] 0 0 (vx_MQ below Qc XC args s mc ms free) (entryFrame m args maxL)) : vx_Met l y ws rm Pc Qc XC mc ms free := by
  refine MetFree.of_bodyS (code := cc) (maxLocals := maxL) (ret := ret) hy ?_ ?_
  · intro args s m h hn
    obtain ⟨m9, meth, c, hn9, h1, h2, h3, h4, -, h5, h6, -⟩ := Cond.codeWith_spec (atoms_spec (ws := ws) h _ (by rw [hw]; exact List.mem_cons_self))
    cases hn.symm.trans hn9
    exact ⟨meth, c, h1, h2, h3, h4, h5, h6⟩
  · intro p e s m args below meth c s₁ B hml hP _
    have hh0 : s₁.heap = s.heap := by rw [B.state]; rfl
    obtain ⟨t, a1, o, b1, b2, b3⟩ := body p e s m args below meth c s₁ B hml hP s₁ hh0 (Stand.of_body B)
    exact ⟨t, o, a1, b1, b2, b3⟩
/-! ===== END ===== -/
end
section
/-! ===== BEGIN printed: names, fields, word lists, decode rows ===== -/
def RX0 : String := "RentHarmony$Bids"
def TX0 : u_T := fun k => match k with
  | 0 => ("RentHarmony$Bids", "coins", "[I", true)
  | _ => ("RentHarmony$Bids", "size", "I", false)
def tyX0 : Nat → FieldType := fun k => match k with
  | 0 => .array .int
  | _ => .int
abbrev wsX00 : List Cond := u_ws RX0 TX0 2
theorem nmX0 : ∀ a, a < 2 → ∀ b, b < 2 → a ≠ b → (TX0 a).2.1 ≠ (TX0 b).2.1 := by decide +kernel
theorem tyX0_ok : ∀ k, k < 2 → parseFieldDescriptor (TX0 k).2.2.1 = some (tyX0 k) := by decide +kernel
abbrev cX0_init : ByteArray := prog_2_method_1_code
def yX0_init : MethodName := ⟨RX0, "<init>", "()V"⟩
abbrev cX0_size : ByteArray := prog_2_method_2_code
def yX0_size : MethodName := ⟨RX0, "size", "()I"⟩
abbrev cX0_has : ByteArray := prog_2_method_3_code
def yX0_has : MethodName := ⟨RX0, "has", "(I)Z"⟩
abbrev cX0_of : ByteArray := prog_2_method_4_code
def yX0_of : MethodName := ⟨RX0, "of", "(II)I"⟩
abbrev cX0_set : ByteArray := prog_2_method_5_code
def yX0_set : MethodName := ⟨RX0, "set", "(III)V"⟩
abbrev cX0_copy : ByteArray := prog_2_method_6_code
def yX0_copy : MethodName := ⟨RX0, "copy", "(LRentHarmony$Bids;)V"⟩
abbrev cX0_grow : ByteArray := prog_2_method_7_code
def yX0_grow : MethodName := ⟨RX0, "grow", "()V"⟩
abbrev cX0_shrink : ByteArray := prog_2_method_8_code
def yX0_shrink : MethodName := ⟨RX0, "shrink", "(II)V"⟩
def RX1 : String := "RentHarmony$Giving"
def TX1 : u_T := fun k => match k with
  | 0 => ("RentHarmony$Giving", "bestOfRest", "[I", true)
  | 1 => ("RentHarmony$Giving", "waysOfRest", "[I", true)
  | _ => ("RentHarmony$Giving", "rooms", "[I", true)
def tyX1 : Nat → FieldType := fun k => match k with
  | 0 => .array .int
  | 1 => .array .int
  | _ => .array .int
abbrev wsX10 : List Cond := u_ws RX1 TX1 3
theorem nmX1 : ∀ a, a < 3 → ∀ b, b < 3 → a ≠ b → (TX1 a).2.1 ≠ (TX1 b).2.1 := by decide +kernel
theorem tyX1_ok : ∀ k, k < 3 → parseFieldDescriptor (TX1 k).2.2.1 = some (tyX1 k) := by decide +kernel
abbrev cX1_init : ByteArray := prog_3_method_1_code
def yX1_init : MethodName := ⟨RX1, "<init>", "()V"⟩
abbrev cX1_worth : ByteArray := prog_3_method_2_code
def yX1_worth : MethodName := ⟨RX1, "worth", "()I"⟩
abbrev cX1_ways : ByteArray := prog_3_method_3_code
def yX1_ways : MethodName := ⟨RX1, "ways", "()I"⟩
abbrev cX1_roomOf : ByteArray := prog_3_method_4_code
def yX1_roomOf : MethodName := ⟨RX1, "roomOf", "(I)I"⟩
abbrev cX1_choose : ByteArray := prog_3_method_5_code
def yX1_choose : MethodName := ⟨RX1, "choose", "(LRentHarmony$Bids;)V"⟩
abbrev cX1_weigh : ByteArray := prog_3_method_6_code
def yX1_weigh : MethodName := ⟨RX1, "weigh", "(LRentHarmony$Bids;I)V"⟩
abbrev cX1_firstBestRoom : ByteArray := prog_3_method_7_code
def yX1_firstBestRoom : MethodName := ⟨RX1, "firstBestRoom", "(LRentHarmony$Bids;II)I"⟩
def RX2 : String := "RentHarmony"
def TX2 : u_T := fun k => match k with
  | 0 => ("RentHarmony", "bids", "LRentHarmony$Bids;", true)
  | 1 => ("RentHarmony", "giving", "LRentHarmony$Giving;", true)
  | 2 => ("RentHarmony", "triedBids", "LRentHarmony$Bids;", true)
  | 3 => ("RentHarmony", "triedGiving", "LRentHarmony$Giving;", true)
  | 4 => ("RentHarmony", "firstRebates", "[I", true)
  | 5 => ("RentHarmony", "chains", "[I", true)
  | 6 => ("RentHarmony", "rentCoins", "I", false)
  | 7 => ("RentHarmony", "share", "I", false)
  | _ => ("RentHarmony", "pot", "I", false)
def tyX2 : Nat → FieldType := fun k => match k with
  | 0 => .object "RentHarmony$Bids"
  | 1 => .object "RentHarmony$Giving"
  | 2 => .object "RentHarmony$Bids"
  | 3 => .object "RentHarmony$Giving"
  | 4 => .array .int
  | 5 => .array .int
  | 6 => .int
  | 7 => .int
  | _ => .int
abbrev wsX20 : List Cond := u_ws RX2 TX2 9
theorem nmX2 : ∀ a, a < 9 → ∀ b, b < 9 → a ≠ b → (TX2 a).2.1 ≠ (TX2 b).2.1 := by decide +kernel
theorem tyX2_ok : ∀ k, k < 9 → parseFieldDescriptor (TX2 k).2.2.1 = some (tyX2 k) := by decide +kernel
abbrev cX2_init : ByteArray := prog_1_method_1_code
def yX2_init : MethodName := ⟨RX2, "<init>", "()V"⟩
abbrev cX2_come : ByteArray := prog_1_method_2_code
def yX2_come : MethodName := ⟨RX2, "come", "()I"⟩
abbrev cX2_bid : ByteArray := prog_1_method_3_code
def yX2_bid : MethodName := ⟨RX2, "bid", "(III)I"⟩
abbrev cX2_rent : ByteArray := prog_1_method_4_code
def yX2_rent : MethodName := ⟨RX2, "rent", "(I)I"⟩
abbrev cX2_leave : ByteArray := prog_1_method_5_code
def yX2_leave : MethodName := ⟨RX2, "leave", "(I)I"⟩
abbrev cX2_told : ByteArray := prog_1_method_6_code
def yX2_told : MethodName := ⟨RX2, "told", "(II)I"⟩
abbrev cX2_offer : ByteArray := prog_1_method_7_code
def yX2_offer : MethodName := ⟨RX2, "offer", "(II)I"⟩
abbrev cX2_count : ByteArray := prog_1_method_8_code
def yX2_count : MethodName := ⟨RX2, "count", "(I)I"⟩
abbrev cX2_envies : ByteArray := prog_1_method_9_code
def yX2_envies : MethodName := ⟨RX2, "envies", "(II)Z"⟩
abbrev cX2_gap : ByteArray := prog_1_method_10_code
def yX2_gap : MethodName := ⟨RX2, "gap", "(II)I"⟩
abbrev cX2_chain : ByteArray := prog_1_method_11_code
def yX2_chain : MethodName := ⟨RX2, "chain", "()I"⟩
abbrev cX2_would : ByteArray := prog_1_method_12_code
def yX2_would : MethodName := ⟨RX2, "would", "(III)I"⟩
abbrev cX2_needs : ByteArray := prog_1_method_13_code
def yX2_needs : MethodName := ⟨RX2, "needs", "(II)I"⟩
abbrev cX2_without : ByteArray := prog_1_method_14_code
def yX2_without : MethodName := ⟨RX2, "without", "(I)I"⟩
abbrev cX2_mean : ByteArray := prog_1_method_15_code
def yX2_mean : MethodName := ⟨RX2, "mean", "()D"⟩
abbrev cX2_digest : ByteArray := prog_1_method_16_code
def yX2_digest : MethodName := ⟨RX2, "digest", "()J"⟩
abbrev cX2_fact : ByteArray := prog_1_method_17_code
def yX2_fact : MethodName := ⟨RX2, "fact", "(II)I"⟩
abbrev cX2_total : ByteArray := prog_1_method_18_code
def yX2_total : MethodName := ⟨RX2, "total", "(I)I"⟩
abbrev cX2_ownBidOf : ByteArray := prog_1_method_19_code
def yX2_ownBidOf : MethodName := ⟨RX2, "ownBidOf", "(I)I"⟩
abbrev cX2_firstRebateOf : ByteArray := prog_1_method_20_code
def yX2_firstRebateOf : MethodName := ⟨RX2, "firstRebateOf", "(I)I"⟩
abbrev cX2_rebateOf : ByteArray := prog_1_method_21_code
def yX2_rebateOf : MethodName := ⟨RX2, "rebateOf", "(I)I"⟩
abbrev cX2_payOf : ByteArray := prog_1_method_22_code
def yX2_payOf : MethodName := ⟨RX2, "payOf", "(I)I"⟩
abbrev cX2_allFirstRebates : ByteArray := prog_1_method_23_code
def yX2_allFirstRebates : MethodName := ⟨RX2, "allFirstRebates", "()I"⟩
abbrev cX2_allPays : ByteArray := prog_1_method_24_code
def yX2_allPays : MethodName := ⟨RX2, "allPays", "()I"⟩
abbrev cX2_wouldEnvy : ByteArray := prog_1_method_25_code
def yX2_wouldEnvy : MethodName := ⟨RX2, "wouldEnvy", "(II)Z"⟩
abbrev cX2_enviedBy : ByteArray := prog_1_method_26_code
def yX2_enviedBy : MethodName := ⟨RX2, "enviedBy", "(I)I"⟩
abbrev cX2_longestChainFrom : ByteArray := prog_1_method_27_code
def yX2_longestChainFrom : MethodName := ⟨RX2, "longestChainFrom", "(I)I"⟩
abbrev cX2_roomTried : ByteArray := prog_1_method_28_code
def yX2_roomTried : MethodName := ⟨RX2, "roomTried", "(III)I"⟩
abbrev cX2_settleAll : ByteArray := prog_1_method_29_code
def yX2_settleAll : MethodName := ⟨RX2, "settleAll", "()V"⟩
abbrev cX2_settleFirstRebates : ByteArray := prog_1_method_30_code
def yX2_settleFirstRebates : MethodName := ⟨RX2, "settleFirstRebates", "()V"⟩
abbrev cX2_bestOfAllRooms : ByteArray := prog_1_method_31_code
def yX2_bestOfAllRooms : MethodName := ⟨RX2, "bestOfAllRooms", "(I)I"⟩
abbrev cX2_settleLeftOver : ByteArray := prog_1_method_32_code
def yX2_settleLeftOver : MethodName := ⟨RX2, "settleLeftOver", "()V"⟩
def RX3 : String := "RentHarmonyModel"
def TX3 : u_T := fun k => match k with
  | 0 => ("RentHarmonyModel", "thrown", "I", false)
  | 1 => ("RentHarmonyModel", "lodgers", "I", false)
  | 2 => ("RentHarmonyModel", "rent", "I", false)
  | 3 => ("RentHarmonyModel", "bids", "[I", true)
  | 4 => ("RentHarmonyModel", "rooms", "[I", true)
  | 5 => ("RentHarmonyModel", "early", "[I", true)
  | 6 => ("RentHarmonyModel", "rebates", "[I", true)
  | 7 => ("RentHarmonyModel", "worth", "I", false)
  | 8 => ("RentHarmonyModel", "ways", "I", false)
  | 9 => ("RentHarmonyModel", "pot", "I", false)
  | 10 => ("RentHarmonyModel", "tried", "[I", true)
  | 11 => ("RentHarmonyModel", "free", "I", false)
  | 12 => ("RentHarmonyModel", "who", "I", false)
  | 13 => ("RentHarmonyModel", "which", "I", false)
  | _ => ("RentHarmonyModel", "must", "Z", false)
def tyX3 : Nat → FieldType := fun k => match k with
  | 0 => .int
  | 1 => .int
  | 2 => .int
  | 3 => .array .int
  | 4 => .array .int
  | 5 => .array .int
  | 6 => .array .int
  | 7 => .int
  | 8 => .int
  | 9 => .int
  | 10 => .array .int
  | 11 => .int
  | 12 => .int
  | 13 => .int
  | _ => .boolean
abbrev wsX30 : List Cond := u_ws RX3 TX3 15
theorem nmX3 : ∀ a, a < 15 → ∀ b, b < 15 → a ≠ b → (TX3 a).2.1 ≠ (TX3 b).2.1 := by decide +kernel
theorem tyX3_ok : ∀ k, k < 15 → parseFieldDescriptor (TX3 k).2.2.1 = some (tyX3 k) := by decide +kernel
abbrev cX3_init : ByteArray := prog_5_method_1_code
def yX3_init : MethodName := ⟨RX3, "<init>", "()V"⟩
abbrev cX3_thrown : ByteArray := prog_5_method_2_code
def yX3_thrown : MethodName := ⟨RX3, "thrown", "()I"⟩
abbrev cX3_fail : ByteArray := prog_5_method_3_code
def yX3_fail : MethodName := ⟨RX3, "fail", "(I)I"⟩
abbrev cX3_isIn : ByteArray := prog_5_method_4_code
def yX3_isIn : MethodName := ⟨RX3, "isIn", "(III)Z"⟩
abbrev cX3_isOne : ByteArray := prog_5_method_5_code
def yX3_isOne : MethodName := ⟨RX3, "isOne", "(I)Z"⟩
abbrev cX3_bi : ByteArray := prog_5_method_6_code
def yX3_bi : MethodName := ⟨RX3, "bi", "(II)I"⟩
abbrev cX3_come : ByteArray := prog_5_method_7_code
def yX3_come : MethodName := ⟨RX3, "come", "()I"⟩
abbrev cX3_bid : ByteArray := prog_5_method_8_code
def yX3_bid : MethodName := ⟨RX3, "bid", "(III)I"⟩
abbrev cX3_rent : ByteArray := prog_5_method_9_code
def yX3_rent : MethodName := ⟨RX3, "rent", "(I)I"⟩
abbrev cX3_isTaken : ByteArray := prog_5_method_10_code
def yX3_isTaken : MethodName := ⟨RX3, "isTaken", "(II)Z"⟩
abbrev cX3_tryFrom : ByteArray := prog_5_method_11_code
def yX3_tryFrom : MethodName := ⟨RX3, "tryFrom", "(II)V"⟩
abbrev cX3_give : ByteArray := prog_5_method_12_code
def yX3_give : MethodName := ⟨RX3, "give", "()I"⟩
abbrev cX3_of : ByteArray := prog_5_method_13_code
def yX3_of : MethodName := ⟨RX3, "of", "(II)I"⟩
abbrev cX3_isRaised : ByteArray := prog_5_method_14_code
def yX3_isRaised : MethodName := ⟨RX3, "isRaised", "()Z"⟩
abbrev cX3_settle : ByteArray := prog_5_method_15_code
def yX3_settle : MethodName := ⟨RX3, "settle", "()V"⟩
abbrev cX3_pays : ByteArray := prog_5_method_16_code
def yX3_pays : MethodName := ⟨RX3, "pays", "(I)I"⟩
abbrev cX3_isEnvy : ByteArray := prog_5_method_17_code
def yX3_isEnvy : MethodName := ⟨RX3, "isEnvy", "(II)Z"⟩
abbrev cX3_leave : ByteArray := prog_5_method_18_code
def yX3_leave : MethodName := ⟨RX3, "leave", "(I)I"⟩
abbrev cX3_toldOf : ByteArray := prog_5_method_19_code
def yX3_toldOf : MethodName := ⟨RX3, "toldOf", "(II)I"⟩
abbrev cX3_told : ByteArray := prog_5_method_20_code
def yX3_told : MethodName := ⟨RX3, "told", "(II)I"⟩
abbrev cX3_offer : ByteArray := prog_5_method_21_code
def yX3_offer : MethodName := ⟨RX3, "offer", "(II)I"⟩
abbrev cX3_counted : ByteArray := prog_5_method_22_code
def yX3_counted : MethodName := ⟨RX3, "counted", "(I)I"⟩
abbrev cX3_count : ByteArray := prog_5_method_23_code
def yX3_count : MethodName := ⟨RX3, "count", "(I)I"⟩
abbrev cX3_envies : ByteArray := prog_5_method_24_code
def yX3_envies : MethodName := ⟨RX3, "envies", "(II)Z"⟩
abbrev cX3_gap : ByteArray := prog_5_method_25_code
def yX3_gap : MethodName := ⟨RX3, "gap", "(II)I"⟩
abbrev cX3_chainFrom : ByteArray := prog_5_method_26_code
def yX3_chainFrom : MethodName := ⟨RX3, "chainFrom", "(I)I"⟩
abbrev cX3_chain : ByteArray := prog_5_method_27_code
def yX3_chain : MethodName := ⟨RX3, "chain", "()I"⟩
abbrev cX3_roomWith : ByteArray := prog_5_method_28_code
def yX3_roomWith : MethodName := ⟨RX3, "roomWith", "(III)I"⟩
abbrev cX3_would : ByteArray := prog_5_method_29_code
def yX3_would : MethodName := ⟨RX3, "would", "(III)I"⟩
abbrev cX3_worthWith : ByteArray := prog_5_method_30_code
def yX3_worthWith : MethodName := ⟨RX3, "worthWith", "(IIZZ)I"⟩
abbrev cX3_needs : ByteArray := prog_5_method_31_code
def yX3_needs : MethodName := ⟨RX3, "needs", "(II)I"⟩
abbrev cX3_without : ByteArray := prog_5_method_32_code
def yX3_without : MethodName := ⟨RX3, "without", "(I)I"⟩
abbrev cX3_mean : ByteArray := prog_5_method_33_code
def yX3_mean : MethodName := ⟨RX3, "mean", "()D"⟩
abbrev cX3_digest : ByteArray := prog_5_method_34_code
def yX3_digest : MethodName := ⟨RX3, "digest", "()J"⟩
def RJ6 : String := "java/lang/Integer"
def TJ6 : u_T := fun k => match k with
  | _ => ("", "", "", false)
def tyJ6 : Nat → FieldType := fun k => match k with
  | _ => .int
abbrev wsJ60 : List Cond := u_ws RJ6 TJ6 0
theorem nmJ6 : ∀ a, a < 0 → ∀ b, b < 0 → a ≠ b → (TJ6 a).2.1 ≠ (TJ6 b).2.1 := by decide +kernel
theorem tyJ6_ok : ∀ k, k < 0 → parseFieldDescriptor (TJ6 k).2.2.1 = some (tyJ6 k) := by decide +kernel
abbrev cJ6_bitCount_0f7a4 : ByteArray := prog_10_method_49_code
def yJ6_bitCount_0f7a4 : MethodName := ⟨RJ6, "bitCount", "(I)I"⟩
def RJ9 : String := "java/lang/Math"
def TJ9 : u_T := fun k => match k with
  | _ => ("", "", "", false)
def tyJ9 : Nat → FieldType := fun k => match k with
  | _ => .int
abbrev wsJ90 : List Cond := u_ws RJ9 TJ9 0
theorem nmJ9 : ∀ a, a < 0 → ∀ b, b < 0 → a ≠ b → (TJ9 a).2.1 ≠ (TJ9 b).2.1 := by decide +kernel
theorem tyJ9_ok : ∀ k, k < 0 → parseFieldDescriptor (TJ9 k).2.2.1 = some (tyJ9 k) := by decide +kernel
abbrev cJ9_max_7cf53 : ByteArray := prog_11_method_65_code
def yJ9_max_7cf53 : MethodName := ⟨RJ9, "max", "(II)I"⟩
abbrev cJ9_min_7cf53 : ByteArray := prog_11_method_69_code
def yJ9_min_7cf53 : MethodName := ⟨RJ9, "min", "(II)I"⟩
def RJ0 : String := "java/lang/String"
def TJ0 : u_T := fun k => match k with
  | _ => ("", "", "", false)
def tyJ0 : Nat → FieldType := fun k => match k with
  | _ => .int
abbrev wsJ00 : List Cond := u_ws RJ0 TJ0 0
theorem nmJ0 : ∀ a, a < 0 → ∀ b, b < 0 → a ≠ b → (TJ0 a).2.1 ≠ (TJ0 b).2.1 := by decide +kernel
theorem tyJ0_ok : ∀ k, k < 0 → parseFieldDescriptor (TJ0 k).2.2.1 = some (tyJ0 k) := by decide +kernel
def RJ10 : String := "java/lang/System"
def TJ10 : u_T := fun k => match k with
  | _ => ("", "", "", false)
def tyJ10 : Nat → FieldType := fun k => match k with
  | _ => .int
abbrev wsJ100 : List Cond := u_ws RJ10 TJ10 0
theorem nmJ10 : ∀ a, a < 0 → ∀ b, b < 0 → a ≠ b → (TJ10 a).2.1 ≠ (TJ10 b).2.1 := by decide +kernel
theorem tyJ10_ok : ∀ k, k < 0 → parseFieldDescriptor (TJ10 k).2.2.1 = some (tyJ10 k) := by decide +kernel
def RL : String := "RentHarmonyLaw"
abbrev cL_come : ByteArray := method_3_code
def yL_come : MethodName := ⟨RL, "come", "(LRentHarmony;[J)I"⟩
abbrev cL_bid : ByteArray := method_4_code
def yL_bid : MethodName := ⟨RL, "bid", "(LRentHarmony;III[J)I"⟩
abbrev cL_rent : ByteArray := method_5_code
def yL_rent : MethodName := ⟨RL, "rent", "(LRentHarmony;I[J)I"⟩
abbrev cL_leave : ByteArray := method_6_code
def yL_leave : MethodName := ⟨RL, "leave", "(LRentHarmony;I[J)I"⟩
abbrev cL_told : ByteArray := method_7_code
def yL_told : MethodName := ⟨RL, "told", "(LRentHarmony;II[J)I"⟩
abbrev cL_offer : ByteArray := method_8_code
def yL_offer : MethodName := ⟨RL, "offer", "(LRentHarmony;II[J)I"⟩
abbrev cL_count : ByteArray := method_9_code
def yL_count : MethodName := ⟨RL, "count", "(LRentHarmony;I[J)I"⟩
abbrev cL_envies : ByteArray := method_10_code
def yL_envies : MethodName := ⟨RL, "envies", "(LRentHarmony;II[J)I"⟩
abbrev cL_gap : ByteArray := method_11_code
def yL_gap : MethodName := ⟨RL, "gap", "(LRentHarmony;II[J)I"⟩
abbrev cL_would : ByteArray := method_12_code
def yL_would : MethodName := ⟨RL, "would", "(LRentHarmony;III[J)I"⟩
abbrev cL_needs : ByteArray := method_13_code
def yL_needs : MethodName := ⟨RL, "needs", "(LRentHarmony;II[J)I"⟩
abbrev cL_without : ByteArray := method_14_code
def yL_without : MethodName := ⟨RL, "without", "(LRentHarmony;I[J)I"⟩
abbrev cL_law : ByteArray := code
def yL_law : MethodName := ⟨RL, "law", "([I)Z"⟩
def wsX0_init : List Cond := .code yX0_init cX0_init 1 none :: ([.methodLink RX0 3 objectInit, .instanceMethod objectInit, .code objectInit ⟨#[0xb1]⟩ 1 none, .arrayClass .int, .fieldLink RX0 9 "RentHarmony$Bids" "coins" "[I", .fieldLink RX0 15 "RentHarmony$Bids" "size" "I"] ++ wsX00)
def wsX0_size : List Cond := .code yX0_size cX0_size 1 (some .int) :: ([.fieldLink RX0 15 "RentHarmony$Bids" "size" "I"] ++ wsX00)
def wsX0_has : List Cond := .code yX0_has cX0_has 2 (some .boolean) :: ([.fieldLink RX0 15 "RentHarmony$Bids" "size" "I"] ++ wsX00)
def wsX0_of : List Cond := .code yX0_of cX0_of 3 (some .int) :: ([.fieldLink RX0 9 "RentHarmony$Bids" "coins" "[I", .methodLink RX0 19 yX0_has, .instanceMethod yX0_has, .selects RX0 yX0_has yX0_has, .initialized RX0, .code yX0_has cX0_has 2 (some .boolean), .fieldLink RX0 15 "RentHarmony$Bids" "size" "I"] ++ wsX00)
def wsX0_set : List Cond := .code yX0_set cX0_set 4 none :: ([.fieldLink RX0 9 "RentHarmony$Bids" "coins" "[I", .methodLink RX0 19 yX0_has, .instanceMethod yX0_has, .selects RX0 yX0_has yX0_has, .initialized RX0, .code yX0_has cX0_has 2 (some .boolean), .fieldLink RX0 15 "RentHarmony$Bids" "size" "I"] ++ wsX00)
def wsX0_copy : List Cond := .code yX0_copy cX0_copy 2 none :: ([.fieldLink RX0 9 "RentHarmony$Bids" "coins" "[I", .methodLink RX0 23 arraycopyName, .native arraycopyName, .static arraycopyName, .initialized "java/lang/System", .fieldLink RX0 15 "RentHarmony$Bids" "size" "I"] ++ wsX00)
def wsX0_grow : List Cond := .code yX0_grow cX0_grow 2 none :: ([.fieldLink RX0 15 "RentHarmony$Bids" "size" "I", .methodLink RX0 29 yX0_set, .instanceMethod yX0_set, .selects RX0 yX0_set yX0_set, .initialized RX0, .code yX0_set cX0_set 4 none, .fieldLink RX0 9 "RentHarmony$Bids" "coins" "[I", .methodLink RX0 19 yX0_has, .instanceMethod yX0_has, .selects RX0 yX0_has yX0_has, .code yX0_has cX0_has 2 (some .boolean)] ++ wsX00)
def wsX0_shrink : List Cond := .code yX0_shrink cX0_shrink 5 none :: ([.fieldLink RX0 15 "RentHarmony$Bids" "size" "I", .methodLink RX0 19 yX0_has, .instanceMethod yX0_has, .selects RX0 yX0_has yX0_has, .initialized RX0, .code yX0_has cX0_has 2 (some .boolean), .methodLink RX0 33 yX0_of, .instanceMethod yX0_of, .selects RX0 yX0_of yX0_of, .code yX0_of cX0_of 3 (some .int), .fieldLink RX0 9 "RentHarmony$Bids" "coins" "[I", .methodLink RX0 29 yX0_set, .instanceMethod yX0_set, .selects RX0 yX0_set yX0_set, .code yX0_set cX0_set 4 none] ++ wsX00)
def wsX1_init : List Cond := .code yX1_init cX1_init 1 none :: ([.methodLink RX1 3 objectInit, .instanceMethod objectInit, .code objectInit ⟨#[0xb1]⟩ 1 none, .arrayClass .int, .fieldLink RX1 9 "RentHarmony$Giving" "bestOfRest" "[I", .fieldLink RX1 15 "RentHarmony$Giving" "waysOfRest" "[I", .fieldLink RX1 18 "RentHarmony$Giving" "rooms" "[I"] ++ wsX10)
def wsX1_worth : List Cond := .code yX1_worth cX1_worth 1 (some .int) :: ([.fieldLink RX1 9 "RentHarmony$Giving" "bestOfRest" "[I"] ++ wsX10)
def wsX1_ways : List Cond := .code yX1_ways cX1_ways 1 (some .int) :: ([.fieldLink RX1 15 "RentHarmony$Giving" "waysOfRest" "[I"] ++ wsX10)
def wsX1_roomOf : List Cond := .code yX1_roomOf cX1_roomOf 2 (some .int) :: ([.fieldLink RX1 18 "RentHarmony$Giving" "rooms" "[I"] ++ wsX10)
def wsJ6_bitCount_0f7a4 : List Cond := .code yJ6_bitCount_0f7a4 cJ6_bitCount_0f7a4 1 (some .int) :: ([.constant RJ6 265 (1431655765), .constant RJ6 266 (858993459), .constant RJ6 267 (252645135)])
def wsX1_weigh : List Cond := .code yX1_weigh cX1_weigh 9 none :: ([.fieldLink RX1 9 "RentHarmony$Giving" "bestOfRest" "[I", .fieldLink RX1 15 "RentHarmony$Giving" "waysOfRest" "[I", .methodLink RX1 35 yJ6_bitCount_0f7a4, .static yJ6_bitCount_0f7a4, .initialized RJ6, .code yJ6_bitCount_0f7a4 cJ6_bitCount_0f7a4 1 (some .int), .constant RJ6 265 (1431655765), .constant RJ6 266 (858993459), .constant RJ6 267 (252645135), .methodLink RX1 21 yX0_size, .instanceMethod yX0_size, .selects RX0 yX0_size yX0_size, .initialized RX0, .code yX0_size cX0_size 1 (some .int), .fieldLink RX0 15 "RentHarmony$Bids" "size" "I", .methodLink RX1 41 yX0_of, .instanceMethod yX0_of, .selects RX0 yX0_of yX0_of, .code yX0_of cX0_of 3 (some .int), .fieldLink RX0 9 "RentHarmony$Bids" "coins" "[I", .methodLink RX0 19 yX0_has, .instanceMethod yX0_has, .selects RX0 yX0_has yX0_has, .code yX0_has cX0_has 2 (some .boolean)] ++ wsX10 ++ wsX00)
def wsX1_firstBestRoom : List Cond := .code yX1_firstBestRoom cX1_firstBestRoom 5 (some .int) :: ([.fieldLink RX1 9 "RentHarmony$Giving" "bestOfRest" "[I", .methodLink RX1 21 yX0_size, .instanceMethod yX0_size, .selects RX0 yX0_size yX0_size, .initialized RX0, .code yX0_size cX0_size 1 (some .int), .fieldLink RX0 15 "RentHarmony$Bids" "size" "I", .methodLink RX1 41 yX0_of, .instanceMethod yX0_of, .selects RX0 yX0_of yX0_of, .code yX0_of cX0_of 3 (some .int), .fieldLink RX0 9 "RentHarmony$Bids" "coins" "[I", .methodLink RX0 19 yX0_has, .instanceMethod yX0_has, .selects RX0 yX0_has yX0_has, .code yX0_has cX0_has 2 (some .boolean)] ++ wsX10 ++ wsX00)
def wsX1_choose_r1 : List Cond := [Cond.fieldLink RX1 9 "RentHarmony$Giving" "bestOfRest" "[I", Cond.fieldLink RX1 15 "RentHarmony$Giving" "waysOfRest" "[I", Cond.fieldLink RX1 18 "RentHarmony$Giving" "rooms" "[I", Cond.methodLink RX1 21 yX0_size, Cond.instanceMethod yX0_size, Cond.selects RX0 yX0_size yX0_size, Cond.initialized RX0, Cond.code yX0_size cX0_size 1 (some .int), Cond.fieldLink RX0 15 "RentHarmony$Bids" "size" "I", Cond.methodLink RX1 27 yX1_weigh, Cond.instanceMethod yX1_weigh, Cond.selects RX1 yX1_weigh yX1_weigh, Cond.initialized RX1, Cond.code yX1_weigh cX1_weigh 9 none, Cond.methodLink RX1 35 yJ6_bitCount_0f7a4, Cond.static yJ6_bitCount_0f7a4, Cond.initialized RJ6, Cond.code yJ6_bitCount_0f7a4 cJ6_bitCount_0f7a4 1 (some .int), Cond.constant RJ6 265 (1431655765), Cond.constant RJ6 266 (858993459), Cond.constant RJ6 267 (252645135), Cond.methodLink RX1 41 yX0_of, Cond.instanceMethod yX0_of, Cond.selects RX0 yX0_of yX0_of]
def wsX1_choose_r2 : List Cond := [Cond.code yX0_of cX0_of 3 (some .int), Cond.fieldLink RX0 9 "RentHarmony$Bids" "coins" "[I", Cond.methodLink RX0 19 yX0_has, Cond.instanceMethod yX0_has, Cond.selects RX0 yX0_has yX0_has, Cond.code yX0_has cX0_has 2 (some .boolean), Cond.methodLink RX1 31 yX1_firstBestRoom, Cond.instanceMethod yX1_firstBestRoom, Cond.selects RX1 yX1_firstBestRoom yX1_firstBestRoom, Cond.code yX1_firstBestRoom cX1_firstBestRoom 5 (some .int)]
def wsX1_choose : List Cond := .code yX1_choose cX1_choose 5 none :: ((wsX1_choose_r1 ++ wsX1_choose_r2) ++ wsX10 ++ wsX00)
def wsX2_init_r1 : List Cond := [Cond.methodLink RX2 1 objectInit, Cond.instanceMethod objectInit, Cond.code objectInit ⟨#[0xb1]⟩ 1 none, Cond.classLink RX2 7 RX0, Cond.instantiable RX0 2, Cond.initialized RX0, Cond.fieldLink RX2 10 "RentHarmony" "bids" "LRentHarmony$Bids;", Cond.classLink RX2 16 RX1, Cond.instantiable RX1 3, Cond.initialized RX1, Cond.fieldLink RX2 19 "RentHarmony" "giving" "LRentHarmony$Giving;", Cond.fieldLink RX2 23 "RentHarmony" "triedBids" "LRentHarmony$Bids;", Cond.fieldLink RX2 26 "RentHarmony" "triedGiving" "LRentHarmony$Giving;", Cond.arrayClass .int, Cond.fieldLink RX2 29 "RentHarmony" "firstRebates" "[I", Cond.fieldLink RX2 33 "RentHarmony" "chains" "[I", Cond.fieldLink RX2 36 "RentHarmony" "rentCoins" "I", Cond.fieldLink RX2 40 "RentHarmony" "share" "I", Cond.fieldLink RX2 43 "RentHarmony" "pot" "I", Cond.instanceMethod yX0_init, Cond.code yX0_init cX0_init 1 none, Cond.methodLink RX0 3 objectInit, Cond.fieldLink RX0 9 "RentHarmony$Bids" "coins" "[I", Cond.fieldLink RX0 15 "RentHarmony$Bids" "size" "I"]
def wsX2_init_r2 : List Cond := [Cond.methodLink RX2 18 yX1_init, Cond.instanceMethod yX1_init, Cond.code yX1_init cX1_init 1 none, Cond.methodLink RX1 3 objectInit, Cond.fieldLink RX1 9 "RentHarmony$Giving" "bestOfRest" "[I", Cond.fieldLink RX1 15 "RentHarmony$Giving" "waysOfRest" "[I", Cond.fieldLink RX1 18 "RentHarmony$Giving" "rooms" "[I"]
def wsX2_init : List Cond := .code yX2_init cX2_init 1 none :: ((wsX2_init_r1 ++ wsX2_init_r2) ++ wsX00 ++ wsX20 ++ wsX10)
def wsX2_firstRebateOf : List Cond := .code yX2_firstRebateOf cX2_firstRebateOf 2 (some .int) :: ([.fieldLink RX2 10 "RentHarmony" "bids" "LRentHarmony$Bids;", .fieldLink RX2 29 "RentHarmony" "firstRebates" "[I", .methodLink RX2 63 yX0_has, .instanceMethod yX0_has, .selects RX0 yX0_has yX0_has, .initialized RX0, .code yX0_has cX0_has 2 (some .boolean), .fieldLink RX0 15 "RentHarmony$Bids" "size" "I"] ++ wsX20 ++ wsX00)
def wsX2_ownBidOf : List Cond := .code yX2_ownBidOf cX2_ownBidOf 2 (some .int) :: ([.fieldLink RX2 10 "RentHarmony" "bids" "LRentHarmony$Bids;", .fieldLink RX2 19 "RentHarmony" "giving" "LRentHarmony$Giving;", .methodLink RX2 92 yX1_roomOf, .instanceMethod yX1_roomOf, .selects RX1 yX1_roomOf yX1_roomOf, .initialized RX1, .code yX1_roomOf cX1_roomOf 2 (some .int), .fieldLink RX1 18 "RentHarmony$Giving" "rooms" "[I", .methodLink RX2 77 yX0_of, .instanceMethod yX0_of, .selects RX0 yX0_of yX0_of, .initialized RX0, .code yX0_of cX0_of 3 (some .int), .fieldLink RX0 9 "RentHarmony$Bids" "coins" "[I", .methodLink RX0 19 yX0_has, .instanceMethod yX0_has, .selects RX0 yX0_has yX0_has, .code yX0_has cX0_has 2 (some .boolean), .fieldLink RX0 15 "RentHarmony$Bids" "size" "I"] ++ wsX20 ++ wsX10 ++ wsX00)
def wsX2_bestOfAllRooms_r1 : List Cond := [Cond.fieldLink RX2 10 "RentHarmony" "bids" "LRentHarmony$Bids;", Cond.fieldLink RX2 19 "RentHarmony" "giving" "LRentHarmony$Giving;", Cond.methodLink RX2 123 Lib.Math.max.name, Cond.static Lib.Math.max.name, Cond.initialized "java/lang/Math", Cond.code Lib.Math.max.name Lib.Math.max.code 2 (some .int), Cond.methodLink RX2 152 yX2_firstRebateOf, Cond.instanceMethod yX2_firstRebateOf, Cond.selects RX2 yX2_firstRebateOf yX2_firstRebateOf, Cond.initialized RX2, Cond.code yX2_firstRebateOf cX2_firstRebateOf 2 (some .int), Cond.fieldLink RX2 29 "RentHarmony" "firstRebates" "[I", Cond.methodLink RX2 63 yX0_has, Cond.instanceMethod yX0_has, Cond.selects RX0 yX0_has yX0_has, Cond.initialized RX0, Cond.code yX0_has cX0_has 2 (some .boolean), Cond.fieldLink RX0 15 "RentHarmony$Bids" "size" "I", Cond.methodLink RX2 46 yX0_size, Cond.instanceMethod yX0_size, Cond.selects RX0 yX0_size yX0_size, Cond.code yX0_size cX0_size 1 (some .int), Cond.methodLink RX2 149 yX2_ownBidOf, Cond.instanceMethod yX2_ownBidOf]
def wsX2_bestOfAllRooms_r2 : List Cond := [Cond.selects RX2 yX2_ownBidOf yX2_ownBidOf, Cond.code yX2_ownBidOf cX2_ownBidOf 2 (some .int), Cond.methodLink RX2 92 yX1_roomOf, Cond.instanceMethod yX1_roomOf, Cond.selects RX1 yX1_roomOf yX1_roomOf, Cond.initialized RX1, Cond.code yX1_roomOf cX1_roomOf 2 (some .int), Cond.fieldLink RX1 18 "RentHarmony$Giving" "rooms" "[I", Cond.methodLink RX2 77 yX0_of, Cond.instanceMethod yX0_of, Cond.selects RX0 yX0_of yX0_of, Cond.code yX0_of cX0_of 3 (some .int), Cond.fieldLink RX0 9 "RentHarmony$Bids" "coins" "[I", Cond.methodLink RX0 19 yX0_has]
def wsX2_bestOfAllRooms : List Cond := .code yX2_bestOfAllRooms cX2_bestOfAllRooms 5 (some .int) :: ((wsX2_bestOfAllRooms_r1 ++ wsX2_bestOfAllRooms_r2) ++ wsX20 ++ wsX00 ++ wsX10)
def wsX2_settleFirstRebates_r1 : List Cond := [Cond.fieldLink RX2 10 "RentHarmony" "bids" "LRentHarmony$Bids;", Cond.fieldLink RX2 29 "RentHarmony" "firstRebates" "[I", Cond.methodLink RX2 46 yX0_size, Cond.instanceMethod yX0_size, Cond.selects RX0 yX0_size yX0_size, Cond.initialized RX0, Cond.code yX0_size cX0_size 1 (some .int), Cond.fieldLink RX0 15 "RentHarmony$Bids" "size" "I", Cond.methodLink RX2 167 yX2_bestOfAllRooms, Cond.instanceMethod yX2_bestOfAllRooms, Cond.selects RX2 yX2_bestOfAllRooms yX2_bestOfAllRooms, Cond.initialized RX2, Cond.code yX2_bestOfAllRooms cX2_bestOfAllRooms 5 (some .int), Cond.fieldLink RX2 19 "RentHarmony" "giving" "LRentHarmony$Giving;", Cond.methodLink RX2 123 Lib.Math.max.name, Cond.static Lib.Math.max.name, Cond.initialized "java/lang/Math", Cond.code Lib.Math.max.name Lib.Math.max.code 2 (some .int), Cond.methodLink RX2 152 yX2_firstRebateOf, Cond.instanceMethod yX2_firstRebateOf, Cond.selects RX2 yX2_firstRebateOf yX2_firstRebateOf, Cond.code yX2_firstRebateOf cX2_firstRebateOf 2 (some .int), Cond.methodLink RX2 63 yX0_has, Cond.instanceMethod yX0_has]
def wsX2_settleFirstRebates_r2 : List Cond := [Cond.selects RX0 yX0_has yX0_has, Cond.code yX0_has cX0_has 2 (some .boolean), Cond.methodLink RX2 149 yX2_ownBidOf, Cond.instanceMethod yX2_ownBidOf, Cond.selects RX2 yX2_ownBidOf yX2_ownBidOf, Cond.code yX2_ownBidOf cX2_ownBidOf 2 (some .int), Cond.methodLink RX2 92 yX1_roomOf, Cond.instanceMethod yX1_roomOf, Cond.selects RX1 yX1_roomOf yX1_roomOf, Cond.initialized RX1, Cond.code yX1_roomOf cX1_roomOf 2 (some .int), Cond.fieldLink RX1 18 "RentHarmony$Giving" "rooms" "[I", Cond.methodLink RX2 77 yX0_of, Cond.instanceMethod yX0_of, Cond.selects RX0 yX0_of yX0_of, Cond.code yX0_of cX0_of 3 (some .int), Cond.fieldLink RX0 9 "RentHarmony$Bids" "coins" "[I", Cond.methodLink RX0 19 yX0_has]
def wsX2_settleFirstRebates : List Cond := .code yX2_settleFirstRebates cX2_settleFirstRebates 4 none :: ((wsX2_settleFirstRebates_r1 ++ wsX2_settleFirstRebates_r2) ++ wsX20 ++ wsX00 ++ wsX10)
def wsX2_allFirstRebates : List Cond := .code yX2_allFirstRebates cX2_allFirstRebates 3 (some .int) :: ([.fieldLink RX2 10 "RentHarmony" "bids" "LRentHarmony$Bids;", .fieldLink RX2 29 "RentHarmony" "firstRebates" "[I", .methodLink RX2 46 yX0_size, .instanceMethod yX0_size, .selects RX0 yX0_size yX0_size, .initialized RX0, .code yX0_size cX0_size 1 (some .int), .fieldLink RX0 15 "RentHarmony$Bids" "size" "I"] ++ wsX20 ++ wsX00)
def wsX2_settleLeftOver : List Cond := .code yX2_settleLeftOver cX2_settleLeftOver 3 none :: ([.fieldLink RX2 10 "RentHarmony" "bids" "LRentHarmony$Bids;", .fieldLink RX2 19 "RentHarmony" "giving" "LRentHarmony$Giving;", .fieldLink RX2 36 "RentHarmony" "rentCoins" "I", .fieldLink RX2 40 "RentHarmony" "share" "I", .fieldLink RX2 43 "RentHarmony" "pot" "I", .methodLink RX2 46 yX0_size, .instanceMethod yX0_size, .selects RX0 yX0_size yX0_size, .initialized RX0, .code yX0_size cX0_size 1 (some .int), .fieldLink RX0 15 "RentHarmony$Bids" "size" "I", .methodLink RX2 139 yX1_worth, .instanceMethod yX1_worth, .selects RX1 yX1_worth yX1_worth, .initialized RX1, .code yX1_worth cX1_worth 1 (some .int), .fieldLink RX1 9 "RentHarmony$Giving" "bestOfRest" "[I", .methodLink RX2 158 yX2_allFirstRebates, .instanceMethod yX2_allFirstRebates, .selects RX2 yX2_allFirstRebates yX2_allFirstRebates, .initialized RX2, .code yX2_allFirstRebates cX2_allFirstRebates 3 (some .int), .fieldLink RX2 29 "RentHarmony" "firstRebates" "[I"] ++ wsX20 ++ wsX00 ++ wsX10)
def wsX2_settleAll_r1 : List Cond := [Cond.fieldLink RX2 19 "RentHarmony" "giving" "LRentHarmony$Giving;", Cond.fieldLink RX2 10 "RentHarmony" "bids" "LRentHarmony$Bids;", Cond.methodLink RX2 136 yX1_choose, Cond.instanceMethod yX1_choose, Cond.selects RX1 yX1_choose yX1_choose, Cond.initialized RX1, Cond.code yX1_choose cX1_choose 5 none, Cond.fieldLink RX1 9 "RentHarmony$Giving" "bestOfRest" "[I", Cond.fieldLink RX1 15 "RentHarmony$Giving" "waysOfRest" "[I", Cond.fieldLink RX1 18 "RentHarmony$Giving" "rooms" "[I", Cond.methodLink RX1 21 yX0_size, Cond.instanceMethod yX0_size, Cond.selects RX0 yX0_size yX0_size, Cond.initialized RX0, Cond.code yX0_size cX0_size 1 (some .int), Cond.fieldLink RX0 15 "RentHarmony$Bids" "size" "I", Cond.methodLink RX1 27 yX1_weigh, Cond.instanceMethod yX1_weigh, Cond.selects RX1 yX1_weigh yX1_weigh, Cond.code yX1_weigh cX1_weigh 9 none, Cond.methodLink RX1 35 yJ6_bitCount_0f7a4, Cond.static yJ6_bitCount_0f7a4, Cond.initialized RJ6, Cond.code yJ6_bitCount_0f7a4 cJ6_bitCount_0f7a4 1 (some .int)]
def wsX2_settleAll_r2 : List Cond := [Cond.constant RJ6 265 (1431655765), Cond.constant RJ6 266 (858993459), Cond.constant RJ6 267 (252645135), Cond.methodLink RX1 41 yX0_of, Cond.instanceMethod yX0_of, Cond.selects RX0 yX0_of yX0_of, Cond.code yX0_of cX0_of 3 (some .int), Cond.fieldLink RX0 9 "RentHarmony$Bids" "coins" "[I", Cond.methodLink RX0 19 yX0_has, Cond.instanceMethod yX0_has, Cond.selects RX0 yX0_has yX0_has, Cond.code yX0_has cX0_has 2 (some .boolean), Cond.methodLink RX1 31 yX1_firstBestRoom, Cond.instanceMethod yX1_firstBestRoom, Cond.selects RX1 yX1_firstBestRoom yX1_firstBestRoom, Cond.code yX1_firstBestRoom cX1_firstBestRoom 5 (some .int), Cond.methodLink RX2 164 yX2_settleFirstRebates, Cond.instanceMethod yX2_settleFirstRebates, Cond.selects RX2 yX2_settleFirstRebates yX2_settleFirstRebates, Cond.initialized RX2, Cond.code yX2_settleFirstRebates cX2_settleFirstRebates 4 none, Cond.fieldLink RX2 29 "RentHarmony" "firstRebates" "[I", Cond.methodLink RX2 46 yX0_size, Cond.methodLink RX2 167 yX2_bestOfAllRooms]
def wsX2_settleAll_r3 : List Cond := [Cond.instanceMethod yX2_bestOfAllRooms, Cond.selects RX2 yX2_bestOfAllRooms yX2_bestOfAllRooms, Cond.code yX2_bestOfAllRooms cX2_bestOfAllRooms 5 (some .int), Cond.methodLink RX2 123 Lib.Math.max.name, Cond.static Lib.Math.max.name, Cond.initialized "java/lang/Math", Cond.code Lib.Math.max.name Lib.Math.max.code 2 (some .int), Cond.methodLink RX2 152 yX2_firstRebateOf, Cond.instanceMethod yX2_firstRebateOf, Cond.selects RX2 yX2_firstRebateOf yX2_firstRebateOf, Cond.code yX2_firstRebateOf cX2_firstRebateOf 2 (some .int), Cond.methodLink RX2 63 yX0_has, Cond.methodLink RX2 149 yX2_ownBidOf, Cond.instanceMethod yX2_ownBidOf, Cond.selects RX2 yX2_ownBidOf yX2_ownBidOf, Cond.code yX2_ownBidOf cX2_ownBidOf 2 (some .int), Cond.methodLink RX2 92 yX1_roomOf, Cond.instanceMethod yX1_roomOf, Cond.selects RX1 yX1_roomOf yX1_roomOf, Cond.code yX1_roomOf cX1_roomOf 2 (some .int), Cond.methodLink RX2 77 yX0_of, Cond.methodLink RX2 87 yX2_settleLeftOver, Cond.instanceMethod yX2_settleLeftOver, Cond.selects RX2 yX2_settleLeftOver yX2_settleLeftOver]
def wsX2_settleAll_r4 : List Cond := [Cond.code yX2_settleLeftOver cX2_settleLeftOver 3 none, Cond.fieldLink RX2 36 "RentHarmony" "rentCoins" "I", Cond.fieldLink RX2 40 "RentHarmony" "share" "I", Cond.fieldLink RX2 43 "RentHarmony" "pot" "I", Cond.methodLink RX2 139 yX1_worth, Cond.instanceMethod yX1_worth, Cond.selects RX1 yX1_worth yX1_worth, Cond.code yX1_worth cX1_worth 1 (some .int), Cond.methodLink RX2 158 yX2_allFirstRebates, Cond.instanceMethod yX2_allFirstRebates, Cond.selects RX2 yX2_allFirstRebates yX2_allFirstRebates, Cond.code yX2_allFirstRebates cX2_allFirstRebates 3 (some .int)]
def wsX2_settleAll : List Cond := .code yX2_settleAll cX2_settleAll 1 none :: ((wsX2_settleAll_r1 ++ (wsX2_settleAll_r2 ++ (wsX2_settleAll_r3 ++ wsX2_settleAll_r4))) ++ wsX20 ++ wsX10 ++ wsX00)
def wsX2_come_r1 : List Cond := [Cond.classLink RX2 50 "java/lang/IllegalStateException", Cond.initialized "java/lang/IllegalStateException", Cond.fieldLink RX2 10 "RentHarmony" "bids" "LRentHarmony$Bids;", Cond.methodLink RX2 46 yX0_size, Cond.instanceMethod yX0_size, Cond.selects RX0 yX0_size yX0_size, Cond.initialized RX0, Cond.code yX0_size cX0_size 1 (some .int), Cond.fieldLink RX0 15 "RentHarmony$Bids" "size" "I", Cond.methodLink RX2 57 yX0_grow, Cond.instanceMethod yX0_grow, Cond.selects RX0 yX0_grow yX0_grow, Cond.code yX0_grow cX0_grow 2 none, Cond.methodLink RX0 29 yX0_set, Cond.instanceMethod yX0_set, Cond.selects RX0 yX0_set yX0_set, Cond.code yX0_set cX0_set 4 none, Cond.fieldLink RX0 9 "RentHarmony$Bids" "coins" "[I", Cond.methodLink RX0 19 yX0_has, Cond.instanceMethod yX0_has, Cond.selects RX0 yX0_has yX0_has, Cond.code yX0_has cX0_has 2 (some .boolean), Cond.methodLink RX2 60 yX2_settleAll, Cond.instanceMethod yX2_settleAll]
def wsX2_come_r2 : List Cond := [Cond.selects RX2 yX2_settleAll yX2_settleAll, Cond.initialized RX2, Cond.code yX2_settleAll cX2_settleAll 1 none, Cond.fieldLink RX2 19 "RentHarmony" "giving" "LRentHarmony$Giving;", Cond.methodLink RX2 136 yX1_choose, Cond.instanceMethod yX1_choose, Cond.selects RX1 yX1_choose yX1_choose, Cond.initialized RX1, Cond.code yX1_choose cX1_choose 5 none, Cond.fieldLink RX1 9 "RentHarmony$Giving" "bestOfRest" "[I", Cond.fieldLink RX1 15 "RentHarmony$Giving" "waysOfRest" "[I", Cond.fieldLink RX1 18 "RentHarmony$Giving" "rooms" "[I", Cond.methodLink RX1 21 yX0_size, Cond.methodLink RX1 27 yX1_weigh, Cond.instanceMethod yX1_weigh, Cond.selects RX1 yX1_weigh yX1_weigh, Cond.code yX1_weigh cX1_weigh 9 none, Cond.methodLink RX1 35 yJ6_bitCount_0f7a4, Cond.static yJ6_bitCount_0f7a4, Cond.initialized RJ6, Cond.code yJ6_bitCount_0f7a4 cJ6_bitCount_0f7a4 1 (some .int), Cond.constant RJ6 265 (1431655765), Cond.constant RJ6 266 (858993459), Cond.constant RJ6 267 (252645135)]
def wsX2_come_r3 : List Cond := [Cond.methodLink RX1 41 yX0_of, Cond.instanceMethod yX0_of, Cond.selects RX0 yX0_of yX0_of, Cond.code yX0_of cX0_of 3 (some .int), Cond.methodLink RX1 31 yX1_firstBestRoom, Cond.instanceMethod yX1_firstBestRoom, Cond.selects RX1 yX1_firstBestRoom yX1_firstBestRoom, Cond.code yX1_firstBestRoom cX1_firstBestRoom 5 (some .int), Cond.methodLink RX2 164 yX2_settleFirstRebates, Cond.instanceMethod yX2_settleFirstRebates, Cond.selects RX2 yX2_settleFirstRebates yX2_settleFirstRebates, Cond.code yX2_settleFirstRebates cX2_settleFirstRebates 4 none, Cond.fieldLink RX2 29 "RentHarmony" "firstRebates" "[I", Cond.methodLink RX2 167 yX2_bestOfAllRooms, Cond.instanceMethod yX2_bestOfAllRooms, Cond.selects RX2 yX2_bestOfAllRooms yX2_bestOfAllRooms, Cond.code yX2_bestOfAllRooms cX2_bestOfAllRooms 5 (some .int), Cond.methodLink RX2 123 Lib.Math.max.name, Cond.static Lib.Math.max.name, Cond.initialized "java/lang/Math", Cond.code Lib.Math.max.name Lib.Math.max.code 2 (some .int), Cond.methodLink RX2 152 yX2_firstRebateOf, Cond.instanceMethod yX2_firstRebateOf, Cond.selects RX2 yX2_firstRebateOf yX2_firstRebateOf]
def wsX2_come_r4 : List Cond := [Cond.code yX2_firstRebateOf cX2_firstRebateOf 2 (some .int), Cond.methodLink RX2 63 yX0_has, Cond.methodLink RX2 149 yX2_ownBidOf, Cond.instanceMethod yX2_ownBidOf, Cond.selects RX2 yX2_ownBidOf yX2_ownBidOf, Cond.code yX2_ownBidOf cX2_ownBidOf 2 (some .int), Cond.methodLink RX2 92 yX1_roomOf, Cond.instanceMethod yX1_roomOf, Cond.selects RX1 yX1_roomOf yX1_roomOf, Cond.code yX1_roomOf cX1_roomOf 2 (some .int), Cond.methodLink RX2 77 yX0_of, Cond.methodLink RX2 87 yX2_settleLeftOver, Cond.instanceMethod yX2_settleLeftOver, Cond.selects RX2 yX2_settleLeftOver yX2_settleLeftOver, Cond.code yX2_settleLeftOver cX2_settleLeftOver 3 none, Cond.fieldLink RX2 36 "RentHarmony" "rentCoins" "I", Cond.fieldLink RX2 40 "RentHarmony" "share" "I", Cond.fieldLink RX2 43 "RentHarmony" "pot" "I", Cond.methodLink RX2 139 yX1_worth, Cond.instanceMethod yX1_worth, Cond.selects RX1 yX1_worth yX1_worth, Cond.code yX1_worth cX1_worth 1 (some .int), Cond.methodLink RX2 158 yX2_allFirstRebates, Cond.instanceMethod yX2_allFirstRebates]
def wsX2_come_r5 : List Cond := [Cond.selects RX2 yX2_allFirstRebates yX2_allFirstRebates, Cond.code yX2_allFirstRebates cX2_allFirstRebates 3 (some .int)]
def wsX2_come : List Cond := .code yX2_come cX2_come 1 (some .int) :: ((wsX2_come_r1 ++ (wsX2_come_r2 ++ (wsX2_come_r3 ++ (wsX2_come_r4 ++ wsX2_come_r5)))) ++ wsX20 ++ wsX00 ++ wsX10 ++ (vx_atS RX2 54 "java/lang/IllegalStateException" ["java/lang/RuntimeException", "java/lang/Exception"]).filter goodWord)
def wsX2_bid_r1 : List Cond := [Cond.classLink RX2 67 "java/lang/IndexOutOfBoundsException", Cond.initialized "java/lang/IndexOutOfBoundsException", Cond.classLink RX2 72 "java/lang/IllegalArgumentException", Cond.initialized "java/lang/IllegalArgumentException", Cond.fieldLink RX2 10 "RentHarmony" "bids" "LRentHarmony$Bids;", Cond.methodLink RX2 63 yX0_has, Cond.instanceMethod yX0_has, Cond.selects RX0 yX0_has yX0_has, Cond.initialized RX0, Cond.code yX0_has cX0_has 2 (some .boolean), Cond.fieldLink RX0 15 "RentHarmony$Bids" "size" "I", Cond.methodLink RX2 77 yX0_of, Cond.instanceMethod yX0_of, Cond.selects RX0 yX0_of yX0_of, Cond.code yX0_of cX0_of 3 (some .int), Cond.fieldLink RX0 9 "RentHarmony$Bids" "coins" "[I", Cond.methodLink RX0 19 yX0_has, Cond.methodLink RX2 81 yX0_set, Cond.instanceMethod yX0_set, Cond.selects RX0 yX0_set yX0_set, Cond.code yX0_set cX0_set 4 none, Cond.methodLink RX2 60 yX2_settleAll, Cond.instanceMethod yX2_settleAll, Cond.selects RX2 yX2_settleAll yX2_settleAll]
def wsX2_bid_r2 : List Cond := [Cond.initialized RX2, Cond.code yX2_settleAll cX2_settleAll 1 none, Cond.fieldLink RX2 19 "RentHarmony" "giving" "LRentHarmony$Giving;", Cond.methodLink RX2 136 yX1_choose, Cond.instanceMethod yX1_choose, Cond.selects RX1 yX1_choose yX1_choose, Cond.initialized RX1, Cond.code yX1_choose cX1_choose 5 none, Cond.fieldLink RX1 9 "RentHarmony$Giving" "bestOfRest" "[I", Cond.fieldLink RX1 15 "RentHarmony$Giving" "waysOfRest" "[I", Cond.fieldLink RX1 18 "RentHarmony$Giving" "rooms" "[I", Cond.methodLink RX1 21 yX0_size, Cond.instanceMethod yX0_size, Cond.selects RX0 yX0_size yX0_size, Cond.code yX0_size cX0_size 1 (some .int), Cond.methodLink RX1 27 yX1_weigh, Cond.instanceMethod yX1_weigh, Cond.selects RX1 yX1_weigh yX1_weigh, Cond.code yX1_weigh cX1_weigh 9 none, Cond.methodLink RX1 35 yJ6_bitCount_0f7a4, Cond.static yJ6_bitCount_0f7a4, Cond.initialized RJ6, Cond.code yJ6_bitCount_0f7a4 cJ6_bitCount_0f7a4 1 (some .int), Cond.constant RJ6 265 (1431655765)]
def wsX2_bid_r3 : List Cond := [Cond.constant RJ6 266 (858993459), Cond.constant RJ6 267 (252645135), Cond.methodLink RX1 41 yX0_of, Cond.methodLink RX1 31 yX1_firstBestRoom, Cond.instanceMethod yX1_firstBestRoom, Cond.selects RX1 yX1_firstBestRoom yX1_firstBestRoom, Cond.code yX1_firstBestRoom cX1_firstBestRoom 5 (some .int), Cond.methodLink RX2 164 yX2_settleFirstRebates, Cond.instanceMethod yX2_settleFirstRebates, Cond.selects RX2 yX2_settleFirstRebates yX2_settleFirstRebates, Cond.code yX2_settleFirstRebates cX2_settleFirstRebates 4 none, Cond.fieldLink RX2 29 "RentHarmony" "firstRebates" "[I", Cond.methodLink RX2 46 yX0_size, Cond.methodLink RX2 167 yX2_bestOfAllRooms, Cond.instanceMethod yX2_bestOfAllRooms, Cond.selects RX2 yX2_bestOfAllRooms yX2_bestOfAllRooms, Cond.code yX2_bestOfAllRooms cX2_bestOfAllRooms 5 (some .int), Cond.methodLink RX2 123 Lib.Math.max.name, Cond.static Lib.Math.max.name, Cond.initialized "java/lang/Math", Cond.code Lib.Math.max.name Lib.Math.max.code 2 (some .int), Cond.methodLink RX2 152 yX2_firstRebateOf, Cond.instanceMethod yX2_firstRebateOf, Cond.selects RX2 yX2_firstRebateOf yX2_firstRebateOf]
def wsX2_bid_r4 : List Cond := [Cond.code yX2_firstRebateOf cX2_firstRebateOf 2 (some .int), Cond.methodLink RX2 149 yX2_ownBidOf, Cond.instanceMethod yX2_ownBidOf, Cond.selects RX2 yX2_ownBidOf yX2_ownBidOf, Cond.code yX2_ownBidOf cX2_ownBidOf 2 (some .int), Cond.methodLink RX2 92 yX1_roomOf, Cond.instanceMethod yX1_roomOf, Cond.selects RX1 yX1_roomOf yX1_roomOf, Cond.code yX1_roomOf cX1_roomOf 2 (some .int), Cond.methodLink RX2 87 yX2_settleLeftOver, Cond.instanceMethod yX2_settleLeftOver, Cond.selects RX2 yX2_settleLeftOver yX2_settleLeftOver, Cond.code yX2_settleLeftOver cX2_settleLeftOver 3 none, Cond.fieldLink RX2 36 "RentHarmony" "rentCoins" "I", Cond.fieldLink RX2 40 "RentHarmony" "share" "I", Cond.fieldLink RX2 43 "RentHarmony" "pot" "I", Cond.methodLink RX2 139 yX1_worth, Cond.instanceMethod yX1_worth, Cond.selects RX1 yX1_worth yX1_worth, Cond.code yX1_worth cX1_worth 1 (some .int), Cond.methodLink RX2 158 yX2_allFirstRebates, Cond.instanceMethod yX2_allFirstRebates, Cond.selects RX2 yX2_allFirstRebates yX2_allFirstRebates, Cond.code yX2_allFirstRebates cX2_allFirstRebates 3 (some .int)]
def wsX2_bid : List Cond := .code yX2_bid cX2_bid 5 (some .int) :: ((wsX2_bid_r1 ++ (wsX2_bid_r2 ++ (wsX2_bid_r3 ++ wsX2_bid_r4))) ++ wsX20 ++ wsX00 ++ wsX10 ++ (vx_atS RX2 71 "java/lang/IndexOutOfBoundsException" ["java/lang/RuntimeException", "java/lang/Exception"]).filter goodWord ++ (vx_atS RX2 76 "java/lang/IllegalArgumentException" ["java/lang/RuntimeException", "java/lang/Exception"]).filter goodWord)
def wsX2_rent_r1 : List Cond := [Cond.classLink RX2 72 "java/lang/IllegalArgumentException", Cond.initialized "java/lang/IllegalArgumentException", Cond.fieldLink RX2 36 "RentHarmony" "rentCoins" "I", Cond.methodLink RX2 87 yX2_settleLeftOver, Cond.instanceMethod yX2_settleLeftOver, Cond.selects RX2 yX2_settleLeftOver yX2_settleLeftOver, Cond.initialized RX2, Cond.code yX2_settleLeftOver cX2_settleLeftOver 3 none, Cond.fieldLink RX2 10 "RentHarmony" "bids" "LRentHarmony$Bids;", Cond.fieldLink RX2 19 "RentHarmony" "giving" "LRentHarmony$Giving;", Cond.fieldLink RX2 40 "RentHarmony" "share" "I", Cond.fieldLink RX2 43 "RentHarmony" "pot" "I", Cond.methodLink RX2 46 yX0_size, Cond.instanceMethod yX0_size, Cond.selects RX0 yX0_size yX0_size, Cond.initialized RX0, Cond.code yX0_size cX0_size 1 (some .int), Cond.fieldLink RX0 15 "RentHarmony$Bids" "size" "I", Cond.methodLink RX2 139 yX1_worth, Cond.instanceMethod yX1_worth, Cond.selects RX1 yX1_worth yX1_worth, Cond.initialized RX1, Cond.code yX1_worth cX1_worth 1 (some .int), Cond.fieldLink RX1 9 "RentHarmony$Giving" "bestOfRest" "[I"]
def wsX2_rent_r2 : List Cond := [Cond.methodLink RX2 158 yX2_allFirstRebates, Cond.instanceMethod yX2_allFirstRebates, Cond.selects RX2 yX2_allFirstRebates yX2_allFirstRebates, Cond.code yX2_allFirstRebates cX2_allFirstRebates 3 (some .int), Cond.fieldLink RX2 29 "RentHarmony" "firstRebates" "[I"]
def wsX2_rent : List Cond := .code yX2_rent cX2_rent 3 (some .int) :: ((wsX2_rent_r1 ++ wsX2_rent_r2) ++ wsX20 ++ wsX00 ++ wsX10 ++ (vx_atS RX2 76 "java/lang/IllegalArgumentException" ["java/lang/RuntimeException", "java/lang/Exception"]).filter goodWord)
def wsX2_leave_r1 : List Cond := [Cond.classLink RX2 67 "java/lang/IndexOutOfBoundsException", Cond.initialized "java/lang/IndexOutOfBoundsException", Cond.fieldLink RX2 10 "RentHarmony" "bids" "LRentHarmony$Bids;", Cond.fieldLink RX2 19 "RentHarmony" "giving" "LRentHarmony$Giving;", Cond.methodLink RX2 63 yX0_has, Cond.instanceMethod yX0_has, Cond.selects RX0 yX0_has yX0_has, Cond.initialized RX0, Cond.code yX0_has cX0_has 2 (some .boolean), Cond.fieldLink RX0 15 "RentHarmony$Bids" "size" "I", Cond.methodLink RX2 92 yX1_roomOf, Cond.instanceMethod yX1_roomOf, Cond.selects RX1 yX1_roomOf yX1_roomOf, Cond.initialized RX1, Cond.code yX1_roomOf cX1_roomOf 2 (some .int), Cond.fieldLink RX1 18 "RentHarmony$Giving" "rooms" "[I", Cond.methodLink RX2 96 yX0_shrink, Cond.instanceMethod yX0_shrink, Cond.selects RX0 yX0_shrink yX0_shrink, Cond.code yX0_shrink cX0_shrink 5 none, Cond.methodLink RX0 19 yX0_has, Cond.methodLink RX0 33 yX0_of, Cond.instanceMethod yX0_of, Cond.selects RX0 yX0_of yX0_of]
def wsX2_leave_r2 : List Cond := [Cond.code yX0_of cX0_of 3 (some .int), Cond.fieldLink RX0 9 "RentHarmony$Bids" "coins" "[I", Cond.methodLink RX0 29 yX0_set, Cond.instanceMethod yX0_set, Cond.selects RX0 yX0_set yX0_set, Cond.code yX0_set cX0_set 4 none, Cond.methodLink RX2 60 yX2_settleAll, Cond.instanceMethod yX2_settleAll, Cond.selects RX2 yX2_settleAll yX2_settleAll, Cond.initialized RX2, Cond.code yX2_settleAll cX2_settleAll 1 none, Cond.methodLink RX2 136 yX1_choose, Cond.instanceMethod yX1_choose, Cond.selects RX1 yX1_choose yX1_choose, Cond.code yX1_choose cX1_choose 5 none, Cond.fieldLink RX1 9 "RentHarmony$Giving" "bestOfRest" "[I", Cond.fieldLink RX1 15 "RentHarmony$Giving" "waysOfRest" "[I", Cond.methodLink RX1 21 yX0_size, Cond.instanceMethod yX0_size, Cond.selects RX0 yX0_size yX0_size, Cond.code yX0_size cX0_size 1 (some .int), Cond.methodLink RX1 27 yX1_weigh, Cond.instanceMethod yX1_weigh, Cond.selects RX1 yX1_weigh yX1_weigh]
def wsX2_leave_r3 : List Cond := [Cond.code yX1_weigh cX1_weigh 9 none, Cond.methodLink RX1 35 yJ6_bitCount_0f7a4, Cond.static yJ6_bitCount_0f7a4, Cond.initialized RJ6, Cond.code yJ6_bitCount_0f7a4 cJ6_bitCount_0f7a4 1 (some .int), Cond.constant RJ6 265 (1431655765), Cond.constant RJ6 266 (858993459), Cond.constant RJ6 267 (252645135), Cond.methodLink RX1 41 yX0_of, Cond.methodLink RX1 31 yX1_firstBestRoom, Cond.instanceMethod yX1_firstBestRoom, Cond.selects RX1 yX1_firstBestRoom yX1_firstBestRoom, Cond.code yX1_firstBestRoom cX1_firstBestRoom 5 (some .int), Cond.methodLink RX2 164 yX2_settleFirstRebates, Cond.instanceMethod yX2_settleFirstRebates, Cond.selects RX2 yX2_settleFirstRebates yX2_settleFirstRebates, Cond.code yX2_settleFirstRebates cX2_settleFirstRebates 4 none, Cond.fieldLink RX2 29 "RentHarmony" "firstRebates" "[I", Cond.methodLink RX2 46 yX0_size, Cond.methodLink RX2 167 yX2_bestOfAllRooms, Cond.instanceMethod yX2_bestOfAllRooms, Cond.selects RX2 yX2_bestOfAllRooms yX2_bestOfAllRooms, Cond.code yX2_bestOfAllRooms cX2_bestOfAllRooms 5 (some .int), Cond.methodLink RX2 123 Lib.Math.max.name]
def wsX2_leave_r4 : List Cond := [Cond.static Lib.Math.max.name, Cond.initialized "java/lang/Math", Cond.code Lib.Math.max.name Lib.Math.max.code 2 (some .int), Cond.methodLink RX2 152 yX2_firstRebateOf, Cond.instanceMethod yX2_firstRebateOf, Cond.selects RX2 yX2_firstRebateOf yX2_firstRebateOf, Cond.code yX2_firstRebateOf cX2_firstRebateOf 2 (some .int), Cond.methodLink RX2 149 yX2_ownBidOf, Cond.instanceMethod yX2_ownBidOf, Cond.selects RX2 yX2_ownBidOf yX2_ownBidOf, Cond.code yX2_ownBidOf cX2_ownBidOf 2 (some .int), Cond.methodLink RX2 77 yX0_of, Cond.methodLink RX2 87 yX2_settleLeftOver, Cond.instanceMethod yX2_settleLeftOver, Cond.selects RX2 yX2_settleLeftOver yX2_settleLeftOver, Cond.code yX2_settleLeftOver cX2_settleLeftOver 3 none, Cond.fieldLink RX2 36 "RentHarmony" "rentCoins" "I", Cond.fieldLink RX2 40 "RentHarmony" "share" "I", Cond.fieldLink RX2 43 "RentHarmony" "pot" "I", Cond.methodLink RX2 139 yX1_worth, Cond.instanceMethod yX1_worth, Cond.selects RX1 yX1_worth yX1_worth, Cond.code yX1_worth cX1_worth 1 (some .int), Cond.methodLink RX2 158 yX2_allFirstRebates]
def wsX2_leave_r5 : List Cond := [Cond.instanceMethod yX2_allFirstRebates, Cond.selects RX2 yX2_allFirstRebates yX2_allFirstRebates, Cond.code yX2_allFirstRebates cX2_allFirstRebates 3 (some .int)]
def wsX2_leave : List Cond := .code yX2_leave cX2_leave 3 (some .int) :: ((wsX2_leave_r1 ++ (wsX2_leave_r2 ++ (wsX2_leave_r3 ++ (wsX2_leave_r4 ++ wsX2_leave_r5)))) ++ wsX20 ++ wsX00 ++ wsX10 ++ (vx_atS RX2 71 "java/lang/IndexOutOfBoundsException" ["java/lang/RuntimeException", "java/lang/Exception"]).filter goodWord)
def wsX2_rebateOf : List Cond := .code yX2_rebateOf cX2_rebateOf 2 (some .int) :: ([.fieldLink RX2 40 "RentHarmony" "share" "I", .methodLink RX2 152 yX2_firstRebateOf, .instanceMethod yX2_firstRebateOf, .selects RX2 yX2_firstRebateOf yX2_firstRebateOf, .initialized RX2, .code yX2_firstRebateOf cX2_firstRebateOf 2 (some .int), .fieldLink RX2 10 "RentHarmony" "bids" "LRentHarmony$Bids;", .fieldLink RX2 29 "RentHarmony" "firstRebates" "[I", .methodLink RX2 63 yX0_has, .instanceMethod yX0_has, .selects RX0 yX0_has yX0_has, .initialized RX0, .code yX0_has cX0_has 2 (some .boolean), .fieldLink RX0 15 "RentHarmony$Bids" "size" "I"] ++ wsX20 ++ wsX00)
def wsX2_payOf_r1 : List Cond := [Cond.methodLink RX2 149 yX2_ownBidOf, Cond.instanceMethod yX2_ownBidOf, Cond.selects RX2 yX2_ownBidOf yX2_ownBidOf, Cond.initialized RX2, Cond.code yX2_ownBidOf cX2_ownBidOf 2 (some .int), Cond.fieldLink RX2 10 "RentHarmony" "bids" "LRentHarmony$Bids;", Cond.fieldLink RX2 19 "RentHarmony" "giving" "LRentHarmony$Giving;", Cond.methodLink RX2 92 yX1_roomOf, Cond.instanceMethod yX1_roomOf, Cond.selects RX1 yX1_roomOf yX1_roomOf, Cond.initialized RX1, Cond.code yX1_roomOf cX1_roomOf 2 (some .int), Cond.fieldLink RX1 18 "RentHarmony$Giving" "rooms" "[I", Cond.methodLink RX2 77 yX0_of, Cond.instanceMethod yX0_of, Cond.selects RX0 yX0_of yX0_of, Cond.initialized RX0, Cond.code yX0_of cX0_of 3 (some .int), Cond.fieldLink RX0 9 "RentHarmony$Bids" "coins" "[I", Cond.methodLink RX0 19 yX0_has, Cond.instanceMethod yX0_has, Cond.selects RX0 yX0_has yX0_has, Cond.code yX0_has cX0_has 2 (some .boolean), Cond.fieldLink RX0 15 "RentHarmony$Bids" "size" "I"]
def wsX2_payOf_r2 : List Cond := [Cond.methodLink RX2 114 yX2_rebateOf, Cond.instanceMethod yX2_rebateOf, Cond.selects RX2 yX2_rebateOf yX2_rebateOf, Cond.code yX2_rebateOf cX2_rebateOf 2 (some .int), Cond.fieldLink RX2 40 "RentHarmony" "share" "I", Cond.methodLink RX2 152 yX2_firstRebateOf, Cond.instanceMethod yX2_firstRebateOf, Cond.selects RX2 yX2_firstRebateOf yX2_firstRebateOf, Cond.code yX2_firstRebateOf cX2_firstRebateOf 2 (some .int), Cond.fieldLink RX2 29 "RentHarmony" "firstRebates" "[I", Cond.methodLink RX2 63 yX0_has]
def wsX2_payOf : List Cond := .code yX2_payOf cX2_payOf 2 (some .int) :: ((wsX2_payOf_r1 ++ wsX2_payOf_r2) ++ wsX20 ++ wsX10 ++ wsX00)
def wsX2_wouldEnvy : List Cond := .code yX2_wouldEnvy cX2_wouldEnvy 3 (some .boolean) :: ([.fieldLink RX2 10 "RentHarmony" "bids" "LRentHarmony$Bids;", .fieldLink RX2 19 "RentHarmony" "giving" "LRentHarmony$Giving;", .methodLink RX2 92 yX1_roomOf, .instanceMethod yX1_roomOf, .selects RX1 yX1_roomOf yX1_roomOf, .initialized RX1, .code yX1_roomOf cX1_roomOf 2 (some .int), .fieldLink RX1 18 "RentHarmony$Giving" "rooms" "[I", .methodLink RX2 77 yX0_of, .instanceMethod yX0_of, .selects RX0 yX0_of yX0_of, .initialized RX0, .code yX0_of cX0_of 3 (some .int), .fieldLink RX0 9 "RentHarmony$Bids" "coins" "[I", .methodLink RX0 19 yX0_has, .instanceMethod yX0_has, .selects RX0 yX0_has yX0_has, .code yX0_has cX0_has 2 (some .boolean), .fieldLink RX0 15 "RentHarmony$Bids" "size" "I", .methodLink RX2 149 yX2_ownBidOf, .instanceMethod yX2_ownBidOf, .selects RX2 yX2_ownBidOf yX2_ownBidOf, .initialized RX2, .code yX2_ownBidOf cX2_ownBidOf 2 (some .int)] ++ wsX20 ++ wsX10 ++ wsX00)
def wsX2_enviedBy_r1 : List Cond := [Cond.fieldLink RX2 10 "RentHarmony" "bids" "LRentHarmony$Bids;", Cond.methodLink RX2 46 yX0_size, Cond.instanceMethod yX0_size, Cond.selects RX0 yX0_size yX0_size, Cond.initialized RX0, Cond.code yX0_size cX0_size 1 (some .int), Cond.fieldLink RX0 15 "RentHarmony$Bids" "size" "I", Cond.methodLink RX2 110 yX2_wouldEnvy, Cond.instanceMethod yX2_wouldEnvy, Cond.selects RX2 yX2_wouldEnvy yX2_wouldEnvy, Cond.initialized RX2, Cond.code yX2_wouldEnvy cX2_wouldEnvy 3 (some .boolean), Cond.fieldLink RX2 19 "RentHarmony" "giving" "LRentHarmony$Giving;", Cond.methodLink RX2 92 yX1_roomOf, Cond.instanceMethod yX1_roomOf, Cond.selects RX1 yX1_roomOf yX1_roomOf, Cond.initialized RX1, Cond.code yX1_roomOf cX1_roomOf 2 (some .int), Cond.fieldLink RX1 18 "RentHarmony$Giving" "rooms" "[I", Cond.methodLink RX2 77 yX0_of, Cond.instanceMethod yX0_of, Cond.selects RX0 yX0_of yX0_of, Cond.code yX0_of cX0_of 3 (some .int), Cond.fieldLink RX0 9 "RentHarmony$Bids" "coins" "[I"]
def wsX2_enviedBy_r2 : List Cond := [Cond.methodLink RX0 19 yX0_has, Cond.instanceMethod yX0_has, Cond.selects RX0 yX0_has yX0_has, Cond.code yX0_has cX0_has 2 (some .boolean), Cond.methodLink RX2 149 yX2_ownBidOf, Cond.instanceMethod yX2_ownBidOf, Cond.selects RX2 yX2_ownBidOf yX2_ownBidOf, Cond.code yX2_ownBidOf cX2_ownBidOf 2 (some .int)]
def wsX2_enviedBy : List Cond := .code yX2_enviedBy cX2_enviedBy 4 (some .int) :: ((wsX2_enviedBy_r1 ++ wsX2_enviedBy_r2) ++ wsX20 ++ wsX00 ++ wsX10)
def wsX2_fact_r1 : List Cond := [Cond.fieldLink RX2 19 "RentHarmony" "giving" "LRentHarmony$Giving;", Cond.methodLink RX2 92 yX1_roomOf, Cond.instanceMethod yX1_roomOf, Cond.selects RX1 yX1_roomOf yX1_roomOf, Cond.initialized RX1, Cond.code yX1_roomOf cX1_roomOf 2 (some .int), Cond.fieldLink RX1 18 "RentHarmony$Giving" "rooms" "[I", Cond.methodLink RX2 149 yX2_ownBidOf, Cond.instanceMethod yX2_ownBidOf, Cond.selects RX2 yX2_ownBidOf yX2_ownBidOf, Cond.initialized RX2, Cond.code yX2_ownBidOf cX2_ownBidOf 2 (some .int), Cond.fieldLink RX2 10 "RentHarmony" "bids" "LRentHarmony$Bids;", Cond.methodLink RX2 77 yX0_of, Cond.instanceMethod yX0_of, Cond.selects RX0 yX0_of yX0_of, Cond.initialized RX0, Cond.code yX0_of cX0_of 3 (some .int), Cond.fieldLink RX0 9 "RentHarmony$Bids" "coins" "[I", Cond.methodLink RX0 19 yX0_has, Cond.instanceMethod yX0_has, Cond.selects RX0 yX0_has yX0_has, Cond.code yX0_has cX0_has 2 (some .boolean), Cond.fieldLink RX0 15 "RentHarmony$Bids" "size" "I"]
def wsX2_fact_r2 : List Cond := [Cond.methodLink RX2 114 yX2_rebateOf, Cond.instanceMethod yX2_rebateOf, Cond.selects RX2 yX2_rebateOf yX2_rebateOf, Cond.code yX2_rebateOf cX2_rebateOf 2 (some .int), Cond.fieldLink RX2 40 "RentHarmony" "share" "I", Cond.methodLink RX2 152 yX2_firstRebateOf, Cond.instanceMethod yX2_firstRebateOf, Cond.selects RX2 yX2_firstRebateOf yX2_firstRebateOf, Cond.code yX2_firstRebateOf cX2_firstRebateOf 2 (some .int), Cond.fieldLink RX2 29 "RentHarmony" "firstRebates" "[I", Cond.methodLink RX2 63 yX0_has, Cond.methodLink RX2 117 yX2_payOf, Cond.instanceMethod yX2_payOf, Cond.selects RX2 yX2_payOf yX2_payOf, Cond.code yX2_payOf cX2_payOf 2 (some .int), Cond.methodLink RX2 155 yX2_enviedBy, Cond.instanceMethod yX2_enviedBy, Cond.selects RX2 yX2_enviedBy yX2_enviedBy, Cond.code yX2_enviedBy cX2_enviedBy 4 (some .int), Cond.methodLink RX2 46 yX0_size, Cond.instanceMethod yX0_size, Cond.selects RX0 yX0_size yX0_size, Cond.code yX0_size cX0_size 1 (some .int), Cond.methodLink RX2 110 yX2_wouldEnvy]
def wsX2_fact_r3 : List Cond := [Cond.instanceMethod yX2_wouldEnvy, Cond.selects RX2 yX2_wouldEnvy yX2_wouldEnvy, Cond.code yX2_wouldEnvy cX2_wouldEnvy 3 (some .boolean)]
def wsX2_fact : List Cond := .code yX2_fact cX2_fact 3 (some .int) :: ((wsX2_fact_r1 ++ (wsX2_fact_r2 ++ wsX2_fact_r3)) ++ wsX20 ++ wsX10 ++ wsX00)
def wsX2_told_r1 : List Cond := [Cond.classLink RX2 67 "java/lang/IndexOutOfBoundsException", Cond.initialized "java/lang/IndexOutOfBoundsException", Cond.fieldLink RX2 10 "RentHarmony" "bids" "LRentHarmony$Bids;", Cond.methodLink RX2 63 yX0_has, Cond.instanceMethod yX0_has, Cond.selects RX0 yX0_has yX0_has, Cond.initialized RX0, Cond.code yX0_has cX0_has 2 (some .boolean), Cond.fieldLink RX0 15 "RentHarmony$Bids" "size" "I", Cond.methodLink RX2 102 yX2_fact, Cond.instanceMethod yX2_fact, Cond.selects RX2 yX2_fact yX2_fact, Cond.initialized RX2, Cond.code yX2_fact cX2_fact 3 (some .int), Cond.fieldLink RX2 19 "RentHarmony" "giving" "LRentHarmony$Giving;", Cond.methodLink RX2 92 yX1_roomOf, Cond.instanceMethod yX1_roomOf, Cond.selects RX1 yX1_roomOf yX1_roomOf, Cond.initialized RX1, Cond.code yX1_roomOf cX1_roomOf 2 (some .int), Cond.fieldLink RX1 18 "RentHarmony$Giving" "rooms" "[I", Cond.methodLink RX2 149 yX2_ownBidOf, Cond.instanceMethod yX2_ownBidOf, Cond.selects RX2 yX2_ownBidOf yX2_ownBidOf]
def wsX2_told_r2 : List Cond := [Cond.code yX2_ownBidOf cX2_ownBidOf 2 (some .int), Cond.methodLink RX2 77 yX0_of, Cond.instanceMethod yX0_of, Cond.selects RX0 yX0_of yX0_of, Cond.code yX0_of cX0_of 3 (some .int), Cond.fieldLink RX0 9 "RentHarmony$Bids" "coins" "[I", Cond.methodLink RX0 19 yX0_has, Cond.methodLink RX2 114 yX2_rebateOf, Cond.instanceMethod yX2_rebateOf, Cond.selects RX2 yX2_rebateOf yX2_rebateOf, Cond.code yX2_rebateOf cX2_rebateOf 2 (some .int), Cond.fieldLink RX2 40 "RentHarmony" "share" "I", Cond.methodLink RX2 152 yX2_firstRebateOf, Cond.instanceMethod yX2_firstRebateOf, Cond.selects RX2 yX2_firstRebateOf yX2_firstRebateOf, Cond.code yX2_firstRebateOf cX2_firstRebateOf 2 (some .int), Cond.fieldLink RX2 29 "RentHarmony" "firstRebates" "[I", Cond.methodLink RX2 117 yX2_payOf, Cond.instanceMethod yX2_payOf, Cond.selects RX2 yX2_payOf yX2_payOf, Cond.code yX2_payOf cX2_payOf 2 (some .int), Cond.methodLink RX2 155 yX2_enviedBy, Cond.instanceMethod yX2_enviedBy, Cond.selects RX2 yX2_enviedBy yX2_enviedBy]
def wsX2_told_r3 : List Cond := [Cond.code yX2_enviedBy cX2_enviedBy 4 (some .int), Cond.methodLink RX2 46 yX0_size, Cond.instanceMethod yX0_size, Cond.selects RX0 yX0_size yX0_size, Cond.code yX0_size cX0_size 1 (some .int), Cond.methodLink RX2 110 yX2_wouldEnvy, Cond.instanceMethod yX2_wouldEnvy, Cond.selects RX2 yX2_wouldEnvy yX2_wouldEnvy, Cond.code yX2_wouldEnvy cX2_wouldEnvy 3 (some .boolean)]
def wsX2_told : List Cond := .code yX2_told cX2_told 3 (some .int) :: ((wsX2_told_r1 ++ (wsX2_told_r2 ++ wsX2_told_r3)) ++ wsX20 ++ wsX00 ++ wsX10 ++ (vx_atS RX2 71 "java/lang/IndexOutOfBoundsException" ["java/lang/RuntimeException", "java/lang/Exception"]).filter goodWord)
def wsX2_offer : List Cond := .code yX2_offer cX2_offer 3 (some .int) :: ([.classLink RX2 67 "java/lang/IndexOutOfBoundsException", .initialized "java/lang/IndexOutOfBoundsException", .fieldLink RX2 10 "RentHarmony" "bids" "LRentHarmony$Bids;", .methodLink RX2 63 yX0_has, .instanceMethod yX0_has, .selects RX0 yX0_has yX0_has, .initialized RX0, .code yX0_has cX0_has 2 (some .boolean), .fieldLink RX0 15 "RentHarmony$Bids" "size" "I", .methodLink RX2 77 yX0_of, .instanceMethod yX0_of, .selects RX0 yX0_of yX0_of, .code yX0_of cX0_of 3 (some .int), .fieldLink RX0 9 "RentHarmony$Bids" "coins" "[I", .methodLink RX0 19 yX0_has] ++ wsX20 ++ wsX00 ++ (vx_atS RX2 71 "java/lang/IndexOutOfBoundsException" ["java/lang/RuntimeException", "java/lang/Exception"]).filter goodWord)
def wsX2_allPays_r1 : List Cond := [Cond.fieldLink RX2 10 "RentHarmony" "bids" "LRentHarmony$Bids;", Cond.methodLink RX2 46 yX0_size, Cond.instanceMethod yX0_size, Cond.selects RX0 yX0_size yX0_size, Cond.initialized RX0, Cond.code yX0_size cX0_size 1 (some .int), Cond.fieldLink RX0 15 "RentHarmony$Bids" "size" "I", Cond.methodLink RX2 117 yX2_payOf, Cond.instanceMethod yX2_payOf, Cond.selects RX2 yX2_payOf yX2_payOf, Cond.initialized RX2, Cond.code yX2_payOf cX2_payOf 2 (some .int), Cond.methodLink RX2 149 yX2_ownBidOf, Cond.instanceMethod yX2_ownBidOf, Cond.selects RX2 yX2_ownBidOf yX2_ownBidOf, Cond.code yX2_ownBidOf cX2_ownBidOf 2 (some .int), Cond.fieldLink RX2 19 "RentHarmony" "giving" "LRentHarmony$Giving;", Cond.methodLink RX2 92 yX1_roomOf, Cond.instanceMethod yX1_roomOf, Cond.selects RX1 yX1_roomOf yX1_roomOf, Cond.initialized RX1, Cond.code yX1_roomOf cX1_roomOf 2 (some .int), Cond.fieldLink RX1 18 "RentHarmony$Giving" "rooms" "[I", Cond.methodLink RX2 77 yX0_of]
def wsX2_allPays_r2 : List Cond := [Cond.instanceMethod yX0_of, Cond.selects RX0 yX0_of yX0_of, Cond.code yX0_of cX0_of 3 (some .int), Cond.fieldLink RX0 9 "RentHarmony$Bids" "coins" "[I", Cond.methodLink RX0 19 yX0_has, Cond.instanceMethod yX0_has, Cond.selects RX0 yX0_has yX0_has, Cond.code yX0_has cX0_has 2 (some .boolean), Cond.methodLink RX2 114 yX2_rebateOf, Cond.instanceMethod yX2_rebateOf, Cond.selects RX2 yX2_rebateOf yX2_rebateOf, Cond.code yX2_rebateOf cX2_rebateOf 2 (some .int), Cond.fieldLink RX2 40 "RentHarmony" "share" "I", Cond.methodLink RX2 152 yX2_firstRebateOf, Cond.instanceMethod yX2_firstRebateOf, Cond.selects RX2 yX2_firstRebateOf yX2_firstRebateOf, Cond.code yX2_firstRebateOf cX2_firstRebateOf 2 (some .int), Cond.fieldLink RX2 29 "RentHarmony" "firstRebates" "[I", Cond.methodLink RX2 63 yX0_has]
def wsX2_allPays : List Cond := .code yX2_allPays cX2_allPays 3 (some .int) :: ((wsX2_allPays_r1 ++ wsX2_allPays_r2) ++ wsX20 ++ wsX00 ++ wsX10)
def wsX2_total_r1 : List Cond := [Cond.fieldLink RX2 10 "RentHarmony" "bids" "LRentHarmony$Bids;", Cond.fieldLink RX2 36 "RentHarmony" "rentCoins" "I", Cond.fieldLink RX2 19 "RentHarmony" "giving" "LRentHarmony$Giving;", Cond.fieldLink RX2 40 "RentHarmony" "share" "I", Cond.fieldLink RX2 43 "RentHarmony" "pot" "I", Cond.methodLink RX2 46 yX0_size, Cond.instanceMethod yX0_size, Cond.selects RX0 yX0_size yX0_size, Cond.initialized RX0, Cond.code yX0_size cX0_size 1 (some .int), Cond.fieldLink RX0 15 "RentHarmony$Bids" "size" "I", Cond.methodLink RX2 139 yX1_worth, Cond.instanceMethod yX1_worth, Cond.selects RX1 yX1_worth yX1_worth, Cond.initialized RX1, Cond.code yX1_worth cX1_worth 1 (some .int), Cond.fieldLink RX1 9 "RentHarmony$Giving" "bestOfRest" "[I", Cond.methodLink RX2 158 yX2_allFirstRebates, Cond.instanceMethod yX2_allFirstRebates, Cond.selects RX2 yX2_allFirstRebates yX2_allFirstRebates, Cond.initialized RX2, Cond.code yX2_allFirstRebates cX2_allFirstRebates 3 (some .int), Cond.fieldLink RX2 29 "RentHarmony" "firstRebates" "[I", Cond.methodLink RX2 161 yX1_ways]
def wsX2_total_r2 : List Cond := [Cond.instanceMethod yX1_ways, Cond.selects RX1 yX1_ways yX1_ways, Cond.code yX1_ways cX1_ways 1 (some .int), Cond.fieldLink RX1 15 "RentHarmony$Giving" "waysOfRest" "[I", Cond.methodLink RX2 142 yX2_allPays, Cond.instanceMethod yX2_allPays, Cond.selects RX2 yX2_allPays yX2_allPays, Cond.code yX2_allPays cX2_allPays 3 (some .int), Cond.methodLink RX2 117 yX2_payOf, Cond.instanceMethod yX2_payOf, Cond.selects RX2 yX2_payOf yX2_payOf, Cond.code yX2_payOf cX2_payOf 2 (some .int), Cond.methodLink RX2 149 yX2_ownBidOf, Cond.instanceMethod yX2_ownBidOf, Cond.selects RX2 yX2_ownBidOf yX2_ownBidOf, Cond.code yX2_ownBidOf cX2_ownBidOf 2 (some .int), Cond.methodLink RX2 92 yX1_roomOf, Cond.instanceMethod yX1_roomOf, Cond.selects RX1 yX1_roomOf yX1_roomOf, Cond.code yX1_roomOf cX1_roomOf 2 (some .int), Cond.fieldLink RX1 18 "RentHarmony$Giving" "rooms" "[I", Cond.methodLink RX2 77 yX0_of, Cond.instanceMethod yX0_of, Cond.selects RX0 yX0_of yX0_of]
def wsX2_total_r3 : List Cond := [Cond.code yX0_of cX0_of 3 (some .int), Cond.fieldLink RX0 9 "RentHarmony$Bids" "coins" "[I", Cond.methodLink RX0 19 yX0_has, Cond.instanceMethod yX0_has, Cond.selects RX0 yX0_has yX0_has, Cond.code yX0_has cX0_has 2 (some .boolean), Cond.methodLink RX2 114 yX2_rebateOf, Cond.instanceMethod yX2_rebateOf, Cond.selects RX2 yX2_rebateOf yX2_rebateOf, Cond.code yX2_rebateOf cX2_rebateOf 2 (some .int), Cond.methodLink RX2 152 yX2_firstRebateOf, Cond.instanceMethod yX2_firstRebateOf, Cond.selects RX2 yX2_firstRebateOf yX2_firstRebateOf, Cond.code yX2_firstRebateOf cX2_firstRebateOf 2 (some .int), Cond.methodLink RX2 63 yX0_has]
def wsX2_total : List Cond := .code yX2_total cX2_total 2 (some .int) :: ((wsX2_total_r1 ++ (wsX2_total_r2 ++ wsX2_total_r3)) ++ wsX20 ++ wsX00 ++ wsX10)
def wsX2_count_r1 : List Cond := [Cond.classLink RX2 67 "java/lang/IndexOutOfBoundsException", Cond.initialized "java/lang/IndexOutOfBoundsException", Cond.methodLink RX2 107 yX2_total, Cond.instanceMethod yX2_total, Cond.selects RX2 yX2_total yX2_total, Cond.initialized RX2, Cond.code yX2_total cX2_total 2 (some .int), Cond.fieldLink RX2 10 "RentHarmony" "bids" "LRentHarmony$Bids;", Cond.fieldLink RX2 36 "RentHarmony" "rentCoins" "I", Cond.fieldLink RX2 19 "RentHarmony" "giving" "LRentHarmony$Giving;", Cond.fieldLink RX2 40 "RentHarmony" "share" "I", Cond.fieldLink RX2 43 "RentHarmony" "pot" "I", Cond.methodLink RX2 46 yX0_size, Cond.instanceMethod yX0_size, Cond.selects RX0 yX0_size yX0_size, Cond.initialized RX0, Cond.code yX0_size cX0_size 1 (some .int), Cond.fieldLink RX0 15 "RentHarmony$Bids" "size" "I", Cond.methodLink RX2 139 yX1_worth, Cond.instanceMethod yX1_worth, Cond.selects RX1 yX1_worth yX1_worth, Cond.initialized RX1, Cond.code yX1_worth cX1_worth 1 (some .int), Cond.fieldLink RX1 9 "RentHarmony$Giving" "bestOfRest" "[I"]
def wsX2_count_r2 : List Cond := [Cond.methodLink RX2 158 yX2_allFirstRebates, Cond.instanceMethod yX2_allFirstRebates, Cond.selects RX2 yX2_allFirstRebates yX2_allFirstRebates, Cond.code yX2_allFirstRebates cX2_allFirstRebates 3 (some .int), Cond.fieldLink RX2 29 "RentHarmony" "firstRebates" "[I", Cond.methodLink RX2 161 yX1_ways, Cond.instanceMethod yX1_ways, Cond.selects RX1 yX1_ways yX1_ways, Cond.code yX1_ways cX1_ways 1 (some .int), Cond.fieldLink RX1 15 "RentHarmony$Giving" "waysOfRest" "[I", Cond.methodLink RX2 142 yX2_allPays, Cond.instanceMethod yX2_allPays, Cond.selects RX2 yX2_allPays yX2_allPays, Cond.code yX2_allPays cX2_allPays 3 (some .int), Cond.methodLink RX2 117 yX2_payOf, Cond.instanceMethod yX2_payOf, Cond.selects RX2 yX2_payOf yX2_payOf, Cond.code yX2_payOf cX2_payOf 2 (some .int), Cond.methodLink RX2 149 yX2_ownBidOf, Cond.instanceMethod yX2_ownBidOf, Cond.selects RX2 yX2_ownBidOf yX2_ownBidOf, Cond.code yX2_ownBidOf cX2_ownBidOf 2 (some .int), Cond.methodLink RX2 92 yX1_roomOf, Cond.instanceMethod yX1_roomOf]
def wsX2_count_r3 : List Cond := [Cond.selects RX1 yX1_roomOf yX1_roomOf, Cond.code yX1_roomOf cX1_roomOf 2 (some .int), Cond.fieldLink RX1 18 "RentHarmony$Giving" "rooms" "[I", Cond.methodLink RX2 77 yX0_of, Cond.instanceMethod yX0_of, Cond.selects RX0 yX0_of yX0_of, Cond.code yX0_of cX0_of 3 (some .int), Cond.fieldLink RX0 9 "RentHarmony$Bids" "coins" "[I", Cond.methodLink RX0 19 yX0_has, Cond.instanceMethod yX0_has, Cond.selects RX0 yX0_has yX0_has, Cond.code yX0_has cX0_has 2 (some .boolean), Cond.methodLink RX2 114 yX2_rebateOf, Cond.instanceMethod yX2_rebateOf, Cond.selects RX2 yX2_rebateOf yX2_rebateOf, Cond.code yX2_rebateOf cX2_rebateOf 2 (some .int), Cond.methodLink RX2 152 yX2_firstRebateOf, Cond.instanceMethod yX2_firstRebateOf, Cond.selects RX2 yX2_firstRebateOf yX2_firstRebateOf, Cond.code yX2_firstRebateOf cX2_firstRebateOf 2 (some .int), Cond.methodLink RX2 63 yX0_has]
def wsX2_count : List Cond := .code yX2_count cX2_count 2 (some .int) :: ((wsX2_count_r1 ++ (wsX2_count_r2 ++ wsX2_count_r3)) ++ wsX20 ++ wsX00 ++ wsX10 ++ (vx_atS RX2 71 "java/lang/IndexOutOfBoundsException" ["java/lang/RuntimeException", "java/lang/Exception"]).filter goodWord)
def wsX2_envies_r1 : List Cond := [Cond.classLink RX2 67 "java/lang/IndexOutOfBoundsException", Cond.initialized "java/lang/IndexOutOfBoundsException", Cond.fieldLink RX2 10 "RentHarmony" "bids" "LRentHarmony$Bids;", Cond.methodLink RX2 63 yX0_has, Cond.instanceMethod yX0_has, Cond.selects RX0 yX0_has yX0_has, Cond.initialized RX0, Cond.code yX0_has cX0_has 2 (some .boolean), Cond.fieldLink RX0 15 "RentHarmony$Bids" "size" "I", Cond.methodLink RX2 110 yX2_wouldEnvy, Cond.instanceMethod yX2_wouldEnvy, Cond.selects RX2 yX2_wouldEnvy yX2_wouldEnvy, Cond.initialized RX2, Cond.code yX2_wouldEnvy cX2_wouldEnvy 3 (some .boolean), Cond.fieldLink RX2 19 "RentHarmony" "giving" "LRentHarmony$Giving;", Cond.methodLink RX2 92 yX1_roomOf, Cond.instanceMethod yX1_roomOf, Cond.selects RX1 yX1_roomOf yX1_roomOf, Cond.initialized RX1, Cond.code yX1_roomOf cX1_roomOf 2 (some .int), Cond.fieldLink RX1 18 "RentHarmony$Giving" "rooms" "[I", Cond.methodLink RX2 77 yX0_of, Cond.instanceMethod yX0_of, Cond.selects RX0 yX0_of yX0_of]
def wsX2_envies_r2 : List Cond := [Cond.code yX0_of cX0_of 3 (some .int), Cond.fieldLink RX0 9 "RentHarmony$Bids" "coins" "[I", Cond.methodLink RX0 19 yX0_has, Cond.methodLink RX2 149 yX2_ownBidOf, Cond.instanceMethod yX2_ownBidOf, Cond.selects RX2 yX2_ownBidOf yX2_ownBidOf, Cond.code yX2_ownBidOf cX2_ownBidOf 2 (some .int)]
def wsX2_envies : List Cond := .code yX2_envies cX2_envies 3 (some .boolean) :: ((wsX2_envies_r1 ++ wsX2_envies_r2) ++ wsX20 ++ wsX00 ++ wsX10 ++ (vx_atS RX2 71 "java/lang/IndexOutOfBoundsException" ["java/lang/RuntimeException", "java/lang/Exception"]).filter goodWord)
def wsX2_gap_r1 : List Cond := [Cond.classLink RX2 67 "java/lang/IndexOutOfBoundsException", Cond.initialized "java/lang/IndexOutOfBoundsException", Cond.fieldLink RX2 10 "RentHarmony" "bids" "LRentHarmony$Bids;", Cond.fieldLink RX2 19 "RentHarmony" "giving" "LRentHarmony$Giving;", Cond.methodLink RX2 63 yX0_has, Cond.instanceMethod yX0_has, Cond.selects RX0 yX0_has yX0_has, Cond.initialized RX0, Cond.code yX0_has cX0_has 2 (some .boolean), Cond.fieldLink RX0 15 "RentHarmony$Bids" "size" "I", Cond.methodLink RX2 114 yX2_rebateOf, Cond.instanceMethod yX2_rebateOf, Cond.selects RX2 yX2_rebateOf yX2_rebateOf, Cond.initialized RX2, Cond.code yX2_rebateOf cX2_rebateOf 2 (some .int), Cond.fieldLink RX2 40 "RentHarmony" "share" "I", Cond.methodLink RX2 152 yX2_firstRebateOf, Cond.instanceMethod yX2_firstRebateOf, Cond.selects RX2 yX2_firstRebateOf yX2_firstRebateOf, Cond.code yX2_firstRebateOf cX2_firstRebateOf 2 (some .int), Cond.fieldLink RX2 29 "RentHarmony" "firstRebates" "[I", Cond.methodLink RX2 92 yX1_roomOf, Cond.instanceMethod yX1_roomOf, Cond.selects RX1 yX1_roomOf yX1_roomOf]
def wsX2_gap_r2 : List Cond := [Cond.initialized RX1, Cond.code yX1_roomOf cX1_roomOf 2 (some .int), Cond.fieldLink RX1 18 "RentHarmony$Giving" "rooms" "[I", Cond.methodLink RX2 77 yX0_of, Cond.instanceMethod yX0_of, Cond.selects RX0 yX0_of yX0_of, Cond.code yX0_of cX0_of 3 (some .int), Cond.fieldLink RX0 9 "RentHarmony$Bids" "coins" "[I", Cond.methodLink RX0 19 yX0_has, Cond.methodLink RX2 117 yX2_payOf, Cond.instanceMethod yX2_payOf, Cond.selects RX2 yX2_payOf yX2_payOf, Cond.code yX2_payOf cX2_payOf 2 (some .int), Cond.methodLink RX2 149 yX2_ownBidOf, Cond.instanceMethod yX2_ownBidOf, Cond.selects RX2 yX2_ownBidOf yX2_ownBidOf, Cond.code yX2_ownBidOf cX2_ownBidOf 2 (some .int)]
def wsX2_gap : List Cond := .code yX2_gap cX2_gap 3 (some .int) :: ((wsX2_gap_r1 ++ wsX2_gap_r2) ++ wsX20 ++ wsX00 ++ wsX10 ++ (vx_atS RX2 71 "java/lang/IndexOutOfBoundsException" ["java/lang/RuntimeException", "java/lang/Exception"]).filter goodWord)
def wsX2_longestChainFrom_r1 : List Cond := [Cond.fieldLink RX2 10 "RentHarmony" "bids" "LRentHarmony$Bids;", Cond.fieldLink RX2 33 "RentHarmony" "chains" "[I", Cond.methodLink RX2 123 Lib.Math.max.name, Cond.static Lib.Math.max.name, Cond.initialized "java/lang/Math", Cond.code Lib.Math.max.name Lib.Math.max.code 2 (some .int), Cond.methodLink RX2 46 yX0_size, Cond.instanceMethod yX0_size, Cond.selects RX0 yX0_size yX0_size, Cond.initialized RX0, Cond.code yX0_size cX0_size 1 (some .int), Cond.fieldLink RX0 15 "RentHarmony$Bids" "size" "I", Cond.methodLink RX2 110 yX2_wouldEnvy, Cond.instanceMethod yX2_wouldEnvy, Cond.selects RX2 yX2_wouldEnvy yX2_wouldEnvy, Cond.initialized RX2, Cond.code yX2_wouldEnvy cX2_wouldEnvy 3 (some .boolean), Cond.fieldLink RX2 19 "RentHarmony" "giving" "LRentHarmony$Giving;", Cond.methodLink RX2 92 yX1_roomOf, Cond.instanceMethod yX1_roomOf, Cond.selects RX1 yX1_roomOf yX1_roomOf, Cond.initialized RX1, Cond.code yX1_roomOf cX1_roomOf 2 (some .int), Cond.fieldLink RX1 18 "RentHarmony$Giving" "rooms" "[I"]
def wsX2_longestChainFrom_r2 : List Cond := [Cond.methodLink RX2 77 yX0_of, Cond.instanceMethod yX0_of, Cond.selects RX0 yX0_of yX0_of, Cond.code yX0_of cX0_of 3 (some .int), Cond.fieldLink RX0 9 "RentHarmony$Bids" "coins" "[I", Cond.methodLink RX0 19 yX0_has, Cond.instanceMethod yX0_has, Cond.selects RX0 yX0_has yX0_has, Cond.code yX0_has cX0_has 2 (some .boolean), Cond.methodLink RX2 149 yX2_ownBidOf, Cond.instanceMethod yX2_ownBidOf, Cond.selects RX2 yX2_ownBidOf yX2_ownBidOf, Cond.code yX2_ownBidOf cX2_ownBidOf 2 (some .int)]
def wsX2_longestChainFrom : List Cond := .code yX2_longestChainFrom cX2_longestChainFrom 4 (some .int) :: ((wsX2_longestChainFrom_r1 ++ wsX2_longestChainFrom_r2) ++ wsX20 ++ wsX00 ++ wsX10)
def wsX2_chain_r1 : List Cond := [Cond.fieldLink RX2 10 "RentHarmony" "bids" "LRentHarmony$Bids;", Cond.fieldLink RX2 33 "RentHarmony" "chains" "[I", Cond.methodLink RX2 123 Lib.Math.max.name, Cond.static Lib.Math.max.name, Cond.initialized "java/lang/Math", Cond.code Lib.Math.max.name Lib.Math.max.code 2 (some .int), Cond.methodLink RX2 46 yX0_size, Cond.instanceMethod yX0_size, Cond.selects RX0 yX0_size yX0_size, Cond.initialized RX0, Cond.code yX0_size cX0_size 1 (some .int), Cond.fieldLink RX0 15 "RentHarmony$Bids" "size" "I", Cond.methodLink RX2 120 yX2_longestChainFrom, Cond.instanceMethod yX2_longestChainFrom, Cond.selects RX2 yX2_longestChainFrom yX2_longestChainFrom, Cond.initialized RX2, Cond.code yX2_longestChainFrom cX2_longestChainFrom 4 (some .int), Cond.methodLink RX2 110 yX2_wouldEnvy, Cond.instanceMethod yX2_wouldEnvy, Cond.selects RX2 yX2_wouldEnvy yX2_wouldEnvy, Cond.code yX2_wouldEnvy cX2_wouldEnvy 3 (some .boolean), Cond.fieldLink RX2 19 "RentHarmony" "giving" "LRentHarmony$Giving;", Cond.methodLink RX2 92 yX1_roomOf, Cond.instanceMethod yX1_roomOf]
def wsX2_chain_r2 : List Cond := [Cond.selects RX1 yX1_roomOf yX1_roomOf, Cond.initialized RX1, Cond.code yX1_roomOf cX1_roomOf 2 (some .int), Cond.fieldLink RX1 18 "RentHarmony$Giving" "rooms" "[I", Cond.methodLink RX2 77 yX0_of, Cond.instanceMethod yX0_of, Cond.selects RX0 yX0_of yX0_of, Cond.code yX0_of cX0_of 3 (some .int), Cond.fieldLink RX0 9 "RentHarmony$Bids" "coins" "[I", Cond.methodLink RX0 19 yX0_has, Cond.instanceMethod yX0_has, Cond.selects RX0 yX0_has yX0_has, Cond.code yX0_has cX0_has 2 (some .boolean), Cond.methodLink RX2 149 yX2_ownBidOf, Cond.instanceMethod yX2_ownBidOf, Cond.selects RX2 yX2_ownBidOf yX2_ownBidOf, Cond.code yX2_ownBidOf cX2_ownBidOf 2 (some .int)]
def wsX2_chain : List Cond := .code yX2_chain cX2_chain 4 (some .int) :: ((wsX2_chain_r1 ++ wsX2_chain_r2) ++ wsX20 ++ wsX00 ++ wsX10)
def wsX2_roomTried_r1 : List Cond := [Cond.fieldLink RX2 23 "RentHarmony" "triedBids" "LRentHarmony$Bids;", Cond.fieldLink RX2 26 "RentHarmony" "triedGiving" "LRentHarmony$Giving;", Cond.methodLink RX2 81 yX0_set, Cond.instanceMethod yX0_set, Cond.selects RX0 yX0_set yX0_set, Cond.initialized RX0, Cond.code yX0_set cX0_set 4 none, Cond.fieldLink RX0 9 "RentHarmony$Bids" "coins" "[I", Cond.methodLink RX0 19 yX0_has, Cond.instanceMethod yX0_has, Cond.selects RX0 yX0_has yX0_has, Cond.code yX0_has cX0_has 2 (some .boolean), Cond.fieldLink RX0 15 "RentHarmony$Bids" "size" "I", Cond.methodLink RX2 136 yX1_choose, Cond.instanceMethod yX1_choose, Cond.selects RX1 yX1_choose yX1_choose, Cond.initialized RX1, Cond.code yX1_choose cX1_choose 5 none, Cond.fieldLink RX1 9 "RentHarmony$Giving" "bestOfRest" "[I", Cond.fieldLink RX1 15 "RentHarmony$Giving" "waysOfRest" "[I", Cond.fieldLink RX1 18 "RentHarmony$Giving" "rooms" "[I", Cond.methodLink RX1 21 yX0_size, Cond.instanceMethod yX0_size, Cond.selects RX0 yX0_size yX0_size]
def wsX2_roomTried_r2 : List Cond := [Cond.code yX0_size cX0_size 1 (some .int), Cond.methodLink RX1 27 yX1_weigh, Cond.instanceMethod yX1_weigh, Cond.selects RX1 yX1_weigh yX1_weigh, Cond.code yX1_weigh cX1_weigh 9 none, Cond.methodLink RX1 35 yJ6_bitCount_0f7a4, Cond.static yJ6_bitCount_0f7a4, Cond.initialized RJ6, Cond.code yJ6_bitCount_0f7a4 cJ6_bitCount_0f7a4 1 (some .int), Cond.constant RJ6 265 (1431655765), Cond.constant RJ6 266 (858993459), Cond.constant RJ6 267 (252645135), Cond.methodLink RX1 41 yX0_of, Cond.instanceMethod yX0_of, Cond.selects RX0 yX0_of yX0_of, Cond.code yX0_of cX0_of 3 (some .int), Cond.methodLink RX1 31 yX1_firstBestRoom, Cond.instanceMethod yX1_firstBestRoom, Cond.selects RX1 yX1_firstBestRoom yX1_firstBestRoom, Cond.code yX1_firstBestRoom cX1_firstBestRoom 5 (some .int), Cond.methodLink RX2 92 yX1_roomOf, Cond.instanceMethod yX1_roomOf, Cond.selects RX1 yX1_roomOf yX1_roomOf, Cond.code yX1_roomOf cX1_roomOf 2 (some .int)]
def wsX2_roomTried : List Cond := .code yX2_roomTried cX2_roomTried 4 (some .int) :: ((wsX2_roomTried_r1 ++ wsX2_roomTried_r2) ++ wsX20 ++ wsX00 ++ wsX10)
def wsX2_would_r1 : List Cond := [Cond.classLink RX2 67 "java/lang/IndexOutOfBoundsException", Cond.initialized "java/lang/IndexOutOfBoundsException", Cond.classLink RX2 72 "java/lang/IllegalArgumentException", Cond.initialized "java/lang/IllegalArgumentException", Cond.fieldLink RX2 10 "RentHarmony" "bids" "LRentHarmony$Bids;", Cond.fieldLink RX2 23 "RentHarmony" "triedBids" "LRentHarmony$Bids;", Cond.methodLink RX2 63 yX0_has, Cond.instanceMethod yX0_has, Cond.selects RX0 yX0_has yX0_has, Cond.initialized RX0, Cond.code yX0_has cX0_has 2 (some .boolean), Cond.fieldLink RX0 15 "RentHarmony$Bids" "size" "I", Cond.methodLink RX2 128 yX0_copy, Cond.instanceMethod yX0_copy, Cond.selects RX0 yX0_copy yX0_copy, Cond.code yX0_copy cX0_copy 2 none, Cond.fieldLink RX0 9 "RentHarmony$Bids" "coins" "[I", Cond.methodLink RX0 23 arraycopyName, Cond.native arraycopyName, Cond.static arraycopyName, Cond.initialized "java/lang/System", Cond.methodLink RX2 132 yX2_roomTried, Cond.instanceMethod yX2_roomTried, Cond.selects RX2 yX2_roomTried yX2_roomTried]
def wsX2_would_r2 : List Cond := [Cond.initialized RX2, Cond.code yX2_roomTried cX2_roomTried 4 (some .int), Cond.fieldLink RX2 26 "RentHarmony" "triedGiving" "LRentHarmony$Giving;", Cond.methodLink RX2 81 yX0_set, Cond.instanceMethod yX0_set, Cond.selects RX0 yX0_set yX0_set, Cond.code yX0_set cX0_set 4 none, Cond.methodLink RX0 19 yX0_has, Cond.methodLink RX2 136 yX1_choose, Cond.instanceMethod yX1_choose, Cond.selects RX1 yX1_choose yX1_choose, Cond.initialized RX1, Cond.code yX1_choose cX1_choose 5 none, Cond.fieldLink RX1 9 "RentHarmony$Giving" "bestOfRest" "[I", Cond.fieldLink RX1 15 "RentHarmony$Giving" "waysOfRest" "[I", Cond.fieldLink RX1 18 "RentHarmony$Giving" "rooms" "[I", Cond.methodLink RX1 21 yX0_size, Cond.instanceMethod yX0_size, Cond.selects RX0 yX0_size yX0_size, Cond.code yX0_size cX0_size 1 (some .int), Cond.methodLink RX1 27 yX1_weigh, Cond.instanceMethod yX1_weigh, Cond.selects RX1 yX1_weigh yX1_weigh, Cond.code yX1_weigh cX1_weigh 9 none]
def wsX2_would_r3 : List Cond := [Cond.methodLink RX1 35 yJ6_bitCount_0f7a4, Cond.static yJ6_bitCount_0f7a4, Cond.initialized RJ6, Cond.code yJ6_bitCount_0f7a4 cJ6_bitCount_0f7a4 1 (some .int), Cond.constant RJ6 265 (1431655765), Cond.constant RJ6 266 (858993459), Cond.constant RJ6 267 (252645135), Cond.methodLink RX1 41 yX0_of, Cond.instanceMethod yX0_of, Cond.selects RX0 yX0_of yX0_of, Cond.code yX0_of cX0_of 3 (some .int), Cond.methodLink RX1 31 yX1_firstBestRoom, Cond.instanceMethod yX1_firstBestRoom, Cond.selects RX1 yX1_firstBestRoom yX1_firstBestRoom, Cond.code yX1_firstBestRoom cX1_firstBestRoom 5 (some .int), Cond.methodLink RX2 92 yX1_roomOf, Cond.instanceMethod yX1_roomOf, Cond.selects RX1 yX1_roomOf yX1_roomOf, Cond.code yX1_roomOf cX1_roomOf 2 (some .int)]
def wsX2_would : List Cond := .code yX2_would cX2_would 4 (some .int) :: ((wsX2_would_r1 ++ (wsX2_would_r2 ++ wsX2_would_r3)) ++ wsX20 ++ wsX00 ++ wsX10 ++ (vx_atS RX2 71 "java/lang/IndexOutOfBoundsException" ["java/lang/RuntimeException", "java/lang/Exception"]).filter goodWord ++ (vx_atS RX2 76 "java/lang/IllegalArgumentException" ["java/lang/RuntimeException", "java/lang/Exception"]).filter goodWord)
def wsX2_needs_r1 : List Cond := [Cond.classLink RX2 67 "java/lang/IndexOutOfBoundsException", Cond.initialized "java/lang/IndexOutOfBoundsException", Cond.fieldLink RX2 10 "RentHarmony" "bids" "LRentHarmony$Bids;", Cond.fieldLink RX2 23 "RentHarmony" "triedBids" "LRentHarmony$Bids;", Cond.methodLink RX2 63 yX0_has, Cond.instanceMethod yX0_has, Cond.selects RX0 yX0_has yX0_has, Cond.initialized RX0, Cond.code yX0_has cX0_has 2 (some .boolean), Cond.fieldLink RX0 15 "RentHarmony$Bids" "size" "I", Cond.methodLink RX2 128 yX0_copy, Cond.instanceMethod yX0_copy, Cond.selects RX0 yX0_copy yX0_copy, Cond.code yX0_copy cX0_copy 2 none, Cond.fieldLink RX0 9 "RentHarmony$Bids" "coins" "[I", Cond.methodLink RX0 23 arraycopyName, Cond.native arraycopyName, Cond.static arraycopyName, Cond.initialized "java/lang/System", Cond.methodLink RX2 132 yX2_roomTried, Cond.instanceMethod yX2_roomTried, Cond.selects RX2 yX2_roomTried yX2_roomTried, Cond.initialized RX2, Cond.code yX2_roomTried cX2_roomTried 4 (some .int)]
def wsX2_needs_r2 : List Cond := [Cond.fieldLink RX2 26 "RentHarmony" "triedGiving" "LRentHarmony$Giving;", Cond.methodLink RX2 81 yX0_set, Cond.instanceMethod yX0_set, Cond.selects RX0 yX0_set yX0_set, Cond.code yX0_set cX0_set 4 none, Cond.methodLink RX0 19 yX0_has, Cond.methodLink RX2 136 yX1_choose, Cond.instanceMethod yX1_choose, Cond.selects RX1 yX1_choose yX1_choose, Cond.initialized RX1, Cond.code yX1_choose cX1_choose 5 none, Cond.fieldLink RX1 9 "RentHarmony$Giving" "bestOfRest" "[I", Cond.fieldLink RX1 15 "RentHarmony$Giving" "waysOfRest" "[I", Cond.fieldLink RX1 18 "RentHarmony$Giving" "rooms" "[I", Cond.methodLink RX1 21 yX0_size, Cond.instanceMethod yX0_size, Cond.selects RX0 yX0_size yX0_size, Cond.code yX0_size cX0_size 1 (some .int), Cond.methodLink RX1 27 yX1_weigh, Cond.instanceMethod yX1_weigh, Cond.selects RX1 yX1_weigh yX1_weigh, Cond.code yX1_weigh cX1_weigh 9 none, Cond.methodLink RX1 35 yJ6_bitCount_0f7a4, Cond.static yJ6_bitCount_0f7a4]
def wsX2_needs_r3 : List Cond := [Cond.initialized RJ6, Cond.code yJ6_bitCount_0f7a4 cJ6_bitCount_0f7a4 1 (some .int), Cond.constant RJ6 265 (1431655765), Cond.constant RJ6 266 (858993459), Cond.constant RJ6 267 (252645135), Cond.methodLink RX1 41 yX0_of, Cond.instanceMethod yX0_of, Cond.selects RX0 yX0_of yX0_of, Cond.code yX0_of cX0_of 3 (some .int), Cond.methodLink RX1 31 yX1_firstBestRoom, Cond.instanceMethod yX1_firstBestRoom, Cond.selects RX1 yX1_firstBestRoom yX1_firstBestRoom, Cond.code yX1_firstBestRoom cX1_firstBestRoom 5 (some .int), Cond.methodLink RX2 92 yX1_roomOf, Cond.instanceMethod yX1_roomOf, Cond.selects RX1 yX1_roomOf yX1_roomOf, Cond.code yX1_roomOf cX1_roomOf 2 (some .int)]
def wsX2_needs : List Cond := .code yX2_needs cX2_needs 6 (some .int) :: ((wsX2_needs_r1 ++ (wsX2_needs_r2 ++ wsX2_needs_r3)) ++ wsX20 ++ wsX00 ++ wsX10 ++ (vx_atS RX2 71 "java/lang/IndexOutOfBoundsException" ["java/lang/RuntimeException", "java/lang/Exception"]).filter goodWord)
def wsX2_without_r1 : List Cond := [Cond.classLink RX2 67 "java/lang/IndexOutOfBoundsException", Cond.initialized "java/lang/IndexOutOfBoundsException", Cond.fieldLink RX2 10 "RentHarmony" "bids" "LRentHarmony$Bids;", Cond.fieldLink RX2 23 "RentHarmony" "triedBids" "LRentHarmony$Bids;", Cond.fieldLink RX2 26 "RentHarmony" "triedGiving" "LRentHarmony$Giving;", Cond.methodLink RX2 63 yX0_has, Cond.instanceMethod yX0_has, Cond.selects RX0 yX0_has yX0_has, Cond.initialized RX0, Cond.code yX0_has cX0_has 2 (some .boolean), Cond.fieldLink RX0 15 "RentHarmony$Bids" "size" "I", Cond.methodLink RX2 128 yX0_copy, Cond.instanceMethod yX0_copy, Cond.selects RX0 yX0_copy yX0_copy, Cond.code yX0_copy cX0_copy 2 none, Cond.fieldLink RX0 9 "RentHarmony$Bids" "coins" "[I", Cond.methodLink RX0 23 arraycopyName, Cond.native arraycopyName, Cond.static arraycopyName, Cond.initialized "java/lang/System", Cond.methodLink RX2 46 yX0_size, Cond.instanceMethod yX0_size, Cond.selects RX0 yX0_size yX0_size, Cond.code yX0_size cX0_size 1 (some .int)]
def wsX2_without_r2 : List Cond := [Cond.methodLink RX2 81 yX0_set, Cond.instanceMethod yX0_set, Cond.selects RX0 yX0_set yX0_set, Cond.code yX0_set cX0_set 4 none, Cond.methodLink RX0 19 yX0_has, Cond.methodLink RX2 136 yX1_choose, Cond.instanceMethod yX1_choose, Cond.selects RX1 yX1_choose yX1_choose, Cond.initialized RX1, Cond.code yX1_choose cX1_choose 5 none, Cond.fieldLink RX1 9 "RentHarmony$Giving" "bestOfRest" "[I", Cond.fieldLink RX1 15 "RentHarmony$Giving" "waysOfRest" "[I", Cond.fieldLink RX1 18 "RentHarmony$Giving" "rooms" "[I", Cond.methodLink RX1 21 yX0_size, Cond.methodLink RX1 27 yX1_weigh, Cond.instanceMethod yX1_weigh, Cond.selects RX1 yX1_weigh yX1_weigh, Cond.code yX1_weigh cX1_weigh 9 none, Cond.methodLink RX1 35 yJ6_bitCount_0f7a4, Cond.static yJ6_bitCount_0f7a4, Cond.initialized RJ6, Cond.code yJ6_bitCount_0f7a4 cJ6_bitCount_0f7a4 1 (some .int), Cond.constant RJ6 265 (1431655765), Cond.constant RJ6 266 (858993459)]
def wsX2_without_r3 : List Cond := [Cond.constant RJ6 267 (252645135), Cond.methodLink RX1 41 yX0_of, Cond.instanceMethod yX0_of, Cond.selects RX0 yX0_of yX0_of, Cond.code yX0_of cX0_of 3 (some .int), Cond.methodLink RX1 31 yX1_firstBestRoom, Cond.instanceMethod yX1_firstBestRoom, Cond.selects RX1 yX1_firstBestRoom yX1_firstBestRoom, Cond.code yX1_firstBestRoom cX1_firstBestRoom 5 (some .int), Cond.methodLink RX2 139 yX1_worth, Cond.instanceMethod yX1_worth, Cond.selects RX1 yX1_worth yX1_worth, Cond.code yX1_worth cX1_worth 1 (some .int)]
def wsX2_without : List Cond := .code yX2_without cX2_without 3 (some .int) :: ((wsX2_without_r1 ++ (wsX2_without_r2 ++ wsX2_without_r3)) ++ wsX20 ++ wsX00 ++ wsX10 ++ (vx_atS RX2 71 "java/lang/IndexOutOfBoundsException" ["java/lang/RuntimeException", "java/lang/Exception"]).filter goodWord)
def wsX2_mean_r1 : List Cond := [Cond.fieldLink RX2 10 "RentHarmony" "bids" "LRentHarmony$Bids;", Cond.methodLink RX2 46 yX0_size, Cond.instanceMethod yX0_size, Cond.selects RX0 yX0_size yX0_size, Cond.initialized RX0, Cond.code yX0_size cX0_size 1 (some .int), Cond.fieldLink RX0 15 "RentHarmony$Bids" "size" "I", Cond.methodLink RX2 142 yX2_allPays, Cond.instanceMethod yX2_allPays, Cond.selects RX2 yX2_allPays yX2_allPays, Cond.initialized RX2, Cond.code yX2_allPays cX2_allPays 3 (some .int), Cond.methodLink RX2 117 yX2_payOf, Cond.instanceMethod yX2_payOf, Cond.selects RX2 yX2_payOf yX2_payOf, Cond.code yX2_payOf cX2_payOf 2 (some .int), Cond.methodLink RX2 149 yX2_ownBidOf, Cond.instanceMethod yX2_ownBidOf, Cond.selects RX2 yX2_ownBidOf yX2_ownBidOf, Cond.code yX2_ownBidOf cX2_ownBidOf 2 (some .int), Cond.fieldLink RX2 19 "RentHarmony" "giving" "LRentHarmony$Giving;", Cond.methodLink RX2 92 yX1_roomOf, Cond.instanceMethod yX1_roomOf, Cond.selects RX1 yX1_roomOf yX1_roomOf]
def wsX2_mean_r2 : List Cond := [Cond.initialized RX1, Cond.code yX1_roomOf cX1_roomOf 2 (some .int), Cond.fieldLink RX1 18 "RentHarmony$Giving" "rooms" "[I", Cond.methodLink RX2 77 yX0_of, Cond.instanceMethod yX0_of, Cond.selects RX0 yX0_of yX0_of, Cond.code yX0_of cX0_of 3 (some .int), Cond.fieldLink RX0 9 "RentHarmony$Bids" "coins" "[I", Cond.methodLink RX0 19 yX0_has, Cond.instanceMethod yX0_has, Cond.selects RX0 yX0_has yX0_has, Cond.code yX0_has cX0_has 2 (some .boolean), Cond.methodLink RX2 114 yX2_rebateOf, Cond.instanceMethod yX2_rebateOf, Cond.selects RX2 yX2_rebateOf yX2_rebateOf, Cond.code yX2_rebateOf cX2_rebateOf 2 (some .int), Cond.fieldLink RX2 40 "RentHarmony" "share" "I", Cond.methodLink RX2 152 yX2_firstRebateOf, Cond.instanceMethod yX2_firstRebateOf, Cond.selects RX2 yX2_firstRebateOf yX2_firstRebateOf, Cond.code yX2_firstRebateOf cX2_firstRebateOf 2 (some .int), Cond.fieldLink RX2 29 "RentHarmony" "firstRebates" "[I", Cond.methodLink RX2 63 yX0_has]
def wsX2_mean : List Cond := .code yX2_mean cX2_mean 2 (some .double) :: ((wsX2_mean_r1 ++ wsX2_mean_r2) ++ wsX20 ++ wsX00 ++ wsX10)
def wsX2_digest_r1 : List Cond := [Cond.constantLong RX2 145 (1301), Cond.constantLong RX2 147 (31), Cond.fieldLink RX2 10 "RentHarmony" "bids" "LRentHarmony$Bids;", Cond.methodLink RX2 107 yX2_total, Cond.instanceMethod yX2_total, Cond.selects RX2 yX2_total yX2_total, Cond.initialized RX2, Cond.code yX2_total cX2_total 2 (some .int), Cond.fieldLink RX2 36 "RentHarmony" "rentCoins" "I", Cond.fieldLink RX2 19 "RentHarmony" "giving" "LRentHarmony$Giving;", Cond.fieldLink RX2 40 "RentHarmony" "share" "I", Cond.fieldLink RX2 43 "RentHarmony" "pot" "I", Cond.methodLink RX2 46 yX0_size, Cond.instanceMethod yX0_size, Cond.selects RX0 yX0_size yX0_size, Cond.initialized RX0, Cond.code yX0_size cX0_size 1 (some .int), Cond.fieldLink RX0 15 "RentHarmony$Bids" "size" "I", Cond.methodLink RX2 139 yX1_worth, Cond.instanceMethod yX1_worth, Cond.selects RX1 yX1_worth yX1_worth, Cond.initialized RX1, Cond.code yX1_worth cX1_worth 1 (some .int), Cond.fieldLink RX1 9 "RentHarmony$Giving" "bestOfRest" "[I"]
def wsX2_digest_r2 : List Cond := [Cond.methodLink RX2 158 yX2_allFirstRebates, Cond.instanceMethod yX2_allFirstRebates, Cond.selects RX2 yX2_allFirstRebates yX2_allFirstRebates, Cond.code yX2_allFirstRebates cX2_allFirstRebates 3 (some .int), Cond.fieldLink RX2 29 "RentHarmony" "firstRebates" "[I", Cond.methodLink RX2 161 yX1_ways, Cond.instanceMethod yX1_ways, Cond.selects RX1 yX1_ways yX1_ways, Cond.code yX1_ways cX1_ways 1 (some .int), Cond.fieldLink RX1 15 "RentHarmony$Giving" "waysOfRest" "[I", Cond.methodLink RX2 142 yX2_allPays, Cond.instanceMethod yX2_allPays, Cond.selects RX2 yX2_allPays yX2_allPays, Cond.code yX2_allPays cX2_allPays 3 (some .int), Cond.methodLink RX2 117 yX2_payOf, Cond.instanceMethod yX2_payOf, Cond.selects RX2 yX2_payOf yX2_payOf, Cond.code yX2_payOf cX2_payOf 2 (some .int), Cond.methodLink RX2 149 yX2_ownBidOf, Cond.instanceMethod yX2_ownBidOf, Cond.selects RX2 yX2_ownBidOf yX2_ownBidOf, Cond.code yX2_ownBidOf cX2_ownBidOf 2 (some .int), Cond.methodLink RX2 92 yX1_roomOf, Cond.instanceMethod yX1_roomOf]
def wsX2_digest_r3 : List Cond := [Cond.selects RX1 yX1_roomOf yX1_roomOf, Cond.code yX1_roomOf cX1_roomOf 2 (some .int), Cond.fieldLink RX1 18 "RentHarmony$Giving" "rooms" "[I", Cond.methodLink RX2 77 yX0_of, Cond.instanceMethod yX0_of, Cond.selects RX0 yX0_of yX0_of, Cond.code yX0_of cX0_of 3 (some .int), Cond.fieldLink RX0 9 "RentHarmony$Bids" "coins" "[I", Cond.methodLink RX0 19 yX0_has, Cond.instanceMethod yX0_has, Cond.selects RX0 yX0_has yX0_has, Cond.code yX0_has cX0_has 2 (some .boolean), Cond.methodLink RX2 114 yX2_rebateOf, Cond.instanceMethod yX2_rebateOf, Cond.selects RX2 yX2_rebateOf yX2_rebateOf, Cond.code yX2_rebateOf cX2_rebateOf 2 (some .int), Cond.methodLink RX2 152 yX2_firstRebateOf, Cond.instanceMethod yX2_firstRebateOf, Cond.selects RX2 yX2_firstRebateOf yX2_firstRebateOf, Cond.code yX2_firstRebateOf cX2_firstRebateOf 2 (some .int), Cond.methodLink RX2 63 yX0_has, Cond.methodLink RX2 102 yX2_fact, Cond.instanceMethod yX2_fact, Cond.selects RX2 yX2_fact yX2_fact]
def wsX2_digest_r4 : List Cond := [Cond.code yX2_fact cX2_fact 3 (some .int), Cond.methodLink RX2 155 yX2_enviedBy, Cond.instanceMethod yX2_enviedBy, Cond.selects RX2 yX2_enviedBy yX2_enviedBy, Cond.code yX2_enviedBy cX2_enviedBy 4 (some .int), Cond.methodLink RX2 110 yX2_wouldEnvy, Cond.instanceMethod yX2_wouldEnvy, Cond.selects RX2 yX2_wouldEnvy yX2_wouldEnvy, Cond.code yX2_wouldEnvy cX2_wouldEnvy 3 (some .boolean)]
def wsX2_digest : List Cond := .code yX2_digest cX2_digest 5 (some .long) :: ((wsX2_digest_r1 ++ (wsX2_digest_r2 ++ (wsX2_digest_r3 ++ wsX2_digest_r4))) ++ wsX20 ++ wsX00 ++ wsX10)
def wsX3_init : List Cond := .code yX3_init cX3_init 1 none :: ([.methodLink RX3 1 objectInit, .instanceMethod objectInit, .code objectInit ⟨#[0xb1]⟩ 1 none, .arrayClass .int, .fieldLink RX3 9 "RentHarmonyModel" "bids" "[I", .fieldLink RX3 13 "RentHarmonyModel" "rooms" "[I", .fieldLink RX3 16 "RentHarmonyModel" "early" "[I", .fieldLink RX3 19 "RentHarmonyModel" "rebates" "[I", .fieldLink RX3 22 "RentHarmonyModel" "tried" "[I", .fieldLink RX3 25 "RentHarmonyModel" "free" "I", .fieldLink RX3 29 "RentHarmonyModel" "who" "I", .fieldLink RX3 32 "RentHarmonyModel" "which" "I"] ++ wsX30)
def wsX3_thrown : List Cond := .code yX3_thrown cX3_thrown 1 (some .int) :: ([.fieldLink RX3 35 "RentHarmonyModel" "thrown" "I"] ++ wsX30)
def wsX3_fail : List Cond := .code yX3_fail cX3_fail 2 (some .int) :: ([.fieldLink RX3 35 "RentHarmonyModel" "thrown" "I"] ++ wsX30)
def wsX3_isIn : List Cond := .code yX3_isIn cX3_isIn 3 (some .boolean) :: ([])
def wsX3_isOne : List Cond := .code yX3_isOne cX3_isOne 2 (some .boolean) :: ([.fieldLink RX3 38 "RentHarmonyModel" "lodgers" "I", .methodLink RX3 41 yX3_isIn, .static yX3_isIn, .initialized RX3, .code yX3_isIn cX3_isIn 3 (some .boolean)] ++ wsX30)
def wsX3_bi : List Cond := .code yX3_bi cX3_bi 3 (some .int) :: ([.fieldLink RX3 9 "RentHarmonyModel" "bids" "[I"] ++ wsX30)
def wsX3_come : List Cond := .code yX3_come cX3_come 2 (some .int) :: ([.fieldLink RX3 35 "RentHarmonyModel" "thrown" "I", .fieldLink RX3 38 "RentHarmonyModel" "lodgers" "I", .fieldLink RX3 9 "RentHarmonyModel" "bids" "[I", .methodLink RX3 45 yX3_fail, .instanceMethod yX3_fail, .selects RX3 yX3_fail yX3_fail, .initialized RX3, .code yX3_fail cX3_fail 2 (some .int)] ++ wsX30)
def wsX3_bid : List Cond := .code yX3_bid cX3_bid 5 (some .int) :: ([.fieldLink RX3 35 "RentHarmonyModel" "thrown" "I", .fieldLink RX3 9 "RentHarmonyModel" "bids" "[I", .methodLink RX3 49 yX3_isOne, .instanceMethod yX3_isOne, .selects RX3 yX3_isOne yX3_isOne, .initialized RX3, .code yX3_isOne cX3_isOne 2 (some .boolean), .fieldLink RX3 38 "RentHarmonyModel" "lodgers" "I", .methodLink RX3 41 yX3_isIn, .static yX3_isIn, .code yX3_isIn cX3_isIn 3 (some .boolean), .methodLink RX3 45 yX3_fail, .instanceMethod yX3_fail, .selects RX3 yX3_fail yX3_fail, .code yX3_fail cX3_fail 2 (some .int), .methodLink RX3 53 yX3_bi, .instanceMethod yX3_bi, .selects RX3 yX3_bi yX3_bi, .code yX3_bi cX3_bi 3 (some .int)] ++ wsX30)
def wsX3_rent : List Cond := .code yX3_rent cX3_rent 3 (some .int) :: ([.fieldLink RX3 35 "RentHarmonyModel" "thrown" "I", .fieldLink RX3 57 "RentHarmonyModel" "rent" "I", .methodLink RX3 41 yX3_isIn, .static yX3_isIn, .initialized RX3, .code yX3_isIn cX3_isIn 3 (some .boolean), .methodLink RX3 45 yX3_fail, .instanceMethod yX3_fail, .selects RX3 yX3_fail yX3_fail, .code yX3_fail cX3_fail 2 (some .int)] ++ wsX30)
def wsX3_isTaken : List Cond := .code yX3_isTaken cX3_isTaken 4 (some .boolean) :: ([.fieldLink RX3 22 "RentHarmonyModel" "tried" "[I", .fieldLink RX3 29 "RentHarmonyModel" "who" "I", .fieldLink RX3 60 "RentHarmonyModel" "must" "Z", .fieldLink RX3 32 "RentHarmonyModel" "which" "I"] ++ wsX30)
def wsX3_tryFrom_r1 : List Cond := [Cond.fieldLink RX3 38 "RentHarmonyModel" "lodgers" "I", Cond.fieldLink RX3 64 "RentHarmonyModel" "worth" "I", Cond.fieldLink RX3 67 "RentHarmonyModel" "ways" "I", Cond.fieldLink RX3 22 "RentHarmonyModel" "tried" "[I", Cond.fieldLink RX3 13 "RentHarmonyModel" "rooms" "[I", Cond.methodLink RX3 70 arraycopyName, Cond.native arraycopyName, Cond.static arraycopyName, Cond.initialized "java/lang/System", Cond.fieldLink RX3 25 "RentHarmonyModel" "free" "I", Cond.methodLink RX3 76 yX3_isTaken, Cond.instanceMethod yX3_isTaken, Cond.selects RX3 yX3_isTaken yX3_isTaken, Cond.initialized RX3, Cond.code yX3_isTaken cX3_isTaken 4 (some .boolean), Cond.fieldLink RX3 29 "RentHarmonyModel" "who" "I", Cond.fieldLink RX3 60 "RentHarmonyModel" "must" "Z", Cond.fieldLink RX3 32 "RentHarmonyModel" "which" "I", Cond.methodLink RX3 53 yX3_bi, Cond.instanceMethod yX3_bi, Cond.selects RX3 yX3_bi yX3_bi, Cond.code yX3_bi cX3_bi 3 (some .int), Cond.fieldLink RX3 9 "RentHarmonyModel" "bids" "[I", Cond.methodLink RX3 80 yX3_tryFrom]
def wsX3_tryFrom_r2 : List Cond := [Cond.instanceMethod yX3_tryFrom, Cond.selects RX3 yX3_tryFrom yX3_tryFrom]
def wsX3_tryFrom : List Cond := .code yX3_tryFrom cX3_tryFrom 4 none :: ((wsX3_tryFrom_r1 ++ wsX3_tryFrom_r2) ++ wsX30)
def wsX3_give_r1 : List Cond := [Cond.fieldLink RX3 64 "RentHarmonyModel" "worth" "I", Cond.fieldLink RX3 67 "RentHarmonyModel" "ways" "I", Cond.methodLink RX3 80 yX3_tryFrom, Cond.instanceMethod yX3_tryFrom, Cond.selects RX3 yX3_tryFrom yX3_tryFrom, Cond.initialized RX3, Cond.code yX3_tryFrom cX3_tryFrom 4 none, Cond.fieldLink RX3 38 "RentHarmonyModel" "lodgers" "I", Cond.fieldLink RX3 22 "RentHarmonyModel" "tried" "[I", Cond.fieldLink RX3 13 "RentHarmonyModel" "rooms" "[I", Cond.methodLink RX3 70 arraycopyName, Cond.native arraycopyName, Cond.static arraycopyName, Cond.initialized "java/lang/System", Cond.fieldLink RX3 25 "RentHarmonyModel" "free" "I", Cond.methodLink RX3 76 yX3_isTaken, Cond.instanceMethod yX3_isTaken, Cond.selects RX3 yX3_isTaken yX3_isTaken, Cond.code yX3_isTaken cX3_isTaken 4 (some .boolean), Cond.fieldLink RX3 29 "RentHarmonyModel" "who" "I", Cond.fieldLink RX3 60 "RentHarmonyModel" "must" "Z", Cond.fieldLink RX3 32 "RentHarmonyModel" "which" "I", Cond.methodLink RX3 53 yX3_bi, Cond.instanceMethod yX3_bi]
def wsX3_give_r2 : List Cond := [Cond.selects RX3 yX3_bi yX3_bi, Cond.code yX3_bi cX3_bi 3 (some .int), Cond.fieldLink RX3 9 "RentHarmonyModel" "bids" "[I"]
def wsX3_give : List Cond := .code yX3_give cX3_give 1 (some .int) :: ((wsX3_give_r1 ++ wsX3_give_r2) ++ wsX30)
def wsX3_of : List Cond := .code yX3_of cX3_of 3 (some .int) :: ([.fieldLink RX3 13 "RentHarmonyModel" "rooms" "[I", .fieldLink RX3 16 "RentHarmonyModel" "early" "[I", .methodLink RX3 53 yX3_bi, .instanceMethod yX3_bi, .selects RX3 yX3_bi yX3_bi, .initialized RX3, .code yX3_bi cX3_bi 3 (some .int), .fieldLink RX3 9 "RentHarmonyModel" "bids" "[I"] ++ wsX30)
def wsX3_isRaised : List Cond := .code yX3_isRaised cX3_isRaised 4 (some .boolean) :: ([.fieldLink RX3 38 "RentHarmonyModel" "lodgers" "I", .fieldLink RX3 16 "RentHarmonyModel" "early" "[I", .methodLink RX3 84 yX3_of, .instanceMethod yX3_of, .selects RX3 yX3_of yX3_of, .initialized RX3, .code yX3_of cX3_of 3 (some .int), .fieldLink RX3 13 "RentHarmonyModel" "rooms" "[I", .methodLink RX3 53 yX3_bi, .instanceMethod yX3_bi, .selects RX3 yX3_bi yX3_bi, .code yX3_bi cX3_bi 3 (some .int), .fieldLink RX3 9 "RentHarmonyModel" "bids" "[I"] ++ wsX30)
def wsX3_settle_r1 : List Cond := [Cond.fieldLink RX3 64 "RentHarmonyModel" "worth" "I", Cond.fieldLink RX3 57 "RentHarmonyModel" "rent" "I", Cond.fieldLink RX3 38 "RentHarmonyModel" "lodgers" "I", Cond.fieldLink RX3 16 "RentHarmonyModel" "early" "[I", Cond.fieldLink RX3 19 "RentHarmonyModel" "rebates" "[I", Cond.fieldLink RX3 95 "RentHarmonyModel" "pot" "I", Cond.methodLink RX3 87 yX3_give, Cond.instanceMethod yX3_give, Cond.selects RX3 yX3_give yX3_give, Cond.initialized RX3, Cond.code yX3_give cX3_give 1 (some .int), Cond.fieldLink RX3 67 "RentHarmonyModel" "ways" "I", Cond.methodLink RX3 80 yX3_tryFrom, Cond.instanceMethod yX3_tryFrom, Cond.selects RX3 yX3_tryFrom yX3_tryFrom, Cond.code yX3_tryFrom cX3_tryFrom 4 none, Cond.fieldLink RX3 22 "RentHarmonyModel" "tried" "[I", Cond.fieldLink RX3 13 "RentHarmonyModel" "rooms" "[I", Cond.methodLink RX3 70 arraycopyName, Cond.native arraycopyName, Cond.static arraycopyName, Cond.initialized "java/lang/System", Cond.fieldLink RX3 25 "RentHarmonyModel" "free" "I", Cond.methodLink RX3 76 yX3_isTaken]
def wsX3_settle_r2 : List Cond := [Cond.instanceMethod yX3_isTaken, Cond.selects RX3 yX3_isTaken yX3_isTaken, Cond.code yX3_isTaken cX3_isTaken 4 (some .boolean), Cond.fieldLink RX3 29 "RentHarmonyModel" "who" "I", Cond.fieldLink RX3 60 "RentHarmonyModel" "must" "Z", Cond.fieldLink RX3 32 "RentHarmonyModel" "which" "I", Cond.methodLink RX3 53 yX3_bi, Cond.instanceMethod yX3_bi, Cond.selects RX3 yX3_bi yX3_bi, Cond.code yX3_bi cX3_bi 3 (some .int), Cond.fieldLink RX3 9 "RentHarmonyModel" "bids" "[I", Cond.methodLink RX3 91 yX3_isRaised, Cond.instanceMethod yX3_isRaised, Cond.selects RX3 yX3_isRaised yX3_isRaised, Cond.code yX3_isRaised cX3_isRaised 4 (some .boolean), Cond.methodLink RX3 84 yX3_of, Cond.instanceMethod yX3_of, Cond.selects RX3 yX3_of yX3_of, Cond.code yX3_of cX3_of 3 (some .int)]
def wsX3_settle : List Cond := .code yX3_settle cX3_settle 4 none :: ((wsX3_settle_r1 ++ wsX3_settle_r2) ++ wsX30)
def wsX3_pays : List Cond := .code yX3_pays cX3_pays 2 (some .int) :: ([.fieldLink RX3 13 "RentHarmonyModel" "rooms" "[I", .fieldLink RX3 19 "RentHarmonyModel" "rebates" "[I", .methodLink RX3 53 yX3_bi, .instanceMethod yX3_bi, .selects RX3 yX3_bi yX3_bi, .initialized RX3, .code yX3_bi cX3_bi 3 (some .int), .fieldLink RX3 9 "RentHarmonyModel" "bids" "[I"] ++ wsX30)
def wsX3_isEnvy : List Cond := .code yX3_isEnvy cX3_isEnvy 3 (some .boolean) :: ([.fieldLink RX3 13 "RentHarmonyModel" "rooms" "[I", .methodLink RX3 53 yX3_bi, .instanceMethod yX3_bi, .selects RX3 yX3_bi yX3_bi, .initialized RX3, .code yX3_bi cX3_bi 3 (some .int), .fieldLink RX3 9 "RentHarmonyModel" "bids" "[I"] ++ wsX30)
def wsX3_leave_r1 : List Cond := [Cond.fieldLink RX3 35 "RentHarmonyModel" "thrown" "I", Cond.fieldLink RX3 13 "RentHarmonyModel" "rooms" "[I", Cond.fieldLink RX3 38 "RentHarmonyModel" "lodgers" "I", Cond.fieldLink RX3 9 "RentHarmonyModel" "bids" "[I", Cond.methodLink RX3 49 yX3_isOne, Cond.instanceMethod yX3_isOne, Cond.selects RX3 yX3_isOne yX3_isOne, Cond.initialized RX3, Cond.code yX3_isOne cX3_isOne 2 (some .boolean), Cond.methodLink RX3 41 yX3_isIn, Cond.static yX3_isIn, Cond.code yX3_isIn cX3_isIn 3 (some .boolean), Cond.methodLink RX3 45 yX3_fail, Cond.instanceMethod yX3_fail, Cond.selects RX3 yX3_fail yX3_fail, Cond.code yX3_fail cX3_fail 2 (some .int), Cond.methodLink RX3 98 yX3_settle, Cond.instanceMethod yX3_settle, Cond.selects RX3 yX3_settle yX3_settle, Cond.code yX3_settle cX3_settle 4 none, Cond.fieldLink RX3 64 "RentHarmonyModel" "worth" "I", Cond.fieldLink RX3 57 "RentHarmonyModel" "rent" "I", Cond.fieldLink RX3 16 "RentHarmonyModel" "early" "[I", Cond.fieldLink RX3 19 "RentHarmonyModel" "rebates" "[I"]
def wsX3_leave_r2 : List Cond := [Cond.fieldLink RX3 95 "RentHarmonyModel" "pot" "I", Cond.methodLink RX3 87 yX3_give, Cond.instanceMethod yX3_give, Cond.selects RX3 yX3_give yX3_give, Cond.code yX3_give cX3_give 1 (some .int), Cond.fieldLink RX3 67 "RentHarmonyModel" "ways" "I", Cond.methodLink RX3 80 yX3_tryFrom, Cond.instanceMethod yX3_tryFrom, Cond.selects RX3 yX3_tryFrom yX3_tryFrom, Cond.code yX3_tryFrom cX3_tryFrom 4 none, Cond.fieldLink RX3 22 "RentHarmonyModel" "tried" "[I", Cond.methodLink RX3 70 arraycopyName, Cond.native arraycopyName, Cond.static arraycopyName, Cond.initialized "java/lang/System", Cond.fieldLink RX3 25 "RentHarmonyModel" "free" "I", Cond.methodLink RX3 76 yX3_isTaken, Cond.instanceMethod yX3_isTaken, Cond.selects RX3 yX3_isTaken yX3_isTaken, Cond.code yX3_isTaken cX3_isTaken 4 (some .boolean), Cond.fieldLink RX3 29 "RentHarmonyModel" "who" "I", Cond.fieldLink RX3 60 "RentHarmonyModel" "must" "Z", Cond.fieldLink RX3 32 "RentHarmonyModel" "which" "I", Cond.methodLink RX3 53 yX3_bi]
def wsX3_leave_r3 : List Cond := [Cond.instanceMethod yX3_bi, Cond.selects RX3 yX3_bi yX3_bi, Cond.code yX3_bi cX3_bi 3 (some .int), Cond.methodLink RX3 91 yX3_isRaised, Cond.instanceMethod yX3_isRaised, Cond.selects RX3 yX3_isRaised yX3_isRaised, Cond.code yX3_isRaised cX3_isRaised 4 (some .boolean), Cond.methodLink RX3 84 yX3_of, Cond.instanceMethod yX3_of, Cond.selects RX3 yX3_of yX3_of, Cond.code yX3_of cX3_of 3 (some .int)]
def wsX3_leave : List Cond := .code yX3_leave cX3_leave 5 (some .int) :: ((wsX3_leave_r1 ++ (wsX3_leave_r2 ++ wsX3_leave_r3)) ++ wsX30)
def wsX3_toldOf : List Cond := .code yX3_toldOf cX3_toldOf 5 (some .int) :: ([.fieldLink RX3 13 "RentHarmonyModel" "rooms" "[I", .fieldLink RX3 19 "RentHarmonyModel" "rebates" "[I", .fieldLink RX3 16 "RentHarmonyModel" "early" "[I", .fieldLink RX3 38 "RentHarmonyModel" "lodgers" "I", .methodLink RX3 53 yX3_bi, .instanceMethod yX3_bi, .selects RX3 yX3_bi yX3_bi, .initialized RX3, .code yX3_bi cX3_bi 3 (some .int), .fieldLink RX3 9 "RentHarmonyModel" "bids" "[I", .methodLink RX3 101 yX3_pays, .instanceMethod yX3_pays, .selects RX3 yX3_pays yX3_pays, .code yX3_pays cX3_pays 2 (some .int), .methodLink RX3 104 yX3_isEnvy, .instanceMethod yX3_isEnvy, .selects RX3 yX3_isEnvy yX3_isEnvy, .code yX3_isEnvy cX3_isEnvy 3 (some .boolean)] ++ wsX30)
def wsX3_told_r1 : List Cond := [Cond.fieldLink RX3 35 "RentHarmonyModel" "thrown" "I", Cond.methodLink RX3 49 yX3_isOne, Cond.instanceMethod yX3_isOne, Cond.selects RX3 yX3_isOne yX3_isOne, Cond.initialized RX3, Cond.code yX3_isOne cX3_isOne 2 (some .boolean), Cond.fieldLink RX3 38 "RentHarmonyModel" "lodgers" "I", Cond.methodLink RX3 41 yX3_isIn, Cond.static yX3_isIn, Cond.code yX3_isIn cX3_isIn 3 (some .boolean), Cond.methodLink RX3 45 yX3_fail, Cond.instanceMethod yX3_fail, Cond.selects RX3 yX3_fail yX3_fail, Cond.code yX3_fail cX3_fail 2 (some .int), Cond.methodLink RX3 98 yX3_settle, Cond.instanceMethod yX3_settle, Cond.selects RX3 yX3_settle yX3_settle, Cond.code yX3_settle cX3_settle 4 none, Cond.fieldLink RX3 64 "RentHarmonyModel" "worth" "I", Cond.fieldLink RX3 57 "RentHarmonyModel" "rent" "I", Cond.fieldLink RX3 16 "RentHarmonyModel" "early" "[I", Cond.fieldLink RX3 19 "RentHarmonyModel" "rebates" "[I", Cond.fieldLink RX3 95 "RentHarmonyModel" "pot" "I", Cond.methodLink RX3 87 yX3_give]
def wsX3_told_r2 : List Cond := [Cond.instanceMethod yX3_give, Cond.selects RX3 yX3_give yX3_give, Cond.code yX3_give cX3_give 1 (some .int), Cond.fieldLink RX3 67 "RentHarmonyModel" "ways" "I", Cond.methodLink RX3 80 yX3_tryFrom, Cond.instanceMethod yX3_tryFrom, Cond.selects RX3 yX3_tryFrom yX3_tryFrom, Cond.code yX3_tryFrom cX3_tryFrom 4 none, Cond.fieldLink RX3 22 "RentHarmonyModel" "tried" "[I", Cond.fieldLink RX3 13 "RentHarmonyModel" "rooms" "[I", Cond.methodLink RX3 70 arraycopyName, Cond.native arraycopyName, Cond.static arraycopyName, Cond.initialized "java/lang/System", Cond.fieldLink RX3 25 "RentHarmonyModel" "free" "I", Cond.methodLink RX3 76 yX3_isTaken, Cond.instanceMethod yX3_isTaken, Cond.selects RX3 yX3_isTaken yX3_isTaken, Cond.code yX3_isTaken cX3_isTaken 4 (some .boolean), Cond.fieldLink RX3 29 "RentHarmonyModel" "who" "I", Cond.fieldLink RX3 60 "RentHarmonyModel" "must" "Z", Cond.fieldLink RX3 32 "RentHarmonyModel" "which" "I", Cond.methodLink RX3 53 yX3_bi, Cond.instanceMethod yX3_bi]
def wsX3_told_r3 : List Cond := [Cond.selects RX3 yX3_bi yX3_bi, Cond.code yX3_bi cX3_bi 3 (some .int), Cond.fieldLink RX3 9 "RentHarmonyModel" "bids" "[I", Cond.methodLink RX3 91 yX3_isRaised, Cond.instanceMethod yX3_isRaised, Cond.selects RX3 yX3_isRaised yX3_isRaised, Cond.code yX3_isRaised cX3_isRaised 4 (some .boolean), Cond.methodLink RX3 84 yX3_of, Cond.instanceMethod yX3_of, Cond.selects RX3 yX3_of yX3_of, Cond.code yX3_of cX3_of 3 (some .int), Cond.methodLink RX3 107 yX3_toldOf, Cond.instanceMethod yX3_toldOf, Cond.selects RX3 yX3_toldOf yX3_toldOf, Cond.code yX3_toldOf cX3_toldOf 5 (some .int), Cond.methodLink RX3 101 yX3_pays, Cond.instanceMethod yX3_pays, Cond.selects RX3 yX3_pays yX3_pays, Cond.code yX3_pays cX3_pays 2 (some .int), Cond.methodLink RX3 104 yX3_isEnvy, Cond.instanceMethod yX3_isEnvy, Cond.selects RX3 yX3_isEnvy yX3_isEnvy, Cond.code yX3_isEnvy cX3_isEnvy 3 (some .boolean)]
def wsX3_told : List Cond := .code yX3_told cX3_told 3 (some .int) :: ((wsX3_told_r1 ++ (wsX3_told_r2 ++ wsX3_told_r3)) ++ wsX30)
def wsX3_offer : List Cond := .code yX3_offer cX3_offer 3 (some .int) :: ([.fieldLink RX3 35 "RentHarmonyModel" "thrown" "I", .methodLink RX3 49 yX3_isOne, .instanceMethod yX3_isOne, .selects RX3 yX3_isOne yX3_isOne, .initialized RX3, .code yX3_isOne cX3_isOne 2 (some .boolean), .fieldLink RX3 38 "RentHarmonyModel" "lodgers" "I", .methodLink RX3 41 yX3_isIn, .static yX3_isIn, .code yX3_isIn cX3_isIn 3 (some .boolean), .methodLink RX3 53 yX3_bi, .instanceMethod yX3_bi, .selects RX3 yX3_bi yX3_bi, .code yX3_bi cX3_bi 3 (some .int), .fieldLink RX3 9 "RentHarmonyModel" "bids" "[I", .methodLink RX3 45 yX3_fail, .instanceMethod yX3_fail, .selects RX3 yX3_fail yX3_fail, .code yX3_fail cX3_fail 2 (some .int)] ++ wsX30)
def wsX3_counted_r1 : List Cond := [Cond.fieldLink RX3 38 "RentHarmonyModel" "lodgers" "I", Cond.fieldLink RX3 57 "RentHarmonyModel" "rent" "I", Cond.fieldLink RX3 64 "RentHarmonyModel" "worth" "I", Cond.fieldLink RX3 19 "RentHarmonyModel" "rebates" "[I", Cond.fieldLink RX3 95 "RentHarmonyModel" "pot" "I", Cond.fieldLink RX3 67 "RentHarmonyModel" "ways" "I", Cond.methodLink RX3 98 yX3_settle, Cond.instanceMethod yX3_settle, Cond.selects RX3 yX3_settle yX3_settle, Cond.initialized RX3, Cond.code yX3_settle cX3_settle 4 none, Cond.fieldLink RX3 16 "RentHarmonyModel" "early" "[I", Cond.methodLink RX3 87 yX3_give, Cond.instanceMethod yX3_give, Cond.selects RX3 yX3_give yX3_give, Cond.code yX3_give cX3_give 1 (some .int), Cond.methodLink RX3 80 yX3_tryFrom, Cond.instanceMethod yX3_tryFrom, Cond.selects RX3 yX3_tryFrom yX3_tryFrom, Cond.code yX3_tryFrom cX3_tryFrom 4 none, Cond.fieldLink RX3 22 "RentHarmonyModel" "tried" "[I", Cond.fieldLink RX3 13 "RentHarmonyModel" "rooms" "[I", Cond.methodLink RX3 70 arraycopyName, Cond.native arraycopyName]
def wsX3_counted_r2 : List Cond := [Cond.static arraycopyName, Cond.initialized "java/lang/System", Cond.fieldLink RX3 25 "RentHarmonyModel" "free" "I", Cond.methodLink RX3 76 yX3_isTaken, Cond.instanceMethod yX3_isTaken, Cond.selects RX3 yX3_isTaken yX3_isTaken, Cond.code yX3_isTaken cX3_isTaken 4 (some .boolean), Cond.fieldLink RX3 29 "RentHarmonyModel" "who" "I", Cond.fieldLink RX3 60 "RentHarmonyModel" "must" "Z", Cond.fieldLink RX3 32 "RentHarmonyModel" "which" "I", Cond.methodLink RX3 53 yX3_bi, Cond.instanceMethod yX3_bi, Cond.selects RX3 yX3_bi yX3_bi, Cond.code yX3_bi cX3_bi 3 (some .int), Cond.fieldLink RX3 9 "RentHarmonyModel" "bids" "[I", Cond.methodLink RX3 91 yX3_isRaised, Cond.instanceMethod yX3_isRaised, Cond.selects RX3 yX3_isRaised yX3_isRaised, Cond.code yX3_isRaised cX3_isRaised 4 (some .boolean), Cond.methodLink RX3 84 yX3_of, Cond.instanceMethod yX3_of, Cond.selects RX3 yX3_of yX3_of, Cond.code yX3_of cX3_of 3 (some .int), Cond.methodLink RX3 101 yX3_pays]
def wsX3_counted_r3 : List Cond := [Cond.instanceMethod yX3_pays, Cond.selects RX3 yX3_pays yX3_pays, Cond.code yX3_pays cX3_pays 2 (some .int)]
def wsX3_counted : List Cond := .code yX3_counted cX3_counted 4 (some .int) :: ((wsX3_counted_r1 ++ (wsX3_counted_r2 ++ wsX3_counted_r3)) ++ wsX30)
def wsX3_count_r1 : List Cond := [Cond.fieldLink RX3 35 "RentHarmonyModel" "thrown" "I", Cond.methodLink RX3 41 yX3_isIn, Cond.static yX3_isIn, Cond.initialized RX3, Cond.code yX3_isIn cX3_isIn 3 (some .boolean), Cond.methodLink RX3 110 yX3_counted, Cond.instanceMethod yX3_counted, Cond.selects RX3 yX3_counted yX3_counted, Cond.code yX3_counted cX3_counted 4 (some .int), Cond.fieldLink RX3 38 "RentHarmonyModel" "lodgers" "I", Cond.fieldLink RX3 57 "RentHarmonyModel" "rent" "I", Cond.fieldLink RX3 64 "RentHarmonyModel" "worth" "I", Cond.fieldLink RX3 19 "RentHarmonyModel" "rebates" "[I", Cond.fieldLink RX3 95 "RentHarmonyModel" "pot" "I", Cond.fieldLink RX3 67 "RentHarmonyModel" "ways" "I", Cond.methodLink RX3 98 yX3_settle, Cond.instanceMethod yX3_settle, Cond.selects RX3 yX3_settle yX3_settle, Cond.code yX3_settle cX3_settle 4 none, Cond.fieldLink RX3 16 "RentHarmonyModel" "early" "[I", Cond.methodLink RX3 87 yX3_give, Cond.instanceMethod yX3_give, Cond.selects RX3 yX3_give yX3_give, Cond.code yX3_give cX3_give 1 (some .int)]
def wsX3_count_r2 : List Cond := [Cond.methodLink RX3 80 yX3_tryFrom, Cond.instanceMethod yX3_tryFrom, Cond.selects RX3 yX3_tryFrom yX3_tryFrom, Cond.code yX3_tryFrom cX3_tryFrom 4 none, Cond.fieldLink RX3 22 "RentHarmonyModel" "tried" "[I", Cond.fieldLink RX3 13 "RentHarmonyModel" "rooms" "[I", Cond.methodLink RX3 70 arraycopyName, Cond.native arraycopyName, Cond.static arraycopyName, Cond.initialized "java/lang/System", Cond.fieldLink RX3 25 "RentHarmonyModel" "free" "I", Cond.methodLink RX3 76 yX3_isTaken, Cond.instanceMethod yX3_isTaken, Cond.selects RX3 yX3_isTaken yX3_isTaken, Cond.code yX3_isTaken cX3_isTaken 4 (some .boolean), Cond.fieldLink RX3 29 "RentHarmonyModel" "who" "I", Cond.fieldLink RX3 60 "RentHarmonyModel" "must" "Z", Cond.fieldLink RX3 32 "RentHarmonyModel" "which" "I", Cond.methodLink RX3 53 yX3_bi, Cond.instanceMethod yX3_bi, Cond.selects RX3 yX3_bi yX3_bi, Cond.code yX3_bi cX3_bi 3 (some .int), Cond.fieldLink RX3 9 "RentHarmonyModel" "bids" "[I", Cond.methodLink RX3 91 yX3_isRaised]
def wsX3_count_r3 : List Cond := [Cond.instanceMethod yX3_isRaised, Cond.selects RX3 yX3_isRaised yX3_isRaised, Cond.code yX3_isRaised cX3_isRaised 4 (some .boolean), Cond.methodLink RX3 84 yX3_of, Cond.instanceMethod yX3_of, Cond.selects RX3 yX3_of yX3_of, Cond.code yX3_of cX3_of 3 (some .int), Cond.methodLink RX3 101 yX3_pays, Cond.instanceMethod yX3_pays, Cond.selects RX3 yX3_pays yX3_pays, Cond.code yX3_pays cX3_pays 2 (some .int), Cond.methodLink RX3 45 yX3_fail, Cond.instanceMethod yX3_fail, Cond.selects RX3 yX3_fail yX3_fail, Cond.code yX3_fail cX3_fail 2 (some .int)]
def wsX3_count : List Cond := .code yX3_count cX3_count 2 (some .int) :: ((wsX3_count_r1 ++ (wsX3_count_r2 ++ wsX3_count_r3)) ++ wsX30)
def wsX3_envies_r1 : List Cond := [Cond.fieldLink RX3 35 "RentHarmonyModel" "thrown" "I", Cond.methodLink RX3 49 yX3_isOne, Cond.instanceMethod yX3_isOne, Cond.selects RX3 yX3_isOne yX3_isOne, Cond.initialized RX3, Cond.code yX3_isOne cX3_isOne 2 (some .boolean), Cond.fieldLink RX3 38 "RentHarmonyModel" "lodgers" "I", Cond.methodLink RX3 41 yX3_isIn, Cond.static yX3_isIn, Cond.code yX3_isIn cX3_isIn 3 (some .boolean), Cond.methodLink RX3 87 yX3_give, Cond.instanceMethod yX3_give, Cond.selects RX3 yX3_give yX3_give, Cond.code yX3_give cX3_give 1 (some .int), Cond.fieldLink RX3 64 "RentHarmonyModel" "worth" "I", Cond.fieldLink RX3 67 "RentHarmonyModel" "ways" "I", Cond.methodLink RX3 80 yX3_tryFrom, Cond.instanceMethod yX3_tryFrom, Cond.selects RX3 yX3_tryFrom yX3_tryFrom, Cond.code yX3_tryFrom cX3_tryFrom 4 none, Cond.fieldLink RX3 22 "RentHarmonyModel" "tried" "[I", Cond.fieldLink RX3 13 "RentHarmonyModel" "rooms" "[I", Cond.methodLink RX3 70 arraycopyName, Cond.native arraycopyName]
def wsX3_envies_r2 : List Cond := [Cond.static arraycopyName, Cond.initialized "java/lang/System", Cond.fieldLink RX3 25 "RentHarmonyModel" "free" "I", Cond.methodLink RX3 76 yX3_isTaken, Cond.instanceMethod yX3_isTaken, Cond.selects RX3 yX3_isTaken yX3_isTaken, Cond.code yX3_isTaken cX3_isTaken 4 (some .boolean), Cond.fieldLink RX3 29 "RentHarmonyModel" "who" "I", Cond.fieldLink RX3 60 "RentHarmonyModel" "must" "Z", Cond.fieldLink RX3 32 "RentHarmonyModel" "which" "I", Cond.methodLink RX3 53 yX3_bi, Cond.instanceMethod yX3_bi, Cond.selects RX3 yX3_bi yX3_bi, Cond.code yX3_bi cX3_bi 3 (some .int), Cond.fieldLink RX3 9 "RentHarmonyModel" "bids" "[I", Cond.methodLink RX3 104 yX3_isEnvy, Cond.instanceMethod yX3_isEnvy, Cond.selects RX3 yX3_isEnvy yX3_isEnvy, Cond.code yX3_isEnvy cX3_isEnvy 3 (some .boolean)]
def wsX3_envies : List Cond := .code yX3_envies cX3_envies 3 (some .boolean) :: ((wsX3_envies_r1 ++ wsX3_envies_r2) ++ wsX30)
def wsX3_gap_r1 : List Cond := [Cond.fieldLink RX3 35 "RentHarmonyModel" "thrown" "I", Cond.fieldLink RX3 19 "RentHarmonyModel" "rebates" "[I", Cond.fieldLink RX3 13 "RentHarmonyModel" "rooms" "[I", Cond.methodLink RX3 49 yX3_isOne, Cond.instanceMethod yX3_isOne, Cond.selects RX3 yX3_isOne yX3_isOne, Cond.initialized RX3, Cond.code yX3_isOne cX3_isOne 2 (some .boolean), Cond.fieldLink RX3 38 "RentHarmonyModel" "lodgers" "I", Cond.methodLink RX3 41 yX3_isIn, Cond.static yX3_isIn, Cond.code yX3_isIn cX3_isIn 3 (some .boolean), Cond.methodLink RX3 45 yX3_fail, Cond.instanceMethod yX3_fail, Cond.selects RX3 yX3_fail yX3_fail, Cond.code yX3_fail cX3_fail 2 (some .int), Cond.methodLink RX3 98 yX3_settle, Cond.instanceMethod yX3_settle, Cond.selects RX3 yX3_settle yX3_settle, Cond.code yX3_settle cX3_settle 4 none, Cond.fieldLink RX3 64 "RentHarmonyModel" "worth" "I", Cond.fieldLink RX3 57 "RentHarmonyModel" "rent" "I", Cond.fieldLink RX3 16 "RentHarmonyModel" "early" "[I", Cond.fieldLink RX3 95 "RentHarmonyModel" "pot" "I"]
def wsX3_gap_r2 : List Cond := [Cond.methodLink RX3 87 yX3_give, Cond.instanceMethod yX3_give, Cond.selects RX3 yX3_give yX3_give, Cond.code yX3_give cX3_give 1 (some .int), Cond.fieldLink RX3 67 "RentHarmonyModel" "ways" "I", Cond.methodLink RX3 80 yX3_tryFrom, Cond.instanceMethod yX3_tryFrom, Cond.selects RX3 yX3_tryFrom yX3_tryFrom, Cond.code yX3_tryFrom cX3_tryFrom 4 none, Cond.fieldLink RX3 22 "RentHarmonyModel" "tried" "[I", Cond.methodLink RX3 70 arraycopyName, Cond.native arraycopyName, Cond.static arraycopyName, Cond.initialized "java/lang/System", Cond.fieldLink RX3 25 "RentHarmonyModel" "free" "I", Cond.methodLink RX3 76 yX3_isTaken, Cond.instanceMethod yX3_isTaken, Cond.selects RX3 yX3_isTaken yX3_isTaken, Cond.code yX3_isTaken cX3_isTaken 4 (some .boolean), Cond.fieldLink RX3 29 "RentHarmonyModel" "who" "I", Cond.fieldLink RX3 60 "RentHarmonyModel" "must" "Z", Cond.fieldLink RX3 32 "RentHarmonyModel" "which" "I", Cond.methodLink RX3 53 yX3_bi, Cond.instanceMethod yX3_bi]
def wsX3_gap_r3 : List Cond := [Cond.selects RX3 yX3_bi yX3_bi, Cond.code yX3_bi cX3_bi 3 (some .int), Cond.fieldLink RX3 9 "RentHarmonyModel" "bids" "[I", Cond.methodLink RX3 91 yX3_isRaised, Cond.instanceMethod yX3_isRaised, Cond.selects RX3 yX3_isRaised yX3_isRaised, Cond.code yX3_isRaised cX3_isRaised 4 (some .boolean), Cond.methodLink RX3 84 yX3_of, Cond.instanceMethod yX3_of, Cond.selects RX3 yX3_of yX3_of, Cond.code yX3_of cX3_of 3 (some .int), Cond.methodLink RX3 101 yX3_pays, Cond.instanceMethod yX3_pays, Cond.selects RX3 yX3_pays yX3_pays, Cond.code yX3_pays cX3_pays 2 (some .int)]
def wsX3_gap : List Cond := .code yX3_gap cX3_gap 3 (some .int) :: ((wsX3_gap_r1 ++ (wsX3_gap_r2 ++ wsX3_gap_r3)) ++ wsX30)
def wsX3_chainFrom : List Cond := .code yX3_chainFrom cX3_chainFrom 4 (some .int) :: ([.fieldLink RX3 38 "RentHarmonyModel" "lodgers" "I", .methodLink RX3 116 Lib.Math.max.name, .static Lib.Math.max.name, .initialized "java/lang/Math", .code Lib.Math.max.name Lib.Math.max.code 2 (some .int), .methodLink RX3 104 yX3_isEnvy, .instanceMethod yX3_isEnvy, .selects RX3 yX3_isEnvy yX3_isEnvy, .initialized RX3, .code yX3_isEnvy cX3_isEnvy 3 (some .boolean), .fieldLink RX3 13 "RentHarmonyModel" "rooms" "[I", .methodLink RX3 53 yX3_bi, .instanceMethod yX3_bi, .selects RX3 yX3_bi yX3_bi, .code yX3_bi cX3_bi 3 (some .int), .fieldLink RX3 9 "RentHarmonyModel" "bids" "[I", .methodLink RX3 113 yX3_chainFrom, .instanceMethod yX3_chainFrom, .selects RX3 yX3_chainFrom yX3_chainFrom] ++ wsX30)
def wsX3_chain_r1 : List Cond := [Cond.fieldLink RX3 35 "RentHarmonyModel" "thrown" "I", Cond.fieldLink RX3 38 "RentHarmonyModel" "lodgers" "I", Cond.methodLink RX3 116 Lib.Math.max.name, Cond.static Lib.Math.max.name, Cond.initialized "java/lang/Math", Cond.code Lib.Math.max.name Lib.Math.max.code 2 (some .int), Cond.methodLink RX3 87 yX3_give, Cond.instanceMethod yX3_give, Cond.selects RX3 yX3_give yX3_give, Cond.initialized RX3, Cond.code yX3_give cX3_give 1 (some .int), Cond.fieldLink RX3 64 "RentHarmonyModel" "worth" "I", Cond.fieldLink RX3 67 "RentHarmonyModel" "ways" "I", Cond.methodLink RX3 80 yX3_tryFrom, Cond.instanceMethod yX3_tryFrom, Cond.selects RX3 yX3_tryFrom yX3_tryFrom, Cond.code yX3_tryFrom cX3_tryFrom 4 none, Cond.fieldLink RX3 22 "RentHarmonyModel" "tried" "[I", Cond.fieldLink RX3 13 "RentHarmonyModel" "rooms" "[I", Cond.methodLink RX3 70 arraycopyName, Cond.native arraycopyName, Cond.static arraycopyName, Cond.initialized "java/lang/System", Cond.fieldLink RX3 25 "RentHarmonyModel" "free" "I"]
def wsX3_chain_r2 : List Cond := [Cond.methodLink RX3 76 yX3_isTaken, Cond.instanceMethod yX3_isTaken, Cond.selects RX3 yX3_isTaken yX3_isTaken, Cond.code yX3_isTaken cX3_isTaken 4 (some .boolean), Cond.fieldLink RX3 29 "RentHarmonyModel" "who" "I", Cond.fieldLink RX3 60 "RentHarmonyModel" "must" "Z", Cond.fieldLink RX3 32 "RentHarmonyModel" "which" "I", Cond.methodLink RX3 53 yX3_bi, Cond.instanceMethod yX3_bi, Cond.selects RX3 yX3_bi yX3_bi, Cond.code yX3_bi cX3_bi 3 (some .int), Cond.fieldLink RX3 9 "RentHarmonyModel" "bids" "[I", Cond.methodLink RX3 113 yX3_chainFrom, Cond.instanceMethod yX3_chainFrom, Cond.selects RX3 yX3_chainFrom yX3_chainFrom, Cond.code yX3_chainFrom cX3_chainFrom 4 (some .int), Cond.methodLink RX3 104 yX3_isEnvy, Cond.instanceMethod yX3_isEnvy, Cond.selects RX3 yX3_isEnvy yX3_isEnvy, Cond.code yX3_isEnvy cX3_isEnvy 3 (some .boolean)]
def wsX3_chain : List Cond := .code yX3_chain cX3_chain 3 (some .int) :: ((wsX3_chain_r1 ++ wsX3_chain_r2) ++ wsX30)
def wsX3_roomWith_r1 : List Cond := [Cond.fieldLink RX3 9 "RentHarmonyModel" "bids" "[I", Cond.fieldLink RX3 13 "RentHarmonyModel" "rooms" "[I", Cond.methodLink RX3 53 yX3_bi, Cond.instanceMethod yX3_bi, Cond.selects RX3 yX3_bi yX3_bi, Cond.initialized RX3, Cond.code yX3_bi cX3_bi 3 (some .int), Cond.methodLink RX3 87 yX3_give, Cond.instanceMethod yX3_give, Cond.selects RX3 yX3_give yX3_give, Cond.code yX3_give cX3_give 1 (some .int), Cond.fieldLink RX3 64 "RentHarmonyModel" "worth" "I", Cond.fieldLink RX3 67 "RentHarmonyModel" "ways" "I", Cond.methodLink RX3 80 yX3_tryFrom, Cond.instanceMethod yX3_tryFrom, Cond.selects RX3 yX3_tryFrom yX3_tryFrom, Cond.code yX3_tryFrom cX3_tryFrom 4 none, Cond.fieldLink RX3 38 "RentHarmonyModel" "lodgers" "I", Cond.fieldLink RX3 22 "RentHarmonyModel" "tried" "[I", Cond.methodLink RX3 70 arraycopyName, Cond.native arraycopyName, Cond.static arraycopyName, Cond.initialized "java/lang/System", Cond.fieldLink RX3 25 "RentHarmonyModel" "free" "I"]
def wsX3_roomWith_r2 : List Cond := [Cond.methodLink RX3 76 yX3_isTaken, Cond.instanceMethod yX3_isTaken, Cond.selects RX3 yX3_isTaken yX3_isTaken, Cond.code yX3_isTaken cX3_isTaken 4 (some .boolean), Cond.fieldLink RX3 29 "RentHarmonyModel" "who" "I", Cond.fieldLink RX3 60 "RentHarmonyModel" "must" "Z", Cond.fieldLink RX3 32 "RentHarmonyModel" "which" "I"]
def wsX3_roomWith : List Cond := .code yX3_roomWith cX3_roomWith 5 (some .int) :: ((wsX3_roomWith_r1 ++ wsX3_roomWith_r2) ++ wsX30)
def wsX3_would_r1 : List Cond := [Cond.fieldLink RX3 35 "RentHarmonyModel" "thrown" "I", Cond.methodLink RX3 49 yX3_isOne, Cond.instanceMethod yX3_isOne, Cond.selects RX3 yX3_isOne yX3_isOne, Cond.initialized RX3, Cond.code yX3_isOne cX3_isOne 2 (some .boolean), Cond.fieldLink RX3 38 "RentHarmonyModel" "lodgers" "I", Cond.methodLink RX3 41 yX3_isIn, Cond.static yX3_isIn, Cond.code yX3_isIn cX3_isIn 3 (some .boolean), Cond.methodLink RX3 45 yX3_fail, Cond.instanceMethod yX3_fail, Cond.selects RX3 yX3_fail yX3_fail, Cond.code yX3_fail cX3_fail 2 (some .int), Cond.methodLink RX3 121 yX3_roomWith, Cond.instanceMethod yX3_roomWith, Cond.selects RX3 yX3_roomWith yX3_roomWith, Cond.code yX3_roomWith cX3_roomWith 5 (some .int), Cond.fieldLink RX3 9 "RentHarmonyModel" "bids" "[I", Cond.fieldLink RX3 13 "RentHarmonyModel" "rooms" "[I", Cond.methodLink RX3 53 yX3_bi, Cond.instanceMethod yX3_bi, Cond.selects RX3 yX3_bi yX3_bi, Cond.code yX3_bi cX3_bi 3 (some .int)]
def wsX3_would_r2 : List Cond := [Cond.methodLink RX3 87 yX3_give, Cond.instanceMethod yX3_give, Cond.selects RX3 yX3_give yX3_give, Cond.code yX3_give cX3_give 1 (some .int), Cond.fieldLink RX3 64 "RentHarmonyModel" "worth" "I", Cond.fieldLink RX3 67 "RentHarmonyModel" "ways" "I", Cond.methodLink RX3 80 yX3_tryFrom, Cond.instanceMethod yX3_tryFrom, Cond.selects RX3 yX3_tryFrom yX3_tryFrom, Cond.code yX3_tryFrom cX3_tryFrom 4 none, Cond.fieldLink RX3 22 "RentHarmonyModel" "tried" "[I", Cond.methodLink RX3 70 arraycopyName, Cond.native arraycopyName, Cond.static arraycopyName, Cond.initialized "java/lang/System", Cond.fieldLink RX3 25 "RentHarmonyModel" "free" "I", Cond.methodLink RX3 76 yX3_isTaken, Cond.instanceMethod yX3_isTaken, Cond.selects RX3 yX3_isTaken yX3_isTaken, Cond.code yX3_isTaken cX3_isTaken 4 (some .boolean), Cond.fieldLink RX3 29 "RentHarmonyModel" "who" "I", Cond.fieldLink RX3 60 "RentHarmonyModel" "must" "Z", Cond.fieldLink RX3 32 "RentHarmonyModel" "which" "I"]
def wsX3_would : List Cond := .code yX3_would cX3_would 4 (some .int) :: ((wsX3_would_r1 ++ wsX3_would_r2) ++ wsX30)
def wsX3_worthWith_r1 : List Cond := [Cond.fieldLink RX3 29 "RentHarmonyModel" "who" "I", Cond.fieldLink RX3 32 "RentHarmonyModel" "which" "I", Cond.fieldLink RX3 60 "RentHarmonyModel" "must" "Z", Cond.fieldLink RX3 25 "RentHarmonyModel" "free" "I", Cond.methodLink RX3 87 yX3_give, Cond.instanceMethod yX3_give, Cond.selects RX3 yX3_give yX3_give, Cond.initialized RX3, Cond.code yX3_give cX3_give 1 (some .int), Cond.fieldLink RX3 64 "RentHarmonyModel" "worth" "I", Cond.fieldLink RX3 67 "RentHarmonyModel" "ways" "I", Cond.methodLink RX3 80 yX3_tryFrom, Cond.instanceMethod yX3_tryFrom, Cond.selects RX3 yX3_tryFrom yX3_tryFrom, Cond.code yX3_tryFrom cX3_tryFrom 4 none, Cond.fieldLink RX3 38 "RentHarmonyModel" "lodgers" "I", Cond.fieldLink RX3 22 "RentHarmonyModel" "tried" "[I", Cond.fieldLink RX3 13 "RentHarmonyModel" "rooms" "[I", Cond.methodLink RX3 70 arraycopyName, Cond.native arraycopyName, Cond.static arraycopyName, Cond.initialized "java/lang/System", Cond.methodLink RX3 76 yX3_isTaken, Cond.instanceMethod yX3_isTaken]
def wsX3_worthWith_r2 : List Cond := [Cond.selects RX3 yX3_isTaken yX3_isTaken, Cond.code yX3_isTaken cX3_isTaken 4 (some .boolean), Cond.methodLink RX3 53 yX3_bi, Cond.instanceMethod yX3_bi, Cond.selects RX3 yX3_bi yX3_bi, Cond.code yX3_bi cX3_bi 3 (some .int), Cond.fieldLink RX3 9 "RentHarmonyModel" "bids" "[I"]
def wsX3_worthWith : List Cond := .code yX3_worthWith cX3_worthWith 6 (some .int) :: ((wsX3_worthWith_r1 ++ wsX3_worthWith_r2) ++ wsX30)
def wsX3_needs_r1 : List Cond := [Cond.fieldLink RX3 35 "RentHarmonyModel" "thrown" "I", Cond.methodLink RX3 116 Lib.Math.max.name, Cond.static Lib.Math.max.name, Cond.initialized "java/lang/Math", Cond.code Lib.Math.max.name Lib.Math.max.code 2 (some .int), Cond.methodLink RX3 129 Lib.Math.min.name, Cond.static Lib.Math.min.name, Cond.code Lib.Math.min.name Lib.Math.min.code 2 (some .int), Cond.methodLink RX3 49 yX3_isOne, Cond.instanceMethod yX3_isOne, Cond.selects RX3 yX3_isOne yX3_isOne, Cond.initialized RX3, Cond.code yX3_isOne cX3_isOne 2 (some .boolean), Cond.fieldLink RX3 38 "RentHarmonyModel" "lodgers" "I", Cond.methodLink RX3 41 yX3_isIn, Cond.static yX3_isIn, Cond.code yX3_isIn cX3_isIn 3 (some .boolean), Cond.methodLink RX3 45 yX3_fail, Cond.instanceMethod yX3_fail, Cond.selects RX3 yX3_fail yX3_fail, Cond.code yX3_fail cX3_fail 2 (some .int), Cond.methodLink RX3 125 yX3_worthWith, Cond.instanceMethod yX3_worthWith, Cond.selects RX3 yX3_worthWith yX3_worthWith]
def wsX3_needs_r2 : List Cond := [Cond.code yX3_worthWith cX3_worthWith 6 (some .int), Cond.fieldLink RX3 29 "RentHarmonyModel" "who" "I", Cond.fieldLink RX3 32 "RentHarmonyModel" "which" "I", Cond.fieldLink RX3 60 "RentHarmonyModel" "must" "Z", Cond.fieldLink RX3 25 "RentHarmonyModel" "free" "I", Cond.methodLink RX3 87 yX3_give, Cond.instanceMethod yX3_give, Cond.selects RX3 yX3_give yX3_give, Cond.code yX3_give cX3_give 1 (some .int), Cond.fieldLink RX3 64 "RentHarmonyModel" "worth" "I", Cond.fieldLink RX3 67 "RentHarmonyModel" "ways" "I", Cond.methodLink RX3 80 yX3_tryFrom, Cond.instanceMethod yX3_tryFrom, Cond.selects RX3 yX3_tryFrom yX3_tryFrom, Cond.code yX3_tryFrom cX3_tryFrom 4 none, Cond.fieldLink RX3 22 "RentHarmonyModel" "tried" "[I", Cond.fieldLink RX3 13 "RentHarmonyModel" "rooms" "[I", Cond.methodLink RX3 70 arraycopyName, Cond.native arraycopyName, Cond.static arraycopyName, Cond.initialized "java/lang/System", Cond.methodLink RX3 76 yX3_isTaken, Cond.instanceMethod yX3_isTaken, Cond.selects RX3 yX3_isTaken yX3_isTaken]
def wsX3_needs_r3 : List Cond := [Cond.code yX3_isTaken cX3_isTaken 4 (some .boolean), Cond.methodLink RX3 53 yX3_bi, Cond.instanceMethod yX3_bi, Cond.selects RX3 yX3_bi yX3_bi, Cond.code yX3_bi cX3_bi 3 (some .int), Cond.fieldLink RX3 9 "RentHarmonyModel" "bids" "[I", Cond.methodLink RX3 121 yX3_roomWith, Cond.instanceMethod yX3_roomWith, Cond.selects RX3 yX3_roomWith yX3_roomWith, Cond.code yX3_roomWith cX3_roomWith 5 (some .int)]
def wsX3_needs : List Cond := .code yX3_needs cX3_needs 7 (some .int) :: ((wsX3_needs_r1 ++ (wsX3_needs_r2 ++ wsX3_needs_r3)) ++ wsX30)
def wsX3_without_r1 : List Cond := [Cond.fieldLink RX3 35 "RentHarmonyModel" "thrown" "I", Cond.fieldLink RX3 25 "RentHarmonyModel" "free" "I", Cond.methodLink RX3 49 yX3_isOne, Cond.instanceMethod yX3_isOne, Cond.selects RX3 yX3_isOne yX3_isOne, Cond.initialized RX3, Cond.code yX3_isOne cX3_isOne 2 (some .boolean), Cond.fieldLink RX3 38 "RentHarmonyModel" "lodgers" "I", Cond.methodLink RX3 41 yX3_isIn, Cond.static yX3_isIn, Cond.code yX3_isIn cX3_isIn 3 (some .boolean), Cond.methodLink RX3 45 yX3_fail, Cond.instanceMethod yX3_fail, Cond.selects RX3 yX3_fail yX3_fail, Cond.code yX3_fail cX3_fail 2 (some .int), Cond.methodLink RX3 87 yX3_give, Cond.instanceMethod yX3_give, Cond.selects RX3 yX3_give yX3_give, Cond.code yX3_give cX3_give 1 (some .int), Cond.fieldLink RX3 64 "RentHarmonyModel" "worth" "I", Cond.fieldLink RX3 67 "RentHarmonyModel" "ways" "I", Cond.methodLink RX3 80 yX3_tryFrom, Cond.instanceMethod yX3_tryFrom, Cond.selects RX3 yX3_tryFrom yX3_tryFrom]
def wsX3_without_r2 : List Cond := [Cond.code yX3_tryFrom cX3_tryFrom 4 none, Cond.fieldLink RX3 22 "RentHarmonyModel" "tried" "[I", Cond.fieldLink RX3 13 "RentHarmonyModel" "rooms" "[I", Cond.methodLink RX3 70 arraycopyName, Cond.native arraycopyName, Cond.static arraycopyName, Cond.initialized "java/lang/System", Cond.methodLink RX3 76 yX3_isTaken, Cond.instanceMethod yX3_isTaken, Cond.selects RX3 yX3_isTaken yX3_isTaken, Cond.code yX3_isTaken cX3_isTaken 4 (some .boolean), Cond.fieldLink RX3 29 "RentHarmonyModel" "who" "I", Cond.fieldLink RX3 60 "RentHarmonyModel" "must" "Z", Cond.fieldLink RX3 32 "RentHarmonyModel" "which" "I", Cond.methodLink RX3 53 yX3_bi, Cond.instanceMethod yX3_bi, Cond.selects RX3 yX3_bi yX3_bi, Cond.code yX3_bi cX3_bi 3 (some .int), Cond.fieldLink RX3 9 "RentHarmonyModel" "bids" "[I"]
def wsX3_without : List Cond := .code yX3_without cX3_without 3 (some .int) :: ((wsX3_without_r1 ++ wsX3_without_r2) ++ wsX30)
def wsX3_mean_r1 : List Cond := [Cond.fieldLink RX3 35 "RentHarmonyModel" "thrown" "I", Cond.fieldLink RX3 38 "RentHarmonyModel" "lodgers" "I", Cond.methodLink RX3 110 yX3_counted, Cond.instanceMethod yX3_counted, Cond.selects RX3 yX3_counted yX3_counted, Cond.initialized RX3, Cond.code yX3_counted cX3_counted 4 (some .int), Cond.fieldLink RX3 57 "RentHarmonyModel" "rent" "I", Cond.fieldLink RX3 64 "RentHarmonyModel" "worth" "I", Cond.fieldLink RX3 19 "RentHarmonyModel" "rebates" "[I", Cond.fieldLink RX3 95 "RentHarmonyModel" "pot" "I", Cond.fieldLink RX3 67 "RentHarmonyModel" "ways" "I", Cond.methodLink RX3 98 yX3_settle, Cond.instanceMethod yX3_settle, Cond.selects RX3 yX3_settle yX3_settle, Cond.code yX3_settle cX3_settle 4 none, Cond.fieldLink RX3 16 "RentHarmonyModel" "early" "[I", Cond.methodLink RX3 87 yX3_give, Cond.instanceMethod yX3_give, Cond.selects RX3 yX3_give yX3_give, Cond.code yX3_give cX3_give 1 (some .int), Cond.methodLink RX3 80 yX3_tryFrom, Cond.instanceMethod yX3_tryFrom, Cond.selects RX3 yX3_tryFrom yX3_tryFrom]
def wsX3_mean_r2 : List Cond := [Cond.code yX3_tryFrom cX3_tryFrom 4 none, Cond.fieldLink RX3 22 "RentHarmonyModel" "tried" "[I", Cond.fieldLink RX3 13 "RentHarmonyModel" "rooms" "[I", Cond.methodLink RX3 70 arraycopyName, Cond.native arraycopyName, Cond.static arraycopyName, Cond.initialized "java/lang/System", Cond.fieldLink RX3 25 "RentHarmonyModel" "free" "I", Cond.methodLink RX3 76 yX3_isTaken, Cond.instanceMethod yX3_isTaken, Cond.selects RX3 yX3_isTaken yX3_isTaken, Cond.code yX3_isTaken cX3_isTaken 4 (some .boolean), Cond.fieldLink RX3 29 "RentHarmonyModel" "who" "I", Cond.fieldLink RX3 60 "RentHarmonyModel" "must" "Z", Cond.fieldLink RX3 32 "RentHarmonyModel" "which" "I", Cond.methodLink RX3 53 yX3_bi, Cond.instanceMethod yX3_bi, Cond.selects RX3 yX3_bi yX3_bi, Cond.code yX3_bi cX3_bi 3 (some .int), Cond.fieldLink RX3 9 "RentHarmonyModel" "bids" "[I", Cond.methodLink RX3 91 yX3_isRaised, Cond.instanceMethod yX3_isRaised, Cond.selects RX3 yX3_isRaised yX3_isRaised, Cond.code yX3_isRaised cX3_isRaised 4 (some .boolean)]
def wsX3_mean_r3 : List Cond := [Cond.methodLink RX3 84 yX3_of, Cond.instanceMethod yX3_of, Cond.selects RX3 yX3_of yX3_of, Cond.code yX3_of cX3_of 3 (some .int), Cond.methodLink RX3 101 yX3_pays, Cond.instanceMethod yX3_pays, Cond.selects RX3 yX3_pays yX3_pays, Cond.code yX3_pays cX3_pays 2 (some .int)]
def wsX3_mean : List Cond := .code yX3_mean cX3_mean 2 (some .double) :: ((wsX3_mean_r1 ++ (wsX3_mean_r2 ++ wsX3_mean_r3)) ++ wsX30)
def wsX3_digest_r1 : List Cond := [Cond.fieldLink RX3 35 "RentHarmonyModel" "thrown" "I", Cond.constantLong RX3 132 (1301), Cond.constantLong RX3 134 (31), Cond.fieldLink RX3 38 "RentHarmonyModel" "lodgers" "I", Cond.methodLink RX3 110 yX3_counted, Cond.instanceMethod yX3_counted, Cond.selects RX3 yX3_counted yX3_counted, Cond.initialized RX3, Cond.code yX3_counted cX3_counted 4 (some .int), Cond.fieldLink RX3 57 "RentHarmonyModel" "rent" "I", Cond.fieldLink RX3 64 "RentHarmonyModel" "worth" "I", Cond.fieldLink RX3 19 "RentHarmonyModel" "rebates" "[I", Cond.fieldLink RX3 95 "RentHarmonyModel" "pot" "I", Cond.fieldLink RX3 67 "RentHarmonyModel" "ways" "I", Cond.methodLink RX3 98 yX3_settle, Cond.instanceMethod yX3_settle, Cond.selects RX3 yX3_settle yX3_settle, Cond.code yX3_settle cX3_settle 4 none, Cond.fieldLink RX3 16 "RentHarmonyModel" "early" "[I", Cond.methodLink RX3 87 yX3_give, Cond.instanceMethod yX3_give, Cond.selects RX3 yX3_give yX3_give, Cond.code yX3_give cX3_give 1 (some .int), Cond.methodLink RX3 80 yX3_tryFrom]
def wsX3_digest_r2 : List Cond := [Cond.instanceMethod yX3_tryFrom, Cond.selects RX3 yX3_tryFrom yX3_tryFrom, Cond.code yX3_tryFrom cX3_tryFrom 4 none, Cond.fieldLink RX3 22 "RentHarmonyModel" "tried" "[I", Cond.fieldLink RX3 13 "RentHarmonyModel" "rooms" "[I", Cond.methodLink RX3 70 arraycopyName, Cond.native arraycopyName, Cond.static arraycopyName, Cond.initialized "java/lang/System", Cond.fieldLink RX3 25 "RentHarmonyModel" "free" "I", Cond.methodLink RX3 76 yX3_isTaken, Cond.instanceMethod yX3_isTaken, Cond.selects RX3 yX3_isTaken yX3_isTaken, Cond.code yX3_isTaken cX3_isTaken 4 (some .boolean), Cond.fieldLink RX3 29 "RentHarmonyModel" "who" "I", Cond.fieldLink RX3 60 "RentHarmonyModel" "must" "Z", Cond.fieldLink RX3 32 "RentHarmonyModel" "which" "I", Cond.methodLink RX3 53 yX3_bi, Cond.instanceMethod yX3_bi, Cond.selects RX3 yX3_bi yX3_bi, Cond.code yX3_bi cX3_bi 3 (some .int), Cond.fieldLink RX3 9 "RentHarmonyModel" "bids" "[I", Cond.methodLink RX3 91 yX3_isRaised, Cond.instanceMethod yX3_isRaised]
def wsX3_digest_r3 : List Cond := [Cond.selects RX3 yX3_isRaised yX3_isRaised, Cond.code yX3_isRaised cX3_isRaised 4 (some .boolean), Cond.methodLink RX3 84 yX3_of, Cond.instanceMethod yX3_of, Cond.selects RX3 yX3_of yX3_of, Cond.code yX3_of cX3_of 3 (some .int), Cond.methodLink RX3 101 yX3_pays, Cond.instanceMethod yX3_pays, Cond.selects RX3 yX3_pays yX3_pays, Cond.code yX3_pays cX3_pays 2 (some .int), Cond.methodLink RX3 107 yX3_toldOf, Cond.instanceMethod yX3_toldOf, Cond.selects RX3 yX3_toldOf yX3_toldOf, Cond.code yX3_toldOf cX3_toldOf 5 (some .int), Cond.methodLink RX3 104 yX3_isEnvy, Cond.instanceMethod yX3_isEnvy, Cond.selects RX3 yX3_isEnvy yX3_isEnvy, Cond.code yX3_isEnvy cX3_isEnvy 3 (some .boolean)]
def wsX3_digest : List Cond := .code yX3_digest cX3_digest 5 (some .long) :: ((wsX3_digest_r1 ++ (wsX3_digest_r2 ++ wsX3_digest_r3)) ++ wsX30)
def wsJ9_max_7cf53 : List Cond := .code yJ9_max_7cf53 cJ9_max_7cf53 2 (some .int) :: ([])
def wsJ9_min_7cf53 : List Cond := .code yJ9_min_7cf53 cJ9_min_7cf53 2 (some .int) :: ([])
def wsL_come_r1 : List Cond := [Cond.classLink RL 13 "java/lang/IllegalStateException", Cond.methodLink RL 7 yX2_come, Cond.instanceMethod yX2_come, Cond.selects RX2 yX2_come yX2_come, Cond.initialized RX2, Cond.code yX2_come cX2_come 1 (some .int), Cond.classLink RX2 50 "java/lang/IllegalStateException", Cond.initialized "java/lang/IllegalStateException", Cond.fieldLink RX2 10 "RentHarmony" "bids" "LRentHarmony$Bids;", Cond.methodLink RX2 46 yX0_size, Cond.instanceMethod yX0_size, Cond.selects RX0 yX0_size yX0_size, Cond.initialized RX0, Cond.code yX0_size cX0_size 1 (some .int), Cond.fieldLink RX0 15 "RentHarmony$Bids" "size" "I", Cond.methodLink RX2 57 yX0_grow, Cond.instanceMethod yX0_grow, Cond.selects RX0 yX0_grow yX0_grow, Cond.code yX0_grow cX0_grow 2 none, Cond.methodLink RX0 29 yX0_set, Cond.instanceMethod yX0_set, Cond.selects RX0 yX0_set yX0_set, Cond.code yX0_set cX0_set 4 none, Cond.fieldLink RX0 9 "RentHarmony$Bids" "coins" "[I"]
def wsL_come_r2 : List Cond := [Cond.methodLink RX0 19 yX0_has, Cond.instanceMethod yX0_has, Cond.selects RX0 yX0_has yX0_has, Cond.code yX0_has cX0_has 2 (some .boolean), Cond.methodLink RX2 60 yX2_settleAll, Cond.instanceMethod yX2_settleAll, Cond.selects RX2 yX2_settleAll yX2_settleAll, Cond.code yX2_settleAll cX2_settleAll 1 none, Cond.fieldLink RX2 19 "RentHarmony" "giving" "LRentHarmony$Giving;", Cond.methodLink RX2 136 yX1_choose, Cond.instanceMethod yX1_choose, Cond.selects RX1 yX1_choose yX1_choose, Cond.initialized RX1, Cond.code yX1_choose cX1_choose 5 none, Cond.fieldLink RX1 9 "RentHarmony$Giving" "bestOfRest" "[I", Cond.fieldLink RX1 15 "RentHarmony$Giving" "waysOfRest" "[I", Cond.fieldLink RX1 18 "RentHarmony$Giving" "rooms" "[I", Cond.methodLink RX1 21 yX0_size, Cond.methodLink RX1 27 yX1_weigh, Cond.instanceMethod yX1_weigh, Cond.selects RX1 yX1_weigh yX1_weigh, Cond.code yX1_weigh cX1_weigh 9 none, Cond.methodLink RX1 35 yJ6_bitCount_0f7a4, Cond.static yJ6_bitCount_0f7a4]
def wsL_come_r3 : List Cond := [Cond.initialized RJ6, Cond.code yJ6_bitCount_0f7a4 cJ6_bitCount_0f7a4 1 (some .int), Cond.constant RJ6 265 (1431655765), Cond.constant RJ6 266 (858993459), Cond.constant RJ6 267 (252645135), Cond.methodLink RX1 41 yX0_of, Cond.instanceMethod yX0_of, Cond.selects RX0 yX0_of yX0_of, Cond.code yX0_of cX0_of 3 (some .int), Cond.methodLink RX1 31 yX1_firstBestRoom, Cond.instanceMethod yX1_firstBestRoom, Cond.selects RX1 yX1_firstBestRoom yX1_firstBestRoom, Cond.code yX1_firstBestRoom cX1_firstBestRoom 5 (some .int), Cond.methodLink RX2 164 yX2_settleFirstRebates, Cond.instanceMethod yX2_settleFirstRebates, Cond.selects RX2 yX2_settleFirstRebates yX2_settleFirstRebates, Cond.code yX2_settleFirstRebates cX2_settleFirstRebates 4 none, Cond.fieldLink RX2 29 "RentHarmony" "firstRebates" "[I", Cond.methodLink RX2 167 yX2_bestOfAllRooms, Cond.instanceMethod yX2_bestOfAllRooms, Cond.selects RX2 yX2_bestOfAllRooms yX2_bestOfAllRooms, Cond.code yX2_bestOfAllRooms cX2_bestOfAllRooms 5 (some .int), Cond.methodLink RX2 123 Lib.Math.max.name, Cond.static Lib.Math.max.name]
def wsL_come_r4 : List Cond := [Cond.initialized "java/lang/Math", Cond.code Lib.Math.max.name Lib.Math.max.code 2 (some .int), Cond.methodLink RX2 152 yX2_firstRebateOf, Cond.instanceMethod yX2_firstRebateOf, Cond.selects RX2 yX2_firstRebateOf yX2_firstRebateOf, Cond.code yX2_firstRebateOf cX2_firstRebateOf 2 (some .int), Cond.methodLink RX2 63 yX0_has, Cond.methodLink RX2 149 yX2_ownBidOf, Cond.instanceMethod yX2_ownBidOf, Cond.selects RX2 yX2_ownBidOf yX2_ownBidOf, Cond.code yX2_ownBidOf cX2_ownBidOf 2 (some .int), Cond.methodLink RX2 92 yX1_roomOf, Cond.instanceMethod yX1_roomOf, Cond.selects RX1 yX1_roomOf yX1_roomOf, Cond.code yX1_roomOf cX1_roomOf 2 (some .int), Cond.methodLink RX2 77 yX0_of, Cond.methodLink RX2 87 yX2_settleLeftOver, Cond.instanceMethod yX2_settleLeftOver, Cond.selects RX2 yX2_settleLeftOver yX2_settleLeftOver, Cond.code yX2_settleLeftOver cX2_settleLeftOver 3 none, Cond.fieldLink RX2 36 "RentHarmony" "rentCoins" "I", Cond.fieldLink RX2 40 "RentHarmony" "share" "I", Cond.fieldLink RX2 43 "RentHarmony" "pot" "I", Cond.methodLink RX2 139 yX1_worth]
def wsL_come_r5 : List Cond := [Cond.instanceMethod yX1_worth, Cond.selects RX1 yX1_worth yX1_worth, Cond.code yX1_worth cX1_worth 1 (some .int), Cond.methodLink RX2 158 yX2_allFirstRebates, Cond.instanceMethod yX2_allFirstRebates, Cond.selects RX2 yX2_allFirstRebates yX2_allFirstRebates, Cond.code yX2_allFirstRebates cX2_allFirstRebates 3 (some .int)]
def wsL_come : List Cond := .codeWith yL_come cL_come 3 (some .int) [(0, 8, 11, 13)] :: ((wsL_come_r1 ++ (wsL_come_r2 ++ (wsL_come_r3 ++ (wsL_come_r4 ++ wsL_come_r5)))) ++ wsX20 ++ wsX00 ++ wsX10 ++ (vx_atS RX2 54 "java/lang/IllegalStateException" ["java/lang/RuntimeException", "java/lang/Exception"]).filter goodWord)
def wsL_bid_r1 : List Cond := [Cond.classLink RL 19 "java/lang/IndexOutOfBoundsException", Cond.classLink RL 21 "java/lang/IllegalArgumentException", Cond.methodLink RL 15 yX2_bid, Cond.instanceMethod yX2_bid, Cond.selects RX2 yX2_bid yX2_bid, Cond.initialized RX2, Cond.code yX2_bid cX2_bid 5 (some .int), Cond.classLink RX2 67 "java/lang/IndexOutOfBoundsException", Cond.initialized "java/lang/IndexOutOfBoundsException", Cond.classLink RX2 72 "java/lang/IllegalArgumentException", Cond.initialized "java/lang/IllegalArgumentException", Cond.fieldLink RX2 10 "RentHarmony" "bids" "LRentHarmony$Bids;", Cond.methodLink RX2 63 yX0_has, Cond.instanceMethod yX0_has, Cond.selects RX0 yX0_has yX0_has, Cond.initialized RX0, Cond.code yX0_has cX0_has 2 (some .boolean), Cond.fieldLink RX0 15 "RentHarmony$Bids" "size" "I", Cond.methodLink RX2 77 yX0_of, Cond.instanceMethod yX0_of, Cond.selects RX0 yX0_of yX0_of, Cond.code yX0_of cX0_of 3 (some .int), Cond.fieldLink RX0 9 "RentHarmony$Bids" "coins" "[I", Cond.methodLink RX0 19 yX0_has]
def wsL_bid_r2 : List Cond := [Cond.methodLink RX2 81 yX0_set, Cond.instanceMethod yX0_set, Cond.selects RX0 yX0_set yX0_set, Cond.code yX0_set cX0_set 4 none, Cond.methodLink RX2 60 yX2_settleAll, Cond.instanceMethod yX2_settleAll, Cond.selects RX2 yX2_settleAll yX2_settleAll, Cond.code yX2_settleAll cX2_settleAll 1 none, Cond.fieldLink RX2 19 "RentHarmony" "giving" "LRentHarmony$Giving;", Cond.methodLink RX2 136 yX1_choose, Cond.instanceMethod yX1_choose, Cond.selects RX1 yX1_choose yX1_choose, Cond.initialized RX1, Cond.code yX1_choose cX1_choose 5 none, Cond.fieldLink RX1 9 "RentHarmony$Giving" "bestOfRest" "[I", Cond.fieldLink RX1 15 "RentHarmony$Giving" "waysOfRest" "[I", Cond.fieldLink RX1 18 "RentHarmony$Giving" "rooms" "[I", Cond.methodLink RX1 21 yX0_size, Cond.instanceMethod yX0_size, Cond.selects RX0 yX0_size yX0_size, Cond.code yX0_size cX0_size 1 (some .int), Cond.methodLink RX1 27 yX1_weigh, Cond.instanceMethod yX1_weigh, Cond.selects RX1 yX1_weigh yX1_weigh]
def wsL_bid_r3 : List Cond := [Cond.code yX1_weigh cX1_weigh 9 none, Cond.methodLink RX1 35 yJ6_bitCount_0f7a4, Cond.static yJ6_bitCount_0f7a4, Cond.initialized RJ6, Cond.code yJ6_bitCount_0f7a4 cJ6_bitCount_0f7a4 1 (some .int), Cond.constant RJ6 265 (1431655765), Cond.constant RJ6 266 (858993459), Cond.constant RJ6 267 (252645135), Cond.methodLink RX1 41 yX0_of, Cond.methodLink RX1 31 yX1_firstBestRoom, Cond.instanceMethod yX1_firstBestRoom, Cond.selects RX1 yX1_firstBestRoom yX1_firstBestRoom, Cond.code yX1_firstBestRoom cX1_firstBestRoom 5 (some .int), Cond.methodLink RX2 164 yX2_settleFirstRebates, Cond.instanceMethod yX2_settleFirstRebates, Cond.selects RX2 yX2_settleFirstRebates yX2_settleFirstRebates, Cond.code yX2_settleFirstRebates cX2_settleFirstRebates 4 none, Cond.fieldLink RX2 29 "RentHarmony" "firstRebates" "[I", Cond.methodLink RX2 46 yX0_size, Cond.methodLink RX2 167 yX2_bestOfAllRooms, Cond.instanceMethod yX2_bestOfAllRooms, Cond.selects RX2 yX2_bestOfAllRooms yX2_bestOfAllRooms, Cond.code yX2_bestOfAllRooms cX2_bestOfAllRooms 5 (some .int), Cond.methodLink RX2 123 Lib.Math.max.name]
def wsL_bid_r4 : List Cond := [Cond.static Lib.Math.max.name, Cond.initialized "java/lang/Math", Cond.code Lib.Math.max.name Lib.Math.max.code 2 (some .int), Cond.methodLink RX2 152 yX2_firstRebateOf, Cond.instanceMethod yX2_firstRebateOf, Cond.selects RX2 yX2_firstRebateOf yX2_firstRebateOf, Cond.code yX2_firstRebateOf cX2_firstRebateOf 2 (some .int), Cond.methodLink RX2 149 yX2_ownBidOf, Cond.instanceMethod yX2_ownBidOf, Cond.selects RX2 yX2_ownBidOf yX2_ownBidOf, Cond.code yX2_ownBidOf cX2_ownBidOf 2 (some .int), Cond.methodLink RX2 92 yX1_roomOf, Cond.instanceMethod yX1_roomOf, Cond.selects RX1 yX1_roomOf yX1_roomOf, Cond.code yX1_roomOf cX1_roomOf 2 (some .int), Cond.methodLink RX2 87 yX2_settleLeftOver, Cond.instanceMethod yX2_settleLeftOver, Cond.selects RX2 yX2_settleLeftOver yX2_settleLeftOver, Cond.code yX2_settleLeftOver cX2_settleLeftOver 3 none, Cond.fieldLink RX2 36 "RentHarmony" "rentCoins" "I", Cond.fieldLink RX2 40 "RentHarmony" "share" "I", Cond.fieldLink RX2 43 "RentHarmony" "pot" "I", Cond.methodLink RX2 139 yX1_worth, Cond.instanceMethod yX1_worth]
def wsL_bid_r5 : List Cond := [Cond.selects RX1 yX1_worth yX1_worth, Cond.code yX1_worth cX1_worth 1 (some .int), Cond.methodLink RX2 158 yX2_allFirstRebates, Cond.instanceMethod yX2_allFirstRebates, Cond.selects RX2 yX2_allFirstRebates yX2_allFirstRebates, Cond.code yX2_allFirstRebates cX2_allFirstRebates 3 (some .int)]
def wsL_bid : List Cond := .codeWith yL_bid cL_bid 6 (some .int) [(0, 12, 15, 19), (0, 12, 19, 21)] :: ((wsL_bid_r1 ++ (wsL_bid_r2 ++ (wsL_bid_r3 ++ (wsL_bid_r4 ++ wsL_bid_r5)))) ++ wsX20 ++ wsX00 ++ wsX10 ++ (vx_atS RX2 71 "java/lang/IndexOutOfBoundsException" ["java/lang/RuntimeException", "java/lang/Exception"]).filter goodWord ++ (vx_atS RX2 76 "java/lang/IllegalArgumentException" ["java/lang/RuntimeException", "java/lang/Exception"]).filter goodWord)
def wsL_rent_r1 : List Cond := [Cond.classLink RL 21 "java/lang/IllegalArgumentException", Cond.methodLink RL 23 yX2_rent, Cond.instanceMethod yX2_rent, Cond.selects RX2 yX2_rent yX2_rent, Cond.initialized RX2, Cond.code yX2_rent cX2_rent 3 (some .int), Cond.classLink RX2 72 "java/lang/IllegalArgumentException", Cond.initialized "java/lang/IllegalArgumentException", Cond.fieldLink RX2 36 "RentHarmony" "rentCoins" "I", Cond.methodLink RX2 87 yX2_settleLeftOver, Cond.instanceMethod yX2_settleLeftOver, Cond.selects RX2 yX2_settleLeftOver yX2_settleLeftOver, Cond.code yX2_settleLeftOver cX2_settleLeftOver 3 none, Cond.fieldLink RX2 10 "RentHarmony" "bids" "LRentHarmony$Bids;", Cond.fieldLink RX2 19 "RentHarmony" "giving" "LRentHarmony$Giving;", Cond.fieldLink RX2 40 "RentHarmony" "share" "I", Cond.fieldLink RX2 43 "RentHarmony" "pot" "I", Cond.methodLink RX2 46 yX0_size, Cond.instanceMethod yX0_size, Cond.selects RX0 yX0_size yX0_size, Cond.initialized RX0, Cond.code yX0_size cX0_size 1 (some .int), Cond.fieldLink RX0 15 "RentHarmony$Bids" "size" "I", Cond.methodLink RX2 139 yX1_worth]
def wsL_rent_r2 : List Cond := [Cond.instanceMethod yX1_worth, Cond.selects RX1 yX1_worth yX1_worth, Cond.initialized RX1, Cond.code yX1_worth cX1_worth 1 (some .int), Cond.fieldLink RX1 9 "RentHarmony$Giving" "bestOfRest" "[I", Cond.methodLink RX2 158 yX2_allFirstRebates, Cond.instanceMethod yX2_allFirstRebates, Cond.selects RX2 yX2_allFirstRebates yX2_allFirstRebates, Cond.code yX2_allFirstRebates cX2_allFirstRebates 3 (some .int), Cond.fieldLink RX2 29 "RentHarmony" "firstRebates" "[I"]
def wsL_rent : List Cond := .codeWith yL_rent cL_rent 4 (some .int) [(0, 9, 12, 21)] :: ((wsL_rent_r1 ++ wsL_rent_r2) ++ wsX20 ++ wsX00 ++ wsX10 ++ (vx_atS RX2 76 "java/lang/IllegalArgumentException" ["java/lang/RuntimeException", "java/lang/Exception"]).filter goodWord)
def wsL_leave_r1 : List Cond := [Cond.classLink RL 19 "java/lang/IndexOutOfBoundsException", Cond.methodLink RL 27 yX2_leave, Cond.instanceMethod yX2_leave, Cond.selects RX2 yX2_leave yX2_leave, Cond.initialized RX2, Cond.code yX2_leave cX2_leave 3 (some .int), Cond.classLink RX2 67 "java/lang/IndexOutOfBoundsException", Cond.initialized "java/lang/IndexOutOfBoundsException", Cond.fieldLink RX2 10 "RentHarmony" "bids" "LRentHarmony$Bids;", Cond.fieldLink RX2 19 "RentHarmony" "giving" "LRentHarmony$Giving;", Cond.methodLink RX2 63 yX0_has, Cond.instanceMethod yX0_has, Cond.selects RX0 yX0_has yX0_has, Cond.initialized RX0, Cond.code yX0_has cX0_has 2 (some .boolean), Cond.fieldLink RX0 15 "RentHarmony$Bids" "size" "I", Cond.methodLink RX2 92 yX1_roomOf, Cond.instanceMethod yX1_roomOf, Cond.selects RX1 yX1_roomOf yX1_roomOf, Cond.initialized RX1, Cond.code yX1_roomOf cX1_roomOf 2 (some .int), Cond.fieldLink RX1 18 "RentHarmony$Giving" "rooms" "[I", Cond.methodLink RX2 96 yX0_shrink, Cond.instanceMethod yX0_shrink]
def wsL_leave_r2 : List Cond := [Cond.selects RX0 yX0_shrink yX0_shrink, Cond.code yX0_shrink cX0_shrink 5 none, Cond.methodLink RX0 19 yX0_has, Cond.methodLink RX0 33 yX0_of, Cond.instanceMethod yX0_of, Cond.selects RX0 yX0_of yX0_of, Cond.code yX0_of cX0_of 3 (some .int), Cond.fieldLink RX0 9 "RentHarmony$Bids" "coins" "[I", Cond.methodLink RX0 29 yX0_set, Cond.instanceMethod yX0_set, Cond.selects RX0 yX0_set yX0_set, Cond.code yX0_set cX0_set 4 none, Cond.methodLink RX2 60 yX2_settleAll, Cond.instanceMethod yX2_settleAll, Cond.selects RX2 yX2_settleAll yX2_settleAll, Cond.code yX2_settleAll cX2_settleAll 1 none, Cond.methodLink RX2 136 yX1_choose, Cond.instanceMethod yX1_choose, Cond.selects RX1 yX1_choose yX1_choose, Cond.code yX1_choose cX1_choose 5 none, Cond.fieldLink RX1 9 "RentHarmony$Giving" "bestOfRest" "[I", Cond.fieldLink RX1 15 "RentHarmony$Giving" "waysOfRest" "[I", Cond.methodLink RX1 21 yX0_size, Cond.instanceMethod yX0_size]
def wsL_leave_r3 : List Cond := [Cond.selects RX0 yX0_size yX0_size, Cond.code yX0_size cX0_size 1 (some .int), Cond.methodLink RX1 27 yX1_weigh, Cond.instanceMethod yX1_weigh, Cond.selects RX1 yX1_weigh yX1_weigh, Cond.code yX1_weigh cX1_weigh 9 none, Cond.methodLink RX1 35 yJ6_bitCount_0f7a4, Cond.static yJ6_bitCount_0f7a4, Cond.initialized RJ6, Cond.code yJ6_bitCount_0f7a4 cJ6_bitCount_0f7a4 1 (some .int), Cond.constant RJ6 265 (1431655765), Cond.constant RJ6 266 (858993459), Cond.constant RJ6 267 (252645135), Cond.methodLink RX1 41 yX0_of, Cond.methodLink RX1 31 yX1_firstBestRoom, Cond.instanceMethod yX1_firstBestRoom, Cond.selects RX1 yX1_firstBestRoom yX1_firstBestRoom, Cond.code yX1_firstBestRoom cX1_firstBestRoom 5 (some .int), Cond.methodLink RX2 164 yX2_settleFirstRebates, Cond.instanceMethod yX2_settleFirstRebates, Cond.selects RX2 yX2_settleFirstRebates yX2_settleFirstRebates, Cond.code yX2_settleFirstRebates cX2_settleFirstRebates 4 none, Cond.fieldLink RX2 29 "RentHarmony" "firstRebates" "[I", Cond.methodLink RX2 46 yX0_size]
def wsL_leave_r4 : List Cond := [Cond.methodLink RX2 167 yX2_bestOfAllRooms, Cond.instanceMethod yX2_bestOfAllRooms, Cond.selects RX2 yX2_bestOfAllRooms yX2_bestOfAllRooms, Cond.code yX2_bestOfAllRooms cX2_bestOfAllRooms 5 (some .int), Cond.methodLink RX2 123 Lib.Math.max.name, Cond.static Lib.Math.max.name, Cond.initialized "java/lang/Math", Cond.code Lib.Math.max.name Lib.Math.max.code 2 (some .int), Cond.methodLink RX2 152 yX2_firstRebateOf, Cond.instanceMethod yX2_firstRebateOf, Cond.selects RX2 yX2_firstRebateOf yX2_firstRebateOf, Cond.code yX2_firstRebateOf cX2_firstRebateOf 2 (some .int), Cond.methodLink RX2 149 yX2_ownBidOf, Cond.instanceMethod yX2_ownBidOf, Cond.selects RX2 yX2_ownBidOf yX2_ownBidOf, Cond.code yX2_ownBidOf cX2_ownBidOf 2 (some .int), Cond.methodLink RX2 77 yX0_of, Cond.methodLink RX2 87 yX2_settleLeftOver, Cond.instanceMethod yX2_settleLeftOver, Cond.selects RX2 yX2_settleLeftOver yX2_settleLeftOver, Cond.code yX2_settleLeftOver cX2_settleLeftOver 3 none, Cond.fieldLink RX2 36 "RentHarmony" "rentCoins" "I", Cond.fieldLink RX2 40 "RentHarmony" "share" "I", Cond.fieldLink RX2 43 "RentHarmony" "pot" "I"]
def wsL_leave_r5 : List Cond := [Cond.methodLink RX2 139 yX1_worth, Cond.instanceMethod yX1_worth, Cond.selects RX1 yX1_worth yX1_worth, Cond.code yX1_worth cX1_worth 1 (some .int), Cond.methodLink RX2 158 yX2_allFirstRebates, Cond.instanceMethod yX2_allFirstRebates, Cond.selects RX2 yX2_allFirstRebates yX2_allFirstRebates, Cond.code yX2_allFirstRebates cX2_allFirstRebates 3 (some .int)]
def wsL_leave : List Cond := .codeWith yL_leave cL_leave 4 (some .int) [(0, 9, 12, 19)] :: ((wsL_leave_r1 ++ (wsL_leave_r2 ++ (wsL_leave_r3 ++ (wsL_leave_r4 ++ wsL_leave_r5)))) ++ wsX20 ++ wsX00 ++ wsX10 ++ (vx_atS RX2 71 "java/lang/IndexOutOfBoundsException" ["java/lang/RuntimeException", "java/lang/Exception"]).filter goodWord)
def wsL_told_r1 : List Cond := [Cond.classLink RL 19 "java/lang/IndexOutOfBoundsException", Cond.methodLink RL 30 yX2_told, Cond.instanceMethod yX2_told, Cond.selects RX2 yX2_told yX2_told, Cond.initialized RX2, Cond.code yX2_told cX2_told 3 (some .int), Cond.classLink RX2 67 "java/lang/IndexOutOfBoundsException", Cond.initialized "java/lang/IndexOutOfBoundsException", Cond.fieldLink RX2 10 "RentHarmony" "bids" "LRentHarmony$Bids;", Cond.methodLink RX2 63 yX0_has, Cond.instanceMethod yX0_has, Cond.selects RX0 yX0_has yX0_has, Cond.initialized RX0, Cond.code yX0_has cX0_has 2 (some .boolean), Cond.fieldLink RX0 15 "RentHarmony$Bids" "size" "I", Cond.methodLink RX2 102 yX2_fact, Cond.instanceMethod yX2_fact, Cond.selects RX2 yX2_fact yX2_fact, Cond.code yX2_fact cX2_fact 3 (some .int), Cond.fieldLink RX2 19 "RentHarmony" "giving" "LRentHarmony$Giving;", Cond.methodLink RX2 92 yX1_roomOf, Cond.instanceMethod yX1_roomOf, Cond.selects RX1 yX1_roomOf yX1_roomOf, Cond.initialized RX1]
def wsL_told_r2 : List Cond := [Cond.code yX1_roomOf cX1_roomOf 2 (some .int), Cond.fieldLink RX1 18 "RentHarmony$Giving" "rooms" "[I", Cond.methodLink RX2 149 yX2_ownBidOf, Cond.instanceMethod yX2_ownBidOf, Cond.selects RX2 yX2_ownBidOf yX2_ownBidOf, Cond.code yX2_ownBidOf cX2_ownBidOf 2 (some .int), Cond.methodLink RX2 77 yX0_of, Cond.instanceMethod yX0_of, Cond.selects RX0 yX0_of yX0_of, Cond.code yX0_of cX0_of 3 (some .int), Cond.fieldLink RX0 9 "RentHarmony$Bids" "coins" "[I", Cond.methodLink RX0 19 yX0_has, Cond.methodLink RX2 114 yX2_rebateOf, Cond.instanceMethod yX2_rebateOf, Cond.selects RX2 yX2_rebateOf yX2_rebateOf, Cond.code yX2_rebateOf cX2_rebateOf 2 (some .int), Cond.fieldLink RX2 40 "RentHarmony" "share" "I", Cond.methodLink RX2 152 yX2_firstRebateOf, Cond.instanceMethod yX2_firstRebateOf, Cond.selects RX2 yX2_firstRebateOf yX2_firstRebateOf, Cond.code yX2_firstRebateOf cX2_firstRebateOf 2 (some .int), Cond.fieldLink RX2 29 "RentHarmony" "firstRebates" "[I", Cond.methodLink RX2 117 yX2_payOf, Cond.instanceMethod yX2_payOf]
def wsL_told_r3 : List Cond := [Cond.selects RX2 yX2_payOf yX2_payOf, Cond.code yX2_payOf cX2_payOf 2 (some .int), Cond.methodLink RX2 155 yX2_enviedBy, Cond.instanceMethod yX2_enviedBy, Cond.selects RX2 yX2_enviedBy yX2_enviedBy, Cond.code yX2_enviedBy cX2_enviedBy 4 (some .int), Cond.methodLink RX2 46 yX0_size, Cond.instanceMethod yX0_size, Cond.selects RX0 yX0_size yX0_size, Cond.code yX0_size cX0_size 1 (some .int), Cond.methodLink RX2 110 yX2_wouldEnvy, Cond.instanceMethod yX2_wouldEnvy, Cond.selects RX2 yX2_wouldEnvy yX2_wouldEnvy, Cond.code yX2_wouldEnvy cX2_wouldEnvy 3 (some .boolean)]
def wsL_told : List Cond := .codeWith yL_told cL_told 5 (some .int) [(0, 10, 13, 19)] :: ((wsL_told_r1 ++ (wsL_told_r2 ++ wsL_told_r3)) ++ wsX20 ++ wsX00 ++ wsX10 ++ (vx_atS RX2 71 "java/lang/IndexOutOfBoundsException" ["java/lang/RuntimeException", "java/lang/Exception"]).filter goodWord)
def wsL_offer : List Cond := .codeWith yL_offer cL_offer 5 (some .int) [(0, 10, 13, 19)] :: ([.classLink RL 19 "java/lang/IndexOutOfBoundsException", .methodLink RL 34 yX2_offer, .instanceMethod yX2_offer, .selects RX2 yX2_offer yX2_offer, .initialized RX2, .code yX2_offer cX2_offer 3 (some .int), .classLink RX2 67 "java/lang/IndexOutOfBoundsException", .initialized "java/lang/IndexOutOfBoundsException", .fieldLink RX2 10 "RentHarmony" "bids" "LRentHarmony$Bids;", .methodLink RX2 63 yX0_has, .instanceMethod yX0_has, .selects RX0 yX0_has yX0_has, .initialized RX0, .code yX0_has cX0_has 2 (some .boolean), .fieldLink RX0 15 "RentHarmony$Bids" "size" "I", .methodLink RX2 77 yX0_of, .instanceMethod yX0_of, .selects RX0 yX0_of yX0_of, .code yX0_of cX0_of 3 (some .int), .fieldLink RX0 9 "RentHarmony$Bids" "coins" "[I", .methodLink RX0 19 yX0_has] ++ wsX20 ++ wsX00 ++ (vx_atS RX2 71 "java/lang/IndexOutOfBoundsException" ["java/lang/RuntimeException", "java/lang/Exception"]).filter goodWord)
def wsL_count_r1 : List Cond := [Cond.classLink RL 19 "java/lang/IndexOutOfBoundsException", Cond.methodLink RL 37 yX2_count, Cond.instanceMethod yX2_count, Cond.selects RX2 yX2_count yX2_count, Cond.initialized RX2, Cond.code yX2_count cX2_count 2 (some .int), Cond.classLink RX2 67 "java/lang/IndexOutOfBoundsException", Cond.initialized "java/lang/IndexOutOfBoundsException", Cond.methodLink RX2 107 yX2_total, Cond.instanceMethod yX2_total, Cond.selects RX2 yX2_total yX2_total, Cond.code yX2_total cX2_total 2 (some .int), Cond.fieldLink RX2 10 "RentHarmony" "bids" "LRentHarmony$Bids;", Cond.fieldLink RX2 36 "RentHarmony" "rentCoins" "I", Cond.fieldLink RX2 19 "RentHarmony" "giving" "LRentHarmony$Giving;", Cond.fieldLink RX2 40 "RentHarmony" "share" "I", Cond.fieldLink RX2 43 "RentHarmony" "pot" "I", Cond.methodLink RX2 46 yX0_size, Cond.instanceMethod yX0_size, Cond.selects RX0 yX0_size yX0_size, Cond.initialized RX0, Cond.code yX0_size cX0_size 1 (some .int), Cond.fieldLink RX0 15 "RentHarmony$Bids" "size" "I", Cond.methodLink RX2 139 yX1_worth]
def wsL_count_r2 : List Cond := [Cond.instanceMethod yX1_worth, Cond.selects RX1 yX1_worth yX1_worth, Cond.initialized RX1, Cond.code yX1_worth cX1_worth 1 (some .int), Cond.fieldLink RX1 9 "RentHarmony$Giving" "bestOfRest" "[I", Cond.methodLink RX2 158 yX2_allFirstRebates, Cond.instanceMethod yX2_allFirstRebates, Cond.selects RX2 yX2_allFirstRebates yX2_allFirstRebates, Cond.code yX2_allFirstRebates cX2_allFirstRebates 3 (some .int), Cond.fieldLink RX2 29 "RentHarmony" "firstRebates" "[I", Cond.methodLink RX2 161 yX1_ways, Cond.instanceMethod yX1_ways, Cond.selects RX1 yX1_ways yX1_ways, Cond.code yX1_ways cX1_ways 1 (some .int), Cond.fieldLink RX1 15 "RentHarmony$Giving" "waysOfRest" "[I", Cond.methodLink RX2 142 yX2_allPays, Cond.instanceMethod yX2_allPays, Cond.selects RX2 yX2_allPays yX2_allPays, Cond.code yX2_allPays cX2_allPays 3 (some .int), Cond.methodLink RX2 117 yX2_payOf, Cond.instanceMethod yX2_payOf, Cond.selects RX2 yX2_payOf yX2_payOf, Cond.code yX2_payOf cX2_payOf 2 (some .int), Cond.methodLink RX2 149 yX2_ownBidOf]
def wsL_count_r3 : List Cond := [Cond.instanceMethod yX2_ownBidOf, Cond.selects RX2 yX2_ownBidOf yX2_ownBidOf, Cond.code yX2_ownBidOf cX2_ownBidOf 2 (some .int), Cond.methodLink RX2 92 yX1_roomOf, Cond.instanceMethod yX1_roomOf, Cond.selects RX1 yX1_roomOf yX1_roomOf, Cond.code yX1_roomOf cX1_roomOf 2 (some .int), Cond.fieldLink RX1 18 "RentHarmony$Giving" "rooms" "[I", Cond.methodLink RX2 77 yX0_of, Cond.instanceMethod yX0_of, Cond.selects RX0 yX0_of yX0_of, Cond.code yX0_of cX0_of 3 (some .int), Cond.fieldLink RX0 9 "RentHarmony$Bids" "coins" "[I", Cond.methodLink RX0 19 yX0_has, Cond.instanceMethod yX0_has, Cond.selects RX0 yX0_has yX0_has, Cond.code yX0_has cX0_has 2 (some .boolean), Cond.methodLink RX2 114 yX2_rebateOf, Cond.instanceMethod yX2_rebateOf, Cond.selects RX2 yX2_rebateOf yX2_rebateOf, Cond.code yX2_rebateOf cX2_rebateOf 2 (some .int), Cond.methodLink RX2 152 yX2_firstRebateOf, Cond.instanceMethod yX2_firstRebateOf, Cond.selects RX2 yX2_firstRebateOf yX2_firstRebateOf]
def wsL_count_r4 : List Cond := [Cond.code yX2_firstRebateOf cX2_firstRebateOf 2 (some .int), Cond.methodLink RX2 63 yX0_has]
def wsL_count : List Cond := .codeWith yL_count cL_count 4 (some .int) [(0, 9, 12, 19)] :: ((wsL_count_r1 ++ (wsL_count_r2 ++ (wsL_count_r3 ++ wsL_count_r4))) ++ wsX20 ++ wsX00 ++ wsX10 ++ (vx_atS RX2 71 "java/lang/IndexOutOfBoundsException" ["java/lang/RuntimeException", "java/lang/Exception"]).filter goodWord)
def wsL_envies_r1 : List Cond := [Cond.classLink RL 19 "java/lang/IndexOutOfBoundsException", Cond.methodLink RL 40 yX2_envies, Cond.instanceMethod yX2_envies, Cond.selects RX2 yX2_envies yX2_envies, Cond.initialized RX2, Cond.code yX2_envies cX2_envies 3 (some .boolean), Cond.classLink RX2 67 "java/lang/IndexOutOfBoundsException", Cond.initialized "java/lang/IndexOutOfBoundsException", Cond.fieldLink RX2 10 "RentHarmony" "bids" "LRentHarmony$Bids;", Cond.methodLink RX2 63 yX0_has, Cond.instanceMethod yX0_has, Cond.selects RX0 yX0_has yX0_has, Cond.initialized RX0, Cond.code yX0_has cX0_has 2 (some .boolean), Cond.fieldLink RX0 15 "RentHarmony$Bids" "size" "I", Cond.methodLink RX2 110 yX2_wouldEnvy, Cond.instanceMethod yX2_wouldEnvy, Cond.selects RX2 yX2_wouldEnvy yX2_wouldEnvy, Cond.code yX2_wouldEnvy cX2_wouldEnvy 3 (some .boolean), Cond.fieldLink RX2 19 "RentHarmony" "giving" "LRentHarmony$Giving;", Cond.methodLink RX2 92 yX1_roomOf, Cond.instanceMethod yX1_roomOf, Cond.selects RX1 yX1_roomOf yX1_roomOf, Cond.initialized RX1]
def wsL_envies_r2 : List Cond := [Cond.code yX1_roomOf cX1_roomOf 2 (some .int), Cond.fieldLink RX1 18 "RentHarmony$Giving" "rooms" "[I", Cond.methodLink RX2 77 yX0_of, Cond.instanceMethod yX0_of, Cond.selects RX0 yX0_of yX0_of, Cond.code yX0_of cX0_of 3 (some .int), Cond.fieldLink RX0 9 "RentHarmony$Bids" "coins" "[I", Cond.methodLink RX0 19 yX0_has, Cond.methodLink RX2 149 yX2_ownBidOf, Cond.instanceMethod yX2_ownBidOf, Cond.selects RX2 yX2_ownBidOf yX2_ownBidOf, Cond.code yX2_ownBidOf cX2_ownBidOf 2 (some .int)]
def wsL_envies : List Cond := .codeWith yL_envies cL_envies 5 (some .int) [(0, 17, 20, 19)] :: ((wsL_envies_r1 ++ wsL_envies_r2) ++ wsX20 ++ wsX00 ++ wsX10 ++ (vx_atS RX2 71 "java/lang/IndexOutOfBoundsException" ["java/lang/RuntimeException", "java/lang/Exception"]).filter goodWord)
def wsL_gap_r1 : List Cond := [Cond.classLink RL 19 "java/lang/IndexOutOfBoundsException", Cond.methodLink RL 44 yX2_gap, Cond.instanceMethod yX2_gap, Cond.selects RX2 yX2_gap yX2_gap, Cond.initialized RX2, Cond.code yX2_gap cX2_gap 3 (some .int), Cond.classLink RX2 67 "java/lang/IndexOutOfBoundsException", Cond.initialized "java/lang/IndexOutOfBoundsException", Cond.fieldLink RX2 10 "RentHarmony" "bids" "LRentHarmony$Bids;", Cond.fieldLink RX2 19 "RentHarmony" "giving" "LRentHarmony$Giving;", Cond.methodLink RX2 63 yX0_has, Cond.instanceMethod yX0_has, Cond.selects RX0 yX0_has yX0_has, Cond.initialized RX0, Cond.code yX0_has cX0_has 2 (some .boolean), Cond.fieldLink RX0 15 "RentHarmony$Bids" "size" "I", Cond.methodLink RX2 114 yX2_rebateOf, Cond.instanceMethod yX2_rebateOf, Cond.selects RX2 yX2_rebateOf yX2_rebateOf, Cond.code yX2_rebateOf cX2_rebateOf 2 (some .int), Cond.fieldLink RX2 40 "RentHarmony" "share" "I", Cond.methodLink RX2 152 yX2_firstRebateOf, Cond.instanceMethod yX2_firstRebateOf, Cond.selects RX2 yX2_firstRebateOf yX2_firstRebateOf]
def wsL_gap_r2 : List Cond := [Cond.code yX2_firstRebateOf cX2_firstRebateOf 2 (some .int), Cond.fieldLink RX2 29 "RentHarmony" "firstRebates" "[I", Cond.methodLink RX2 92 yX1_roomOf, Cond.instanceMethod yX1_roomOf, Cond.selects RX1 yX1_roomOf yX1_roomOf, Cond.initialized RX1, Cond.code yX1_roomOf cX1_roomOf 2 (some .int), Cond.fieldLink RX1 18 "RentHarmony$Giving" "rooms" "[I", Cond.methodLink RX2 77 yX0_of, Cond.instanceMethod yX0_of, Cond.selects RX0 yX0_of yX0_of, Cond.code yX0_of cX0_of 3 (some .int), Cond.fieldLink RX0 9 "RentHarmony$Bids" "coins" "[I", Cond.methodLink RX0 19 yX0_has, Cond.methodLink RX2 117 yX2_payOf, Cond.instanceMethod yX2_payOf, Cond.selects RX2 yX2_payOf yX2_payOf, Cond.code yX2_payOf cX2_payOf 2 (some .int), Cond.methodLink RX2 149 yX2_ownBidOf, Cond.instanceMethod yX2_ownBidOf, Cond.selects RX2 yX2_ownBidOf yX2_ownBidOf, Cond.code yX2_ownBidOf cX2_ownBidOf 2 (some .int)]
def wsL_gap : List Cond := .codeWith yL_gap cL_gap 5 (some .int) [(0, 10, 13, 19)] :: ((wsL_gap_r1 ++ wsL_gap_r2) ++ wsX20 ++ wsX00 ++ wsX10 ++ (vx_atS RX2 71 "java/lang/IndexOutOfBoundsException" ["java/lang/RuntimeException", "java/lang/Exception"]).filter goodWord)
def wsL_would_r1 : List Cond := [Cond.classLink RL 19 "java/lang/IndexOutOfBoundsException", Cond.classLink RL 21 "java/lang/IllegalArgumentException", Cond.methodLink RL 47 yX2_would, Cond.instanceMethod yX2_would, Cond.selects RX2 yX2_would yX2_would, Cond.initialized RX2, Cond.code yX2_would cX2_would 4 (some .int), Cond.classLink RX2 67 "java/lang/IndexOutOfBoundsException", Cond.initialized "java/lang/IndexOutOfBoundsException", Cond.classLink RX2 72 "java/lang/IllegalArgumentException", Cond.initialized "java/lang/IllegalArgumentException", Cond.fieldLink RX2 10 "RentHarmony" "bids" "LRentHarmony$Bids;", Cond.fieldLink RX2 23 "RentHarmony" "triedBids" "LRentHarmony$Bids;", Cond.methodLink RX2 63 yX0_has, Cond.instanceMethod yX0_has, Cond.selects RX0 yX0_has yX0_has, Cond.initialized RX0, Cond.code yX0_has cX0_has 2 (some .boolean), Cond.fieldLink RX0 15 "RentHarmony$Bids" "size" "I", Cond.methodLink RX2 128 yX0_copy, Cond.instanceMethod yX0_copy, Cond.selects RX0 yX0_copy yX0_copy, Cond.code yX0_copy cX0_copy 2 none, Cond.fieldLink RX0 9 "RentHarmony$Bids" "coins" "[I"]
def wsL_would_r2 : List Cond := [Cond.methodLink RX0 23 arraycopyName, Cond.native arraycopyName, Cond.static arraycopyName, Cond.initialized "java/lang/System", Cond.methodLink RX2 132 yX2_roomTried, Cond.instanceMethod yX2_roomTried, Cond.selects RX2 yX2_roomTried yX2_roomTried, Cond.code yX2_roomTried cX2_roomTried 4 (some .int), Cond.fieldLink RX2 26 "RentHarmony" "triedGiving" "LRentHarmony$Giving;", Cond.methodLink RX2 81 yX0_set, Cond.instanceMethod yX0_set, Cond.selects RX0 yX0_set yX0_set, Cond.code yX0_set cX0_set 4 none, Cond.methodLink RX0 19 yX0_has, Cond.methodLink RX2 136 yX1_choose, Cond.instanceMethod yX1_choose, Cond.selects RX1 yX1_choose yX1_choose, Cond.initialized RX1, Cond.code yX1_choose cX1_choose 5 none, Cond.fieldLink RX1 9 "RentHarmony$Giving" "bestOfRest" "[I", Cond.fieldLink RX1 15 "RentHarmony$Giving" "waysOfRest" "[I", Cond.fieldLink RX1 18 "RentHarmony$Giving" "rooms" "[I", Cond.methodLink RX1 21 yX0_size, Cond.instanceMethod yX0_size]
def wsL_would_r3 : List Cond := [Cond.selects RX0 yX0_size yX0_size, Cond.code yX0_size cX0_size 1 (some .int), Cond.methodLink RX1 27 yX1_weigh, Cond.instanceMethod yX1_weigh, Cond.selects RX1 yX1_weigh yX1_weigh, Cond.code yX1_weigh cX1_weigh 9 none, Cond.methodLink RX1 35 yJ6_bitCount_0f7a4, Cond.static yJ6_bitCount_0f7a4, Cond.initialized RJ6, Cond.code yJ6_bitCount_0f7a4 cJ6_bitCount_0f7a4 1 (some .int), Cond.constant RJ6 265 (1431655765), Cond.constant RJ6 266 (858993459), Cond.constant RJ6 267 (252645135), Cond.methodLink RX1 41 yX0_of, Cond.instanceMethod yX0_of, Cond.selects RX0 yX0_of yX0_of, Cond.code yX0_of cX0_of 3 (some .int), Cond.methodLink RX1 31 yX1_firstBestRoom, Cond.instanceMethod yX1_firstBestRoom, Cond.selects RX1 yX1_firstBestRoom yX1_firstBestRoom, Cond.code yX1_firstBestRoom cX1_firstBestRoom 5 (some .int), Cond.methodLink RX2 92 yX1_roomOf, Cond.instanceMethod yX1_roomOf, Cond.selects RX1 yX1_roomOf yX1_roomOf]
def wsL_would_r4 : List Cond := [Cond.code yX1_roomOf cX1_roomOf 2 (some .int)]
def wsL_would : List Cond := .codeWith yL_would cL_would 6 (some .int) [(0, 12, 15, 19), (0, 12, 19, 21)] :: ((wsL_would_r1 ++ (wsL_would_r2 ++ (wsL_would_r3 ++ wsL_would_r4))) ++ wsX20 ++ wsX00 ++ wsX10 ++ (vx_atS RX2 71 "java/lang/IndexOutOfBoundsException" ["java/lang/RuntimeException", "java/lang/Exception"]).filter goodWord ++ (vx_atS RX2 76 "java/lang/IllegalArgumentException" ["java/lang/RuntimeException", "java/lang/Exception"]).filter goodWord)
def wsL_needs_r1 : List Cond := [Cond.classLink RL 19 "java/lang/IndexOutOfBoundsException", Cond.methodLink RL 50 yX2_needs, Cond.instanceMethod yX2_needs, Cond.selects RX2 yX2_needs yX2_needs, Cond.initialized RX2, Cond.code yX2_needs cX2_needs 6 (some .int), Cond.classLink RX2 67 "java/lang/IndexOutOfBoundsException", Cond.initialized "java/lang/IndexOutOfBoundsException", Cond.fieldLink RX2 10 "RentHarmony" "bids" "LRentHarmony$Bids;", Cond.fieldLink RX2 23 "RentHarmony" "triedBids" "LRentHarmony$Bids;", Cond.methodLink RX2 63 yX0_has, Cond.instanceMethod yX0_has, Cond.selects RX0 yX0_has yX0_has, Cond.initialized RX0, Cond.code yX0_has cX0_has 2 (some .boolean), Cond.fieldLink RX0 15 "RentHarmony$Bids" "size" "I", Cond.methodLink RX2 128 yX0_copy, Cond.instanceMethod yX0_copy, Cond.selects RX0 yX0_copy yX0_copy, Cond.code yX0_copy cX0_copy 2 none, Cond.fieldLink RX0 9 "RentHarmony$Bids" "coins" "[I", Cond.methodLink RX0 23 arraycopyName, Cond.native arraycopyName, Cond.static arraycopyName]
def wsL_needs_r2 : List Cond := [Cond.initialized "java/lang/System", Cond.methodLink RX2 132 yX2_roomTried, Cond.instanceMethod yX2_roomTried, Cond.selects RX2 yX2_roomTried yX2_roomTried, Cond.code yX2_roomTried cX2_roomTried 4 (some .int), Cond.fieldLink RX2 26 "RentHarmony" "triedGiving" "LRentHarmony$Giving;", Cond.methodLink RX2 81 yX0_set, Cond.instanceMethod yX0_set, Cond.selects RX0 yX0_set yX0_set, Cond.code yX0_set cX0_set 4 none, Cond.methodLink RX0 19 yX0_has, Cond.methodLink RX2 136 yX1_choose, Cond.instanceMethod yX1_choose, Cond.selects RX1 yX1_choose yX1_choose, Cond.initialized RX1, Cond.code yX1_choose cX1_choose 5 none, Cond.fieldLink RX1 9 "RentHarmony$Giving" "bestOfRest" "[I", Cond.fieldLink RX1 15 "RentHarmony$Giving" "waysOfRest" "[I", Cond.fieldLink RX1 18 "RentHarmony$Giving" "rooms" "[I", Cond.methodLink RX1 21 yX0_size, Cond.instanceMethod yX0_size, Cond.selects RX0 yX0_size yX0_size, Cond.code yX0_size cX0_size 1 (some .int), Cond.methodLink RX1 27 yX1_weigh]
def wsL_needs_r3 : List Cond := [Cond.instanceMethod yX1_weigh, Cond.selects RX1 yX1_weigh yX1_weigh, Cond.code yX1_weigh cX1_weigh 9 none, Cond.methodLink RX1 35 yJ6_bitCount_0f7a4, Cond.static yJ6_bitCount_0f7a4, Cond.initialized RJ6, Cond.code yJ6_bitCount_0f7a4 cJ6_bitCount_0f7a4 1 (some .int), Cond.constant RJ6 265 (1431655765), Cond.constant RJ6 266 (858993459), Cond.constant RJ6 267 (252645135), Cond.methodLink RX1 41 yX0_of, Cond.instanceMethod yX0_of, Cond.selects RX0 yX0_of yX0_of, Cond.code yX0_of cX0_of 3 (some .int), Cond.methodLink RX1 31 yX1_firstBestRoom, Cond.instanceMethod yX1_firstBestRoom, Cond.selects RX1 yX1_firstBestRoom yX1_firstBestRoom, Cond.code yX1_firstBestRoom cX1_firstBestRoom 5 (some .int), Cond.methodLink RX2 92 yX1_roomOf, Cond.instanceMethod yX1_roomOf, Cond.selects RX1 yX1_roomOf yX1_roomOf, Cond.code yX1_roomOf cX1_roomOf 2 (some .int)]
def wsL_needs : List Cond := .codeWith yL_needs cL_needs 5 (some .int) [(0, 10, 13, 19)] :: ((wsL_needs_r1 ++ (wsL_needs_r2 ++ wsL_needs_r3)) ++ wsX20 ++ wsX00 ++ wsX10 ++ (vx_atS RX2 71 "java/lang/IndexOutOfBoundsException" ["java/lang/RuntimeException", "java/lang/Exception"]).filter goodWord)
def wsL_without_r1 : List Cond := [Cond.classLink RL 19 "java/lang/IndexOutOfBoundsException", Cond.methodLink RL 53 yX2_without, Cond.instanceMethod yX2_without, Cond.selects RX2 yX2_without yX2_without, Cond.initialized RX2, Cond.code yX2_without cX2_without 3 (some .int), Cond.classLink RX2 67 "java/lang/IndexOutOfBoundsException", Cond.initialized "java/lang/IndexOutOfBoundsException", Cond.fieldLink RX2 10 "RentHarmony" "bids" "LRentHarmony$Bids;", Cond.fieldLink RX2 23 "RentHarmony" "triedBids" "LRentHarmony$Bids;", Cond.fieldLink RX2 26 "RentHarmony" "triedGiving" "LRentHarmony$Giving;", Cond.methodLink RX2 63 yX0_has, Cond.instanceMethod yX0_has, Cond.selects RX0 yX0_has yX0_has, Cond.initialized RX0, Cond.code yX0_has cX0_has 2 (some .boolean), Cond.fieldLink RX0 15 "RentHarmony$Bids" "size" "I", Cond.methodLink RX2 128 yX0_copy, Cond.instanceMethod yX0_copy, Cond.selects RX0 yX0_copy yX0_copy, Cond.code yX0_copy cX0_copy 2 none, Cond.fieldLink RX0 9 "RentHarmony$Bids" "coins" "[I", Cond.methodLink RX0 23 arraycopyName, Cond.native arraycopyName]
def wsL_without_r2 : List Cond := [Cond.static arraycopyName, Cond.initialized "java/lang/System", Cond.methodLink RX2 46 yX0_size, Cond.instanceMethod yX0_size, Cond.selects RX0 yX0_size yX0_size, Cond.code yX0_size cX0_size 1 (some .int), Cond.methodLink RX2 81 yX0_set, Cond.instanceMethod yX0_set, Cond.selects RX0 yX0_set yX0_set, Cond.code yX0_set cX0_set 4 none, Cond.methodLink RX0 19 yX0_has, Cond.methodLink RX2 136 yX1_choose, Cond.instanceMethod yX1_choose, Cond.selects RX1 yX1_choose yX1_choose, Cond.initialized RX1, Cond.code yX1_choose cX1_choose 5 none, Cond.fieldLink RX1 9 "RentHarmony$Giving" "bestOfRest" "[I", Cond.fieldLink RX1 15 "RentHarmony$Giving" "waysOfRest" "[I", Cond.fieldLink RX1 18 "RentHarmony$Giving" "rooms" "[I", Cond.methodLink RX1 21 yX0_size, Cond.methodLink RX1 27 yX1_weigh, Cond.instanceMethod yX1_weigh, Cond.selects RX1 yX1_weigh yX1_weigh, Cond.code yX1_weigh cX1_weigh 9 none]
def wsL_without_r3 : List Cond := [Cond.methodLink RX1 35 yJ6_bitCount_0f7a4, Cond.static yJ6_bitCount_0f7a4, Cond.initialized RJ6, Cond.code yJ6_bitCount_0f7a4 cJ6_bitCount_0f7a4 1 (some .int), Cond.constant RJ6 265 (1431655765), Cond.constant RJ6 266 (858993459), Cond.constant RJ6 267 (252645135), Cond.methodLink RX1 41 yX0_of, Cond.instanceMethod yX0_of, Cond.selects RX0 yX0_of yX0_of, Cond.code yX0_of cX0_of 3 (some .int), Cond.methodLink RX1 31 yX1_firstBestRoom, Cond.instanceMethod yX1_firstBestRoom, Cond.selects RX1 yX1_firstBestRoom yX1_firstBestRoom, Cond.code yX1_firstBestRoom cX1_firstBestRoom 5 (some .int), Cond.methodLink RX2 139 yX1_worth, Cond.instanceMethod yX1_worth, Cond.selects RX1 yX1_worth yX1_worth, Cond.code yX1_worth cX1_worth 1 (some .int)]
def wsL_without : List Cond := .codeWith yL_without cL_without 4 (some .int) [(0, 9, 12, 19)] :: ((wsL_without_r1 ++ (wsL_without_r2 ++ wsL_without_r3)) ++ wsX20 ++ wsX00 ++ wsX10 ++ (vx_atS RX2 71 "java/lang/IndexOutOfBoundsException" ["java/lang/RuntimeException", "java/lang/Exception"]).filter goodWord)
def wsL_law0_r1 : List Cond := [Cond.classLink RL 8 RX2, Cond.instantiable RX2 9, Cond.initialized RX2, Cond.classLink RL 57 RX3, Cond.instantiable RX3 15, Cond.initialized RX3, Cond.arrayClass .long, Cond.methodLink RL 56 yX2_init, Cond.instanceMethod yX2_init, Cond.code yX2_init cX2_init 1 none, Cond.methodLink RX2 1 objectInit, Cond.instanceMethod objectInit, Cond.code objectInit ⟨#[0xb1]⟩ 1 none, Cond.classLink RX2 7 RX0, Cond.instantiable RX0 2, Cond.initialized RX0, Cond.fieldLink RX2 10 "RentHarmony" "bids" "LRentHarmony$Bids;", Cond.classLink RX2 16 RX1, Cond.instantiable RX1 3, Cond.initialized RX1, Cond.fieldLink RX2 19 "RentHarmony" "giving" "LRentHarmony$Giving;", Cond.fieldLink RX2 23 "RentHarmony" "triedBids" "LRentHarmony$Bids;", Cond.fieldLink RX2 26 "RentHarmony" "triedGiving" "LRentHarmony$Giving;", Cond.arrayClass .int]
def wsL_law0_r2 : List Cond := [Cond.fieldLink RX2 29 "RentHarmony" "firstRebates" "[I", Cond.fieldLink RX2 33 "RentHarmony" "chains" "[I", Cond.fieldLink RX2 36 "RentHarmony" "rentCoins" "I", Cond.fieldLink RX2 40 "RentHarmony" "share" "I", Cond.fieldLink RX2 43 "RentHarmony" "pot" "I", Cond.instanceMethod yX0_init, Cond.code yX0_init cX0_init 1 none, Cond.methodLink RX0 3 objectInit, Cond.fieldLink RX0 9 "RentHarmony$Bids" "coins" "[I", Cond.fieldLink RX0 15 "RentHarmony$Bids" "size" "I", Cond.methodLink RX2 18 yX1_init, Cond.instanceMethod yX1_init, Cond.code yX1_init cX1_init 1 none, Cond.methodLink RX1 3 objectInit, Cond.fieldLink RX1 9 "RentHarmony$Giving" "bestOfRest" "[I", Cond.fieldLink RX1 15 "RentHarmony$Giving" "waysOfRest" "[I", Cond.fieldLink RX1 18 "RentHarmony$Giving" "rooms" "[I", Cond.methodLink RL 59 yX3_init, Cond.instanceMethod yX3_init, Cond.code yX3_init cX3_init 1 none, Cond.methodLink RX3 1 objectInit, Cond.fieldLink RX3 9 "RentHarmonyModel" "bids" "[I", Cond.fieldLink RX3 13 "RentHarmonyModel" "rooms" "[I", Cond.fieldLink RX3 16 "RentHarmonyModel" "early" "[I"]
def wsL_law0_r3 : List Cond := [Cond.fieldLink RX3 19 "RentHarmonyModel" "rebates" "[I", Cond.fieldLink RX3 22 "RentHarmonyModel" "tried" "[I", Cond.fieldLink RX3 25 "RentHarmonyModel" "free" "I", Cond.fieldLink RX3 29 "RentHarmonyModel" "who" "I", Cond.fieldLink RX3 32 "RentHarmonyModel" "which" "I", Cond.methodLink RL 60 yL_come, Cond.static yL_come, Cond.initialized RL, Cond.codeWith yL_come cL_come 3 (some .int) [(0, 8, 11, 13)], Cond.classLink RL 13 "java/lang/IllegalStateException", Cond.methodLink RL 7 yX2_come, Cond.instanceMethod yX2_come, Cond.selects RX2 yX2_come yX2_come, Cond.code yX2_come cX2_come 1 (some .int), Cond.classLink RX2 50 "java/lang/IllegalStateException", Cond.initialized "java/lang/IllegalStateException", Cond.methodLink RX2 46 yX0_size, Cond.instanceMethod yX0_size, Cond.selects RX0 yX0_size yX0_size, Cond.code yX0_size cX0_size 1 (some .int), Cond.methodLink RX2 57 yX0_grow, Cond.instanceMethod yX0_grow, Cond.selects RX0 yX0_grow yX0_grow, Cond.code yX0_grow cX0_grow 2 none]
def wsL_law0_r4 : List Cond := [Cond.methodLink RX0 29 yX0_set, Cond.instanceMethod yX0_set, Cond.selects RX0 yX0_set yX0_set, Cond.code yX0_set cX0_set 4 none, Cond.methodLink RX0 19 yX0_has, Cond.instanceMethod yX0_has, Cond.selects RX0 yX0_has yX0_has, Cond.code yX0_has cX0_has 2 (some .boolean), Cond.methodLink RX2 60 yX2_settleAll, Cond.instanceMethod yX2_settleAll, Cond.selects RX2 yX2_settleAll yX2_settleAll, Cond.code yX2_settleAll cX2_settleAll 1 none, Cond.methodLink RX2 136 yX1_choose, Cond.instanceMethod yX1_choose, Cond.selects RX1 yX1_choose yX1_choose, Cond.code yX1_choose cX1_choose 5 none, Cond.methodLink RX1 21 yX0_size, Cond.methodLink RX1 27 yX1_weigh, Cond.instanceMethod yX1_weigh, Cond.selects RX1 yX1_weigh yX1_weigh, Cond.code yX1_weigh cX1_weigh 9 none, Cond.methodLink RX1 35 yJ6_bitCount_0f7a4, Cond.static yJ6_bitCount_0f7a4, Cond.initialized RJ6]
def wsL_law0_r5 : List Cond := [Cond.code yJ6_bitCount_0f7a4 cJ6_bitCount_0f7a4 1 (some .int), Cond.constant RJ6 265 (1431655765), Cond.constant RJ6 266 (858993459), Cond.constant RJ6 267 (252645135), Cond.methodLink RX1 41 yX0_of, Cond.instanceMethod yX0_of, Cond.selects RX0 yX0_of yX0_of, Cond.code yX0_of cX0_of 3 (some .int), Cond.methodLink RX1 31 yX1_firstBestRoom, Cond.instanceMethod yX1_firstBestRoom, Cond.selects RX1 yX1_firstBestRoom yX1_firstBestRoom, Cond.code yX1_firstBestRoom cX1_firstBestRoom 5 (some .int), Cond.methodLink RX2 164 yX2_settleFirstRebates, Cond.instanceMethod yX2_settleFirstRebates, Cond.selects RX2 yX2_settleFirstRebates yX2_settleFirstRebates, Cond.code yX2_settleFirstRebates cX2_settleFirstRebates 4 none, Cond.methodLink RX2 167 yX2_bestOfAllRooms, Cond.instanceMethod yX2_bestOfAllRooms, Cond.selects RX2 yX2_bestOfAllRooms yX2_bestOfAllRooms, Cond.code yX2_bestOfAllRooms cX2_bestOfAllRooms 5 (some .int), Cond.methodLink RX2 123 Lib.Math.max.name, Cond.static Lib.Math.max.name, Cond.initialized "java/lang/Math", Cond.code Lib.Math.max.name Lib.Math.max.code 2 (some .int)]
def wsL_law0_r6 : List Cond := [Cond.methodLink RX2 152 yX2_firstRebateOf, Cond.instanceMethod yX2_firstRebateOf, Cond.selects RX2 yX2_firstRebateOf yX2_firstRebateOf, Cond.code yX2_firstRebateOf cX2_firstRebateOf 2 (some .int), Cond.methodLink RX2 63 yX0_has, Cond.methodLink RX2 149 yX2_ownBidOf, Cond.instanceMethod yX2_ownBidOf, Cond.selects RX2 yX2_ownBidOf yX2_ownBidOf, Cond.code yX2_ownBidOf cX2_ownBidOf 2 (some .int), Cond.methodLink RX2 92 yX1_roomOf, Cond.instanceMethod yX1_roomOf, Cond.selects RX1 yX1_roomOf yX1_roomOf, Cond.code yX1_roomOf cX1_roomOf 2 (some .int), Cond.methodLink RX2 77 yX0_of, Cond.methodLink RX2 87 yX2_settleLeftOver, Cond.instanceMethod yX2_settleLeftOver, Cond.selects RX2 yX2_settleLeftOver yX2_settleLeftOver, Cond.code yX2_settleLeftOver cX2_settleLeftOver 3 none, Cond.methodLink RX2 139 yX1_worth, Cond.instanceMethod yX1_worth, Cond.selects RX1 yX1_worth yX1_worth, Cond.code yX1_worth cX1_worth 1 (some .int), Cond.methodLink RX2 158 yX2_allFirstRebates, Cond.instanceMethod yX2_allFirstRebates]
def wsL_law0_r7 : List Cond := [Cond.selects RX2 yX2_allFirstRebates yX2_allFirstRebates, Cond.code yX2_allFirstRebates cX2_allFirstRebates 3 (some .int), Cond.methodLink RL 65 yX3_come, Cond.instanceMethod yX3_come, Cond.selects RX3 yX3_come yX3_come, Cond.code yX3_come cX3_come 2 (some .int), Cond.fieldLink RX3 35 "RentHarmonyModel" "thrown" "I", Cond.fieldLink RX3 38 "RentHarmonyModel" "lodgers" "I", Cond.methodLink RX3 45 yX3_fail, Cond.instanceMethod yX3_fail, Cond.selects RX3 yX3_fail yX3_fail, Cond.code yX3_fail cX3_fail 2 (some .int), Cond.methodLink RL 66 yX3_thrown, Cond.instanceMethod yX3_thrown, Cond.selects RX3 yX3_thrown yX3_thrown, Cond.code yX3_thrown cX3_thrown 1 (some .int), Cond.methodLink RL 69 yL_bid, Cond.static yL_bid, Cond.codeWith yL_bid cL_bid 6 (some .int) [(0, 12, 15, 19), (0, 12, 19, 21)], Cond.classLink RL 19 "java/lang/IndexOutOfBoundsException", Cond.classLink RL 21 "java/lang/IllegalArgumentException", Cond.methodLink RL 15 yX2_bid, Cond.instanceMethod yX2_bid, Cond.selects RX2 yX2_bid yX2_bid]
def wsL_law0_r8 : List Cond := [Cond.code yX2_bid cX2_bid 5 (some .int), Cond.classLink RX2 67 "java/lang/IndexOutOfBoundsException", Cond.initialized "java/lang/IndexOutOfBoundsException", Cond.classLink RX2 72 "java/lang/IllegalArgumentException", Cond.initialized "java/lang/IllegalArgumentException", Cond.methodLink RX2 81 yX0_set, Cond.methodLink RL 72 yX3_bid, Cond.instanceMethod yX3_bid, Cond.selects RX3 yX3_bid yX3_bid, Cond.code yX3_bid cX3_bid 5 (some .int), Cond.methodLink RX3 49 yX3_isOne, Cond.instanceMethod yX3_isOne, Cond.selects RX3 yX3_isOne yX3_isOne, Cond.code yX3_isOne cX3_isOne 2 (some .boolean), Cond.methodLink RX3 41 yX3_isIn, Cond.static yX3_isIn, Cond.code yX3_isIn cX3_isIn 3 (some .boolean), Cond.methodLink RX3 53 yX3_bi, Cond.instanceMethod yX3_bi, Cond.selects RX3 yX3_bi yX3_bi, Cond.code yX3_bi cX3_bi 3 (some .int), Cond.methodLink RL 73 yL_rent, Cond.static yL_rent, Cond.codeWith yL_rent cL_rent 4 (some .int) [(0, 9, 12, 21)]]
def wsL_law0_r9 : List Cond := [Cond.methodLink RL 23 yX2_rent, Cond.instanceMethod yX2_rent, Cond.selects RX2 yX2_rent yX2_rent, Cond.code yX2_rent cX2_rent 3 (some .int), Cond.methodLink RL 76 yX3_rent, Cond.instanceMethod yX3_rent, Cond.selects RX3 yX3_rent yX3_rent, Cond.code yX3_rent cX3_rent 3 (some .int), Cond.fieldLink RX3 57 "RentHarmonyModel" "rent" "I", Cond.methodLink RL 77 yL_leave, Cond.static yL_leave, Cond.codeWith yL_leave cL_leave 4 (some .int) [(0, 9, 12, 19)], Cond.methodLink RL 27 yX2_leave, Cond.instanceMethod yX2_leave, Cond.selects RX2 yX2_leave yX2_leave, Cond.code yX2_leave cX2_leave 3 (some .int), Cond.methodLink RX2 96 yX0_shrink, Cond.instanceMethod yX0_shrink, Cond.selects RX0 yX0_shrink yX0_shrink, Cond.code yX0_shrink cX0_shrink 5 none, Cond.methodLink RX0 33 yX0_of, Cond.methodLink RL 79 yX3_leave, Cond.instanceMethod yX3_leave, Cond.selects RX3 yX3_leave yX3_leave]
def wsL_law0_r10 : List Cond := [Cond.code yX3_leave cX3_leave 5 (some .int), Cond.methodLink RX3 98 yX3_settle, Cond.instanceMethod yX3_settle, Cond.selects RX3 yX3_settle yX3_settle, Cond.code yX3_settle cX3_settle 4 none, Cond.fieldLink RX3 64 "RentHarmonyModel" "worth" "I", Cond.fieldLink RX3 95 "RentHarmonyModel" "pot" "I", Cond.methodLink RX3 87 yX3_give, Cond.instanceMethod yX3_give, Cond.selects RX3 yX3_give yX3_give, Cond.code yX3_give cX3_give 1 (some .int), Cond.fieldLink RX3 67 "RentHarmonyModel" "ways" "I", Cond.methodLink RX3 80 yX3_tryFrom, Cond.instanceMethod yX3_tryFrom, Cond.selects RX3 yX3_tryFrom yX3_tryFrom, Cond.code yX3_tryFrom cX3_tryFrom 4 none, Cond.methodLink RX3 70 arraycopyName, Cond.native arraycopyName, Cond.static arraycopyName, Cond.initialized "java/lang/System", Cond.methodLink RX3 76 yX3_isTaken, Cond.instanceMethod yX3_isTaken, Cond.selects RX3 yX3_isTaken yX3_isTaken, Cond.code yX3_isTaken cX3_isTaken 4 (some .boolean)]
def wsL_law0_r11 : List Cond := [Cond.fieldLink RX3 60 "RentHarmonyModel" "must" "Z", Cond.methodLink RX3 91 yX3_isRaised, Cond.instanceMethod yX3_isRaised, Cond.selects RX3 yX3_isRaised yX3_isRaised, Cond.code yX3_isRaised cX3_isRaised 4 (some .boolean), Cond.methodLink RX3 84 yX3_of, Cond.instanceMethod yX3_of, Cond.selects RX3 yX3_of yX3_of, Cond.code yX3_of cX3_of 3 (some .int), Cond.methodLink RL 80 yL_told, Cond.static yL_told, Cond.codeWith yL_told cL_told 5 (some .int) [(0, 10, 13, 19)], Cond.methodLink RL 30 yX2_told, Cond.instanceMethod yX2_told, Cond.selects RX2 yX2_told yX2_told, Cond.code yX2_told cX2_told 3 (some .int), Cond.methodLink RX2 102 yX2_fact, Cond.instanceMethod yX2_fact, Cond.selects RX2 yX2_fact yX2_fact, Cond.code yX2_fact cX2_fact 3 (some .int), Cond.methodLink RX2 114 yX2_rebateOf, Cond.instanceMethod yX2_rebateOf, Cond.selects RX2 yX2_rebateOf yX2_rebateOf, Cond.code yX2_rebateOf cX2_rebateOf 2 (some .int)]
def wsL_law0_r12 : List Cond := [Cond.methodLink RX2 117 yX2_payOf, Cond.instanceMethod yX2_payOf, Cond.selects RX2 yX2_payOf yX2_payOf, Cond.code yX2_payOf cX2_payOf 2 (some .int), Cond.methodLink RX2 155 yX2_enviedBy, Cond.instanceMethod yX2_enviedBy, Cond.selects RX2 yX2_enviedBy yX2_enviedBy, Cond.code yX2_enviedBy cX2_enviedBy 4 (some .int), Cond.methodLink RX2 110 yX2_wouldEnvy, Cond.instanceMethod yX2_wouldEnvy, Cond.selects RX2 yX2_wouldEnvy yX2_wouldEnvy, Cond.code yX2_wouldEnvy cX2_wouldEnvy 3 (some .boolean), Cond.methodLink RL 83 yX3_told, Cond.instanceMethod yX3_told, Cond.selects RX3 yX3_told yX3_told, Cond.code yX3_told cX3_told 3 (some .int), Cond.methodLink RX3 107 yX3_toldOf, Cond.instanceMethod yX3_toldOf, Cond.selects RX3 yX3_toldOf yX3_toldOf, Cond.code yX3_toldOf cX3_toldOf 5 (some .int), Cond.methodLink RX3 101 yX3_pays, Cond.instanceMethod yX3_pays, Cond.selects RX3 yX3_pays yX3_pays, Cond.code yX3_pays cX3_pays 2 (some .int)]
def wsL_law0_r13 : List Cond := [Cond.methodLink RX3 104 yX3_isEnvy, Cond.instanceMethod yX3_isEnvy, Cond.selects RX3 yX3_isEnvy yX3_isEnvy, Cond.code yX3_isEnvy cX3_isEnvy 3 (some .boolean), Cond.methodLink RL 84 yL_offer, Cond.static yL_offer, Cond.codeWith yL_offer cL_offer 5 (some .int) [(0, 10, 13, 19)], Cond.methodLink RL 34 yX2_offer, Cond.instanceMethod yX2_offer, Cond.selects RX2 yX2_offer yX2_offer, Cond.code yX2_offer cX2_offer 3 (some .int), Cond.methodLink RL 86 yX3_offer, Cond.instanceMethod yX3_offer, Cond.selects RX3 yX3_offer yX3_offer, Cond.code yX3_offer cX3_offer 3 (some .int), Cond.methodLink RL 87 yL_count, Cond.static yL_count, Cond.codeWith yL_count cL_count 4 (some .int) [(0, 9, 12, 19)], Cond.methodLink RL 37 yX2_count, Cond.instanceMethod yX2_count, Cond.selects RX2 yX2_count yX2_count, Cond.code yX2_count cX2_count 2 (some .int), Cond.methodLink RX2 107 yX2_total, Cond.instanceMethod yX2_total]
def wsL_law0_r14 : List Cond := [Cond.selects RX2 yX2_total yX2_total, Cond.code yX2_total cX2_total 2 (some .int), Cond.methodLink RX2 161 yX1_ways, Cond.instanceMethod yX1_ways, Cond.selects RX1 yX1_ways yX1_ways, Cond.code yX1_ways cX1_ways 1 (some .int), Cond.methodLink RX2 142 yX2_allPays, Cond.instanceMethod yX2_allPays, Cond.selects RX2 yX2_allPays yX2_allPays, Cond.code yX2_allPays cX2_allPays 3 (some .int), Cond.methodLink RL 89 yX3_count, Cond.instanceMethod yX3_count, Cond.selects RX3 yX3_count yX3_count, Cond.code yX3_count cX3_count 2 (some .int), Cond.methodLink RX3 110 yX3_counted, Cond.instanceMethod yX3_counted, Cond.selects RX3 yX3_counted yX3_counted, Cond.code yX3_counted cX3_counted 4 (some .int), Cond.methodLink RL 90 yL_envies, Cond.static yL_envies, Cond.codeWith yL_envies cL_envies 5 (some .int) [(0, 17, 20, 19)], Cond.methodLink RL 40 yX2_envies, Cond.instanceMethod yX2_envies, Cond.selects RX2 yX2_envies yX2_envies]
def wsL_law0_r15 : List Cond := [Cond.code yX2_envies cX2_envies 3 (some .boolean), Cond.methodLink RL 92 yX3_envies, Cond.instanceMethod yX3_envies, Cond.selects RX3 yX3_envies yX3_envies, Cond.code yX3_envies cX3_envies 3 (some .boolean), Cond.methodLink RL 93 yL_gap, Cond.static yL_gap, Cond.codeWith yL_gap cL_gap 5 (some .int) [(0, 10, 13, 19)], Cond.methodLink RL 44 yX2_gap, Cond.instanceMethod yX2_gap, Cond.selects RX2 yX2_gap yX2_gap, Cond.code yX2_gap cX2_gap 3 (some .int), Cond.methodLink RL 95 yX3_gap, Cond.instanceMethod yX3_gap, Cond.selects RX3 yX3_gap yX3_gap, Cond.code yX3_gap cX3_gap 3 (some .int), Cond.methodLink RL 96 yX2_chain, Cond.instanceMethod yX2_chain, Cond.selects RX2 yX2_chain yX2_chain, Cond.code yX2_chain cX2_chain 4 (some .int), Cond.methodLink RX2 120 yX2_longestChainFrom, Cond.instanceMethod yX2_longestChainFrom, Cond.selects RX2 yX2_longestChainFrom yX2_longestChainFrom, Cond.code yX2_longestChainFrom cX2_longestChainFrom 4 (some .int)]
def wsL_law0_r16 : List Cond := [Cond.methodLink RL 99 yX3_chain, Cond.instanceMethod yX3_chain, Cond.selects RX3 yX3_chain yX3_chain, Cond.code yX3_chain cX3_chain 3 (some .int), Cond.methodLink RX3 116 Lib.Math.max.name, Cond.methodLink RX3 113 yX3_chainFrom, Cond.instanceMethod yX3_chainFrom, Cond.selects RX3 yX3_chainFrom yX3_chainFrom, Cond.code yX3_chainFrom cX3_chainFrom 4 (some .int), Cond.methodLink RL 100 yL_would, Cond.static yL_would, Cond.codeWith yL_would cL_would 6 (some .int) [(0, 12, 15, 19), (0, 12, 19, 21)], Cond.methodLink RL 47 yX2_would, Cond.instanceMethod yX2_would, Cond.selects RX2 yX2_would yX2_would, Cond.code yX2_would cX2_would 4 (some .int), Cond.methodLink RX2 128 yX0_copy, Cond.instanceMethod yX0_copy, Cond.selects RX0 yX0_copy yX0_copy, Cond.code yX0_copy cX0_copy 2 none, Cond.methodLink RX0 23 arraycopyName, Cond.methodLink RX2 132 yX2_roomTried, Cond.instanceMethod yX2_roomTried, Cond.selects RX2 yX2_roomTried yX2_roomTried]
def wsL_law0_r17 : List Cond := [Cond.code yX2_roomTried cX2_roomTried 4 (some .int), Cond.methodLink RL 102 yX3_would, Cond.instanceMethod yX3_would, Cond.selects RX3 yX3_would yX3_would, Cond.code yX3_would cX3_would 4 (some .int), Cond.methodLink RX3 121 yX3_roomWith, Cond.instanceMethod yX3_roomWith, Cond.selects RX3 yX3_roomWith yX3_roomWith, Cond.code yX3_roomWith cX3_roomWith 5 (some .int), Cond.methodLink RL 103 yL_needs, Cond.static yL_needs, Cond.codeWith yL_needs cL_needs 5 (some .int) [(0, 10, 13, 19)], Cond.methodLink RL 50 yX2_needs, Cond.instanceMethod yX2_needs, Cond.selects RX2 yX2_needs yX2_needs, Cond.code yX2_needs cX2_needs 6 (some .int), Cond.methodLink RL 105 yX3_needs, Cond.instanceMethod yX3_needs, Cond.selects RX3 yX3_needs yX3_needs, Cond.code yX3_needs cX3_needs 7 (some .int), Cond.methodLink RX3 129 Lib.Math.min.name, Cond.static Lib.Math.min.name, Cond.code Lib.Math.min.name Lib.Math.min.code 2 (some .int), Cond.methodLink RX3 125 yX3_worthWith]
def wsL_law0_r18 : List Cond := [Cond.instanceMethod yX3_worthWith, Cond.selects RX3 yX3_worthWith yX3_worthWith, Cond.code yX3_worthWith cX3_worthWith 6 (some .int), Cond.methodLink RL 106 yL_without, Cond.static yL_without, Cond.codeWith yL_without cL_without 4 (some .int) [(0, 9, 12, 19)], Cond.methodLink RL 53 yX2_without, Cond.instanceMethod yX2_without, Cond.selects RX2 yX2_without yX2_without, Cond.code yX2_without cX2_without 3 (some .int), Cond.methodLink RL 108 yX3_without, Cond.instanceMethod yX3_without, Cond.selects RX3 yX3_without yX3_without, Cond.code yX3_without cX3_without 3 (some .int), Cond.methodLink RL 109 yX2_mean, Cond.instanceMethod yX2_mean, Cond.selects RX2 yX2_mean yX2_mean, Cond.code yX2_mean cX2_mean 2 (some .double), Cond.methodLink RL 113 yX3_mean, Cond.instanceMethod yX3_mean, Cond.selects RX3 yX3_mean yX3_mean, Cond.code yX3_mean cX3_mean 2 (some .double), Cond.methodLink RL 114 yX2_digest, Cond.instanceMethod yX2_digest]
def wsL_law0_r19 : List Cond := [Cond.selects RX2 yX2_digest yX2_digest, Cond.code yX2_digest cX2_digest 5 (some .long), Cond.constantLong RX2 145 (1301), Cond.constantLong RX2 147 (31), Cond.methodLink RL 118 yX3_digest, Cond.instanceMethod yX3_digest, Cond.selects RX3 yX3_digest yX3_digest, Cond.code yX3_digest cX3_digest 5 (some .long), Cond.constantLong RX3 132 (1301), Cond.constantLong RX3 134 (31)]
def wsL_law0 : List Cond := (wsL_law0_r1 ++ (wsL_law0_r2 ++ (wsL_law0_r3 ++ (wsL_law0_r4 ++ (wsL_law0_r5 ++ (wsL_law0_r6 ++ (wsL_law0_r7 ++ (wsL_law0_r8 ++ (wsL_law0_r9 ++ (wsL_law0_r10 ++ (wsL_law0_r11 ++ (wsL_law0_r12 ++ (wsL_law0_r13 ++ (wsL_law0_r14 ++ (wsL_law0_r15 ++ (wsL_law0_r16 ++ (wsL_law0_r17 ++ (wsL_law0_r18 ++ wsL_law0_r19)))))))))))))))))) ++ wsX20 ++ wsX30 ++ wsX00 ++ wsX10 ++ ([] : List Cond)
def wsL_law : List Cond := wsL_law0 ++ (vx_atS RX2 54 "java/lang/IllegalStateException" ["java/lang/RuntimeException", "java/lang/Exception"]).filter goodWord ++ (vx_atS RX2 71 "java/lang/IndexOutOfBoundsException" ["java/lang/RuntimeException", "java/lang/Exception"]).filter goodWord ++ (vx_atS RX2 76 "java/lang/IllegalArgumentException" ["java/lang/RuntimeException", "java/lang/Exception"]).filter goodWord
abbrev vwCl : List vw_C := [(RX0, TX0, 2), (RX1, TX1, 3), (RX2, TX2, 9), (RX3, TX3, 15)]
end
section
theorem z_memIn {big : List Cond} (ws : List Cond) (ps : List Nat) (hp : ws = ps.filterMap (fun i => big[i]?)) : ∀ w ∈ ws, w ∈ big := by
  intro w hw
  rw [hp] at hw
  obtain ⟨i, -, hi⟩ := List.mem_filterMap.mp hw
  exact List.mem_of_getElem? hi
set_option maxRecDepth 20000 in
theorem wsL_law0_r1_in : ∀ w ∈ wsL_law0_r1, w ∈ lw_tbl := z_memIn _ [49, 50, 36, 453, 454, 39, 643, 51, 52, 53, 54, 55, 56, 57, 58, 37, 87, 71, 72, 38, 88, 89, 90, 70] rfl
set_option maxRecDepth 20000 in
theorem wsL_law0_r2_in : ∀ w ∈ wsL_law0_r2, w ∈ lw_tbl := z_memIn _ [91, 92, 93, 94, 95, 60, 61, 62, 63, 64, 73, 74, 75, 76, 77, 78, 79, 455, 456, 457, 458, 462, 463, 464] rfl
set_option maxRecDepth 20000 in
theorem wsL_law0_r3_in : ∀ w ∈ wsL_law0_r3, w ∈ lw_tbl := z_memIn _ [465, 469, 470, 471, 472, 201, 202, 35, 203, 204, 205, 206, 207, 208, 209, 43, 119, 120, 121, 122, 277, 278, 279, 280] rfl
set_option maxRecDepth 20000 in
theorem wsL_law0_r4_in : ∀ w ∈ wsL_law0_r4, w ∈ lw_tbl := z_memIn _ [281, 282, 283, 284, 139, 140, 141, 142, 285, 287, 12, 288, 289, 290, 291, 292, 293, 294, 296, 13, 297, 298, 299, 44] rfl
set_option maxRecDepth 20000 in
theorem wsL_law0_r5_in : ∀ w ∈ wsL_law0_r5, w ∈ lw_tbl := z_memIn _ [300, 301, 302, 303, 304, 136, 137, 138, 305, 307, 14, 308, 309, 311, 15, 312, 313, 315, 16, 316, 147, 148, 45, 149] rfl
set_option maxRecDepth 20000 in
theorem wsL_law0_r6_in : ∀ w ∈ wsL_law0_r6, w ∈ lw_tbl := z_memIn _ [166, 168, 6, 169, 170, 143, 145, 2, 146, 131, 132, 133, 134, 135, 317, 319, 17, 320, 181, 182, 183, 184, 185, 187] rfl
set_option maxRecDepth 20000 in
theorem wsL_law0_r7_in : ∀ w ∈ wsL_law0_r7, w ∈ lw_tbl := z_memIn _ [8, 188, 509, 510, 511, 512, 459, 460, 513, 515, 19, 516, 505, 506, 507, 508, 321, 322, 323, 324, 325, 326, 327, 328] rfl
set_option maxRecDepth 20000 in
theorem wsL_law0_r8_in : ∀ w ∈ wsL_law0_r8, w ∈ lw_tbl := z_memIn _ [329, 330, 46, 346, 47, 362, 517, 518, 519, 520, 521, 523, 20, 524, 525, 526, 527, 528, 530, 21, 531, 363, 364, 365] rfl
set_option maxRecDepth 20000 in
theorem wsL_law0_r9_in : ∀ w ∈ wsL_law0_r9, w ∈ lw_tbl := z_memIn _ [366, 367, 368, 369, 532, 533, 534, 535, 461, 371, 372, 373, 374, 375, 376, 377, 379, 380, 381, 382, 383, 536, 537, 538] rfl
set_option maxRecDepth 20000 in
theorem wsL_law0_r10_in : ∀ w ∈ wsL_law0_r10, w ∈ lw_tbl := z_memIn _ [539, 540, 542, 22, 543, 466, 468, 544, 546, 23, 547, 467, 548, 550, 24, 551, 552, 434, 433, 48, 553, 555, 25, 556] rfl
set_option maxRecDepth 20000 in
theorem wsL_law0_r11_in : ∀ w ∈ wsL_law0_r11, w ∈ lw_tbl := z_memIn _ [473, 557, 559, 26, 560, 561, 563, 27, 564, 384, 385, 386, 387, 388, 389, 390, 193, 195, 9, 196, 162, 164, 5, 165] rfl
set_option maxRecDepth 20000 in
theorem wsL_law0_r12_in : ∀ w ∈ wsL_law0_r12, w ∈ lw_tbl := z_memIn _ [158, 160, 4, 161, 197, 199, 10, 200, 127, 129, 1, 130, 565, 566, 567, 568, 569, 571, 28, 572, 573, 575, 29, 576] rfl
set_option maxRecDepth 20000 in
theorem wsL_law0_r13_in : ∀ w ∈ wsL_law0_r13, w ∈ lw_tbl := z_memIn _ [577, 579, 30, 580, 392, 393, 394, 395, 396, 397, 398, 581, 582, 583, 584, 399, 400, 401, 402, 403, 404, 405, 177, 179] rfl
set_option maxRecDepth 20000 in
theorem wsL_law0_r14_in : ∀ w ∈ wsL_law0_r14, w ∈ lw_tbl := z_memIn _ [7, 180, 189, 190, 191, 192, 154, 156, 3, 157, 585, 586, 587, 588, 589, 591, 31, 592, 407, 408, 409, 410, 411, 412] rfl
set_option maxRecDepth 20000 in
theorem wsL_law0_r15_in : ∀ w ∈ wsL_law0_r15, w ∈ lw_tbl := z_memIn _ [413, 593, 594, 595, 596, 414, 415, 416, 417, 418, 419, 420, 597, 598, 599, 600, 115, 116, 117, 118, 123, 125, 0, 126] rfl
set_option maxRecDepth 20000 in
theorem wsL_law0_r16_in : ∀ w ∈ wsL_law0_r16, w ∈ lw_tbl := z_memIn _ [601, 602, 603, 604, 609, 605, 607, 32, 608, 421, 422, 423, 424, 425, 426, 427, 428, 429, 430, 431, 432, 435, 437, 18] rfl
set_option maxRecDepth 20000 in
theorem wsL_law0_r17_in : ∀ w ∈ wsL_law0_r17, w ∈ lw_tbl := z_memIn _ [438, 610, 611, 612, 613, 614, 616, 33, 617, 439, 440, 441, 442, 443, 444, 445, 618, 619, 620, 621, 626, 627, 628, 622] rfl
set_option maxRecDepth 20000 in
theorem wsL_law0_r18_in : ∀ w ∈ wsL_law0_r18, w ∈ lw_tbl := z_memIn _ [624, 34, 625, 446, 447, 448, 449, 450, 451, 452, 629, 630, 631, 632, 150, 151, 152, 153, 633, 634, 635, 636, 171, 172] rfl
set_option maxRecDepth 20000 in
theorem wsL_law0_r19_in : ∀ w ∈ wsL_law0_r19, w ∈ lw_tbl := z_memIn _ [173, 174, 175, 176, 637, 638, 639, 640, 641, 642] rfl
set_option maxRecDepth 20000 in
theorem wsX20_inl0 : ∀ w ∈ wsX20, w ∈ lw_tbl := z_memIn _ [96, 98, 100, 102, 104, 106, 108, 110, 112] rfl
set_option maxRecDepth 20000 in
theorem wsX30_inl0 : ∀ w ∈ wsX30, w ∈ lw_tbl := z_memIn _ [474, 476, 478, 480, 482, 484, 486, 488, 490, 492, 494, 496, 498, 500, 502] rfl
set_option maxRecDepth 20000 in
theorem wsX00_inl0 : ∀ w ∈ wsX00, w ∈ lw_tbl := z_memIn _ [65, 67] rfl
set_option maxRecDepth 20000 in
theorem wsX10_inl0 : ∀ w ∈ wsX10, w ∈ lw_tbl := z_memIn _ [80, 82, 84] rfl
theorem wsL_law_in0 : ∀ w ∈ wsL_law0, w ∈ lw_tbl := by
  show ∀ w ∈ (wsL_law0_r1 ++ (wsL_law0_r2 ++ (wsL_law0_r3 ++ (wsL_law0_r4 ++ (wsL_law0_r5 ++ (wsL_law0_r6 ++ (wsL_law0_r7 ++ (wsL_law0_r8 ++ (wsL_law0_r9 ++ (wsL_law0_r10 ++ (wsL_law0_r11 ++ (wsL_law0_r12 ++ (wsL_law0_r13 ++ (wsL_law0_r14 ++ (wsL_law0_r15 ++ (wsL_law0_r16 ++ (wsL_law0_r17 ++ (wsL_law0_r18 ++ wsL_law0_r19)))))))))))))))))) ++ wsX20 ++ wsX30 ++ wsX00 ++ wsX10 ++ ([] : List Cond), w ∈ lw_tbl
  exact (List.forall_mem_append.mpr ⟨(List.forall_mem_append.mpr ⟨(List.forall_mem_append.mpr ⟨(List.forall_mem_append.mpr ⟨(List.forall_mem_append.mpr ⟨(List.forall_mem_append.mpr ⟨wsL_law0_r1_in, (List.forall_mem_append.mpr ⟨wsL_law0_r2_in, (List.forall_mem_append.mpr ⟨wsL_law0_r3_in, (List.forall_mem_append.mpr ⟨wsL_law0_r4_in, (List.forall_mem_append.mpr ⟨wsL_law0_r5_in, (List.forall_mem_append.mpr ⟨wsL_law0_r6_in, (List.forall_mem_append.mpr ⟨wsL_law0_r7_in, (List.forall_mem_append.mpr ⟨wsL_law0_r8_in, (List.forall_mem_append.mpr ⟨wsL_law0_r9_in, (List.forall_mem_append.mpr ⟨wsL_law0_r10_in, (List.forall_mem_append.mpr ⟨wsL_law0_r11_in, (List.forall_mem_append.mpr ⟨wsL_law0_r12_in, (List.forall_mem_append.mpr ⟨wsL_law0_r13_in, (List.forall_mem_append.mpr ⟨wsL_law0_r14_in, (List.forall_mem_append.mpr ⟨wsL_law0_r15_in, (List.forall_mem_append.mpr ⟨wsL_law0_r16_in, (List.forall_mem_append.mpr ⟨wsL_law0_r17_in, (List.forall_mem_append.mpr ⟨wsL_law0_r18_in, wsL_law0_r19_in⟩)⟩)⟩)⟩)⟩)⟩)⟩)⟩)⟩)⟩)⟩)⟩)⟩)⟩)⟩)⟩)⟩)⟩), wsX20_inl0⟩), wsX30_inl0⟩), wsX00_inl0⟩), wsX10_inl0⟩), (fun w h => absurd h List.not_mem_nil)⟩)
theorem wsL_law_x0 : ∀ w ∈ (vx_atS RX2 54 "java/lang/IllegalStateException" ["java/lang/RuntimeException", "java/lang/Exception"]).filter goodWord, w ∈ lw_tbl := by decide +kernel
theorem wsL_law_x1 : ∀ w ∈ (vx_atS RX2 71 "java/lang/IndexOutOfBoundsException" ["java/lang/RuntimeException", "java/lang/Exception"]).filter goodWord, w ∈ lw_tbl := by decide +kernel
theorem wsL_law_x2 : ∀ w ∈ (vx_atS RX2 76 "java/lang/IllegalArgumentException" ["java/lang/RuntimeException", "java/lang/Exception"]).filter goodWord, w ∈ lw_tbl := by decide +kernel
theorem wsL_law_in : ∀ w ∈ wsL_law, w ∈ lw_tbl := fun w h => (List.mem_append.mp h).elim (fun h => (List.mem_append.mp h).elim (fun h => (List.mem_append.mp h).elim (fun h => wsL_law_in0 w h) (fun h => wsL_law_x0 w h)) (fun h => wsL_law_x1 w h)) (fun h => wsL_law_x2 w h)
theorem inlX0 : ∀ w ∈ wsX00, w ∈ wsL_law := fun _ h => List.mem_append_left _ (List.mem_append_left _ (List.mem_append_left _ (List.mem_append_left _ (List.mem_append_left _ (List.mem_append_right _ h)))))
theorem inX0 : ∀ w ∈ wsX00, w ∈ lw_tbl := fun w h => wsL_law_in w (inlX0 w h)
theorem inlX1 : ∀ w ∈ wsX10, w ∈ wsL_law := fun _ h => List.mem_append_left _ (List.mem_append_left _ (List.mem_append_left _ (List.mem_append_left _ (List.mem_append_right _ h))))
theorem inX1 : ∀ w ∈ wsX10, w ∈ lw_tbl := fun w h => wsL_law_in w (inlX1 w h)
theorem inlX2 : ∀ w ∈ wsX20, w ∈ wsL_law := fun _ h => List.mem_append_left _ (List.mem_append_left _ (List.mem_append_left _ (List.mem_append_left _ (List.mem_append_left _ (List.mem_append_left _ (List.mem_append_left _ (List.mem_append_right _ h)))))))
theorem inX2 : ∀ w ∈ wsX20, w ∈ lw_tbl := fun w h => wsL_law_in w (inlX2 w h)
theorem inlX3 : ∀ w ∈ wsX30, w ∈ wsL_law := fun _ h => List.mem_append_left _ (List.mem_append_left _ (List.mem_append_left _ (List.mem_append_left _ (List.mem_append_left _ (List.mem_append_left _ (List.mem_append_right _ h))))))
theorem inX3 : ∀ w ∈ wsX30, w ∈ lw_tbl := fun w h => wsL_law_in w (inlX3 w h)
theorem inJ6 : ∀ w ∈ wsJ60, w ∈ lw_tbl := by decide +kernel
theorem inJ9 : ∀ w ∈ wsJ90, w ∈ lw_tbl := by decide +kernel
theorem inJ0 : ∀ w ∈ wsJ00, w ∈ lw_tbl := by decide +kernel
theorem inJ10 : ∀ w ∈ wsJ100, w ∈ lw_tbl := by decide +kernel
end
section
theorem dX0_init_0 : decode cX0_init 0 = .ok (.aload_n 0, 1) := by decide +kernel
theorem dX0_init_1 : decode cX0_init 1 = .ok (.invokespecial 3, 3) := by decide +kernel
theorem dX0_init_4 : decode cX0_init 4 = .ok (.aload_n 0, 1) := by decide +kernel
theorem dX0_init_5 : decode cX0_init 5 = .ok (.bipush 36, 2) := by decide +kernel
theorem dX0_init_7 : decode cX0_init 7 = .ok (.newarray .int, 2) := by decide +kernel
theorem dX0_init_9 : decode cX0_init 9 = .ok (.putfield 9, 3) := by decide +kernel
theorem dX0_init_12 : decode cX0_init 12 = .ok (.aload_n 0, 1) := by decide +kernel
theorem dX0_init_13 : decode cX0_init 13 = .ok (.iconst 0, 1) := by decide +kernel
theorem dX0_init_14 : decode cX0_init 14 = .ok (.putfield 15, 3) := by decide +kernel
theorem dX0_init_17 : decode cX0_init 17 = .ok (.return_, 1) := by decide +kernel
theorem dX0_size_0 : decode cX0_size 0 = .ok (.aload_n 0, 1) := by decide +kernel
theorem dX0_size_1 : decode cX0_size 1 = .ok (.getfield 15, 3) := by decide +kernel
theorem dX0_size_4 : decode cX0_size 4 = .ok (.ireturn, 1) := by decide +kernel
theorem dX0_has_0 : decode cX0_has 0 = .ok (.iload_n 1, 1) := by decide +kernel
theorem dX0_has_1 : decode cX0_has 1 = .ok (.ifCond .lt 15, 3) := by decide +kernel
theorem dX0_has_4 : decode cX0_has 4 = .ok (.iload_n 1, 1) := by decide +kernel
theorem dX0_has_5 : decode cX0_has 5 = .ok (.aload_n 0, 1) := by decide +kernel
theorem dX0_has_6 : decode cX0_has 6 = .ok (.getfield 15, 3) := by decide +kernel
theorem dX0_has_9 : decode cX0_has 9 = .ok (.if_icmp .ge 7, 3) := by decide +kernel
theorem dX0_has_12 : decode cX0_has 12 = .ok (.iconst 1, 1) := by decide +kernel
theorem dX0_has_13 : decode cX0_has 13 = .ok (.goto 4, 3) := by decide +kernel
theorem dX0_has_16 : decode cX0_has 16 = .ok (.iconst 0, 1) := by decide +kernel
theorem dX0_has_17 : decode cX0_has 17 = .ok (.ireturn, 1) := by decide +kernel
set_option maxRecDepth 20000 in
theorem ggX0_of_X0_has : GoodIn wsX0_of wsX0_has := goodIn_r _ [6, 7, 8, 9] rfl (by decide +kernel)
set_option maxRecDepth 20000 in
theorem gX0_of_X0_has : GoodIn wsX0_of (wsV RX0 19 RX0 yX0_has wsX0_has) := goodIn_app (goodIn_of _ (by decide +kernel)) ggX0_of_X0_has
theorem dX0_of_0 : decode cX0_of 0 = .ok (.aload_n 0, 1) := by decide +kernel
theorem dX0_of_1 : decode cX0_of 1 = .ok (.iload_n 1, 1) := by decide +kernel
theorem dX0_of_2 : decode cX0_of 2 = .ok (.invokevirtual 19, 3) := by decide +kernel
theorem dX0_of_5 : decode cX0_of 5 = .ok (.ifCond .eq 25, 3) := by decide +kernel
theorem dX0_of_8 : decode cX0_of 8 = .ok (.aload_n 0, 1) := by decide +kernel
theorem dX0_of_9 : decode cX0_of 9 = .ok (.iload_n 2, 1) := by decide +kernel
theorem dX0_of_10 : decode cX0_of 10 = .ok (.invokevirtual 19, 3) := by decide +kernel
theorem dX0_of_13 : decode cX0_of 13 = .ok (.ifCond .eq 17, 3) := by decide +kernel
theorem dX0_of_16 : decode cX0_of 16 = .ok (.aload_n 0, 1) := by decide +kernel
theorem dX0_of_17 : decode cX0_of 17 = .ok (.getfield 9, 3) := by decide +kernel
theorem dX0_of_20 : decode cX0_of 20 = .ok (.iload_n 1, 1) := by decide +kernel
theorem dX0_of_21 : decode cX0_of 21 = .ok (.bipush 6, 2) := by decide +kernel
theorem dX0_of_23 : decode cX0_of 23 = .ok (.imul, 1) := by decide +kernel
theorem dX0_of_24 : decode cX0_of 24 = .ok (.iload_n 2, 1) := by decide +kernel
theorem dX0_of_25 : decode cX0_of 25 = .ok (.iadd, 1) := by decide +kernel
theorem dX0_of_26 : decode cX0_of 26 = .ok (.iaload, 1) := by decide +kernel
theorem dX0_of_27 : decode cX0_of 27 = .ok (.goto 4, 3) := by decide +kernel
theorem dX0_of_30 : decode cX0_of 30 = .ok (.iconst 0, 1) := by decide +kernel
theorem dX0_of_31 : decode cX0_of 31 = .ok (.ireturn, 1) := by decide +kernel
set_option maxRecDepth 20000 in
theorem ggX0_set_X0_has : GoodIn wsX0_set wsX0_has := goodIn_r _ [6, 7, 8, 9] rfl (by decide +kernel)
set_option maxRecDepth 20000 in
theorem gX0_set_X0_has : GoodIn wsX0_set (wsV RX0 19 RX0 yX0_has wsX0_has) := goodIn_app (goodIn_of _ (by decide +kernel)) ggX0_set_X0_has
theorem dX0_set_0 : decode cX0_set 0 = .ok (.aload_n 0, 1) := by decide +kernel
theorem dX0_set_1 : decode cX0_set 1 = .ok (.iload_n 1, 1) := by decide +kernel
theorem dX0_set_2 : decode cX0_set 2 = .ok (.invokevirtual 19, 3) := by decide +kernel
theorem dX0_set_5 : decode cX0_set 5 = .ok (.ifCond .eq 23, 3) := by decide +kernel
theorem dX0_set_8 : decode cX0_set 8 = .ok (.aload_n 0, 1) := by decide +kernel
theorem dX0_set_9 : decode cX0_set 9 = .ok (.iload_n 2, 1) := by decide +kernel
theorem dX0_set_10 : decode cX0_set 10 = .ok (.invokevirtual 19, 3) := by decide +kernel
theorem dX0_set_13 : decode cX0_set 13 = .ok (.ifCond .eq 15, 3) := by decide +kernel
theorem dX0_set_16 : decode cX0_set 16 = .ok (.aload_n 0, 1) := by decide +kernel
theorem dX0_set_17 : decode cX0_set 17 = .ok (.getfield 9, 3) := by decide +kernel
theorem dX0_set_20 : decode cX0_set 20 = .ok (.iload_n 1, 1) := by decide +kernel
theorem dX0_set_21 : decode cX0_set 21 = .ok (.bipush 6, 2) := by decide +kernel
theorem dX0_set_23 : decode cX0_set 23 = .ok (.imul, 1) := by decide +kernel
theorem dX0_set_24 : decode cX0_set 24 = .ok (.iload_n 2, 1) := by decide +kernel
theorem dX0_set_25 : decode cX0_set 25 = .ok (.iadd, 1) := by decide +kernel
theorem dX0_set_26 : decode cX0_set 26 = .ok (.iload_n 3, 1) := by decide +kernel
theorem dX0_set_27 : decode cX0_set 27 = .ok (.iastore, 1) := by decide +kernel
theorem dX0_set_28 : decode cX0_set 28 = .ok (.return_, 1) := by decide +kernel
theorem dX0_copy_0 : decode cX0_copy 0 = .ok (.aload_n 1, 1) := by decide +kernel
theorem dX0_copy_1 : decode cX0_copy 1 = .ok (.getfield 9, 3) := by decide +kernel
theorem dX0_copy_4 : decode cX0_copy 4 = .ok (.iconst 0, 1) := by decide +kernel
theorem dX0_copy_5 : decode cX0_copy 5 = .ok (.aload_n 0, 1) := by decide +kernel
theorem dX0_copy_6 : decode cX0_copy 6 = .ok (.getfield 9, 3) := by decide +kernel
theorem dX0_copy_9 : decode cX0_copy 9 = .ok (.iconst 0, 1) := by decide +kernel
theorem dX0_copy_10 : decode cX0_copy 10 = .ok (.aload_n 0, 1) := by decide +kernel
theorem dX0_copy_11 : decode cX0_copy 11 = .ok (.getfield 9, 3) := by decide +kernel
theorem dX0_copy_14 : decode cX0_copy 14 = .ok (.arraylength, 1) := by decide +kernel
theorem dX0_copy_15 : decode cX0_copy 15 = .ok (.invokestatic 23, 3) := by decide +kernel
theorem dX0_copy_18 : decode cX0_copy 18 = .ok (.aload_n 0, 1) := by decide +kernel
theorem dX0_copy_19 : decode cX0_copy 19 = .ok (.aload_n 1, 1) := by decide +kernel
theorem dX0_copy_20 : decode cX0_copy 20 = .ok (.getfield 15, 3) := by decide +kernel
theorem dX0_copy_23 : decode cX0_copy 23 = .ok (.putfield 15, 3) := by decide +kernel
theorem dX0_copy_26 : decode cX0_copy 26 = .ok (.return_, 1) := by decide +kernel
set_option maxRecDepth 20000 in
theorem ggX0_grow_X0_set : GoodIn wsX0_grow wsX0_set := goodIn_r _ [6, 7, 8, 9, 10, 5, 11, 1, 12, 13] rfl (by decide +kernel)
set_option maxRecDepth 20000 in
theorem gX0_grow_X0_set : GoodIn wsX0_grow (wsV RX0 29 RX0 yX0_set wsX0_set) := goodIn_app (goodIn_of _ (by decide +kernel)) ggX0_grow_X0_set
theorem dX0_grow_0 : decode cX0_grow 0 = .ok (.aload_n 0, 1) := by decide +kernel
theorem dX0_grow_1 : decode cX0_grow 1 = .ok (.getfield 15, 3) := by decide +kernel
theorem dX0_grow_4 : decode cX0_grow 4 = .ok (.bipush 6, 2) := by decide +kernel
theorem dX0_grow_6 : decode cX0_grow 6 = .ok (.if_icmp .lt 4, 3) := by decide +kernel
theorem dX0_grow_9 : decode cX0_grow 9 = .ok (.return_, 1) := by decide +kernel
theorem dX0_grow_10 : decode cX0_grow 10 = .ok (.aload_n 0, 1) := by decide +kernel
theorem dX0_grow_11 : decode cX0_grow 11 = .ok (.dup, 1) := by decide +kernel
theorem dX0_grow_12 : decode cX0_grow 12 = .ok (.getfield 15, 3) := by decide +kernel
theorem dX0_grow_15 : decode cX0_grow 15 = .ok (.iconst 1, 1) := by decide +kernel
theorem dX0_grow_16 : decode cX0_grow 16 = .ok (.iadd, 1) := by decide +kernel
theorem dX0_grow_17 : decode cX0_grow 17 = .ok (.putfield 15, 3) := by decide +kernel
theorem dX0_grow_20 : decode cX0_grow 20 = .ok (.iconst 0, 1) := by decide +kernel
theorem dX0_grow_21 : decode cX0_grow 21 = .ok (.istore_n 1, 1) := by decide +kernel
theorem dX0_grow_22 : decode cX0_grow 22 = .ok (.iload_n 1, 1) := by decide +kernel
theorem dX0_grow_23 : decode cX0_grow 23 = .ok (.aload_n 0, 1) := by decide +kernel
theorem dX0_grow_24 : decode cX0_grow 24 = .ok (.getfield 15, 3) := by decide +kernel
theorem dX0_grow_27 : decode cX0_grow 27 = .ok (.if_icmp .ge 33, 3) := by decide +kernel
theorem dX0_grow_30 : decode cX0_grow 30 = .ok (.aload_n 0, 1) := by decide +kernel
theorem dX0_grow_31 : decode cX0_grow 31 = .ok (.aload_n 0, 1) := by decide +kernel
theorem dX0_grow_32 : decode cX0_grow 32 = .ok (.getfield 15, 3) := by decide +kernel
theorem dX0_grow_35 : decode cX0_grow 35 = .ok (.iconst 1, 1) := by decide +kernel
theorem dX0_grow_36 : decode cX0_grow 36 = .ok (.isub, 1) := by decide +kernel
theorem dX0_grow_37 : decode cX0_grow 37 = .ok (.iload_n 1, 1) := by decide +kernel
theorem dX0_grow_38 : decode cX0_grow 38 = .ok (.iconst 0, 1) := by decide +kernel
theorem dX0_grow_39 : decode cX0_grow 39 = .ok (.invokevirtual 29, 3) := by decide +kernel
theorem dX0_grow_42 : decode cX0_grow 42 = .ok (.aload_n 0, 1) := by decide +kernel
theorem dX0_grow_43 : decode cX0_grow 43 = .ok (.iload_n 1, 1) := by decide +kernel
theorem dX0_grow_44 : decode cX0_grow 44 = .ok (.aload_n 0, 1) := by decide +kernel
theorem dX0_grow_45 : decode cX0_grow 45 = .ok (.getfield 15, 3) := by decide +kernel
theorem dX0_grow_48 : decode cX0_grow 48 = .ok (.iconst 1, 1) := by decide +kernel
theorem dX0_grow_49 : decode cX0_grow 49 = .ok (.isub, 1) := by decide +kernel
theorem dX0_grow_50 : decode cX0_grow 50 = .ok (.iconst 0, 1) := by decide +kernel
theorem dX0_grow_51 : decode cX0_grow 51 = .ok (.invokevirtual 29, 3) := by decide +kernel
theorem dX0_grow_54 : decode cX0_grow 54 = .ok (.iinc 1 1, 3) := by decide +kernel
theorem dX0_grow_57 : decode cX0_grow 57 = .ok (.goto (-35), 3) := by decide +kernel
theorem dX0_grow_60 : decode cX0_grow 60 = .ok (.return_, 1) := by decide +kernel
set_option maxRecDepth 20000 in
theorem ggX0_shrink_X0_has : GoodIn wsX0_shrink wsX0_has := goodIn_r _ [6, 1, 16, 17] rfl (by decide +kernel)
set_option maxRecDepth 20000 in
theorem gX0_shrink_X0_has : GoodIn wsX0_shrink (wsV RX0 19 RX0 yX0_has wsX0_has) := goodIn_app (goodIn_of _ (by decide +kernel)) ggX0_shrink_X0_has
set_option maxRecDepth 20000 in
theorem ggX0_shrink_X0_of : GoodIn wsX0_shrink wsX0_of := goodIn_r _ [10, 11, 2, 3, 4, 5, 6, 1, 16, 17] rfl (by decide +kernel)
set_option maxRecDepth 20000 in
theorem gX0_shrink_X0_of : GoodIn wsX0_shrink (wsV RX0 33 RX0 yX0_of wsX0_of) := goodIn_app (goodIn_of _ (by decide +kernel)) ggX0_shrink_X0_of
set_option maxRecDepth 20000 in
theorem ggX0_shrink_X0_set : GoodIn wsX0_shrink wsX0_set := goodIn_r _ [15, 11, 2, 3, 4, 5, 6, 1, 16, 17] rfl (by decide +kernel)
set_option maxRecDepth 20000 in
theorem gX0_shrink_X0_set : GoodIn wsX0_shrink (wsV RX0 29 RX0 yX0_set wsX0_set) := goodIn_app (goodIn_of _ (by decide +kernel)) ggX0_shrink_X0_set
theorem dX0_shrink_0 : decode cX0_shrink 0 = .ok (.aload_n 0, 1) := by decide +kernel
theorem dX0_shrink_1 : decode cX0_shrink 1 = .ok (.iload_n 1, 1) := by decide +kernel
theorem dX0_shrink_2 : decode cX0_shrink 2 = .ok (.invokevirtual 19, 3) := by decide +kernel
theorem dX0_shrink_5 : decode cX0_shrink 5 = .ok (.ifCond .eq 11, 3) := by decide +kernel
theorem dX0_shrink_8 : decode cX0_shrink 8 = .ok (.aload_n 0, 1) := by decide +kernel
theorem dX0_shrink_9 : decode cX0_shrink 9 = .ok (.iload_n 2, 1) := by decide +kernel
theorem dX0_shrink_10 : decode cX0_shrink 10 = .ok (.invokevirtual 19, 3) := by decide +kernel
theorem dX0_shrink_13 : decode cX0_shrink 13 = .ok (.ifCond .ne 4, 3) := by decide +kernel
theorem dX0_shrink_16 : decode cX0_shrink 16 = .ok (.return_, 1) := by decide +kernel
theorem dX0_shrink_17 : decode cX0_shrink 17 = .ok (.iconst 0, 1) := by decide +kernel
theorem dX0_shrink_18 : decode cX0_shrink 18 = .ok (.istore_n 3, 1) := by decide +kernel
theorem dX0_shrink_19 : decode cX0_shrink 19 = .ok (.iload_n 3, 1) := by decide +kernel
theorem dX0_shrink_20 : decode cX0_shrink 20 = .ok (.aload_n 0, 1) := by decide +kernel
theorem dX0_shrink_21 : decode cX0_shrink 21 = .ok (.getfield 15, 3) := by decide +kernel
theorem dX0_shrink_24 : decode cX0_shrink 24 = .ok (.iconst 1, 1) := by decide +kernel
theorem dX0_shrink_25 : decode cX0_shrink 25 = .ok (.isub, 1) := by decide +kernel
theorem dX0_shrink_26 : decode cX0_shrink 26 = .ok (.if_icmp .ge 67, 3) := by decide +kernel
theorem dX0_shrink_29 : decode cX0_shrink 29 = .ok (.iconst 0, 1) := by decide +kernel
theorem dX0_shrink_30 : decode cX0_shrink 30 = .ok (.istore 4, 2) := by decide +kernel
theorem dX0_shrink_32 : decode cX0_shrink 32 = .ok (.iload 4, 2) := by decide +kernel
theorem dX0_shrink_34 : decode cX0_shrink 34 = .ok (.aload_n 0, 1) := by decide +kernel
theorem dX0_shrink_35 : decode cX0_shrink 35 = .ok (.getfield 15, 3) := by decide +kernel
theorem dX0_shrink_38 : decode cX0_shrink 38 = .ok (.iconst 1, 1) := by decide +kernel
theorem dX0_shrink_39 : decode cX0_shrink 39 = .ok (.isub, 1) := by decide +kernel
theorem dX0_shrink_40 : decode cX0_shrink 40 = .ok (.if_icmp .ge 47, 3) := by decide +kernel
theorem dX0_shrink_43 : decode cX0_shrink 43 = .ok (.aload_n 0, 1) := by decide +kernel
theorem dX0_shrink_44 : decode cX0_shrink 44 = .ok (.iload_n 3, 1) := by decide +kernel
theorem dX0_shrink_45 : decode cX0_shrink 45 = .ok (.iload 4, 2) := by decide +kernel
theorem dX0_shrink_47 : decode cX0_shrink 47 = .ok (.aload_n 0, 1) := by decide +kernel
theorem dX0_shrink_48 : decode cX0_shrink 48 = .ok (.iload_n 3, 1) := by decide +kernel
theorem dX0_shrink_49 : decode cX0_shrink 49 = .ok (.iload_n 1, 1) := by decide +kernel
theorem dX0_shrink_50 : decode cX0_shrink 50 = .ok (.if_icmp .ge 7, 3) := by decide +kernel
theorem dX0_shrink_53 : decode cX0_shrink 53 = .ok (.iload_n 3, 1) := by decide +kernel
theorem dX0_shrink_54 : decode cX0_shrink 54 = .ok (.goto 6, 3) := by decide +kernel
theorem dX0_shrink_57 : decode cX0_shrink 57 = .ok (.iload_n 3, 1) := by decide +kernel
theorem dX0_shrink_58 : decode cX0_shrink 58 = .ok (.iconst 1, 1) := by decide +kernel
theorem dX0_shrink_59 : decode cX0_shrink 59 = .ok (.iadd, 1) := by decide +kernel
theorem dX0_shrink_60 : decode cX0_shrink 60 = .ok (.iload 4, 2) := by decide +kernel
theorem dX0_shrink_62 : decode cX0_shrink 62 = .ok (.iload_n 2, 1) := by decide +kernel
theorem dX0_shrink_63 : decode cX0_shrink 63 = .ok (.if_icmp .ge 8, 3) := by decide +kernel
theorem dX0_shrink_66 : decode cX0_shrink 66 = .ok (.iload 4, 2) := by decide +kernel
theorem dX0_shrink_68 : decode cX0_shrink 68 = .ok (.goto 7, 3) := by decide +kernel
theorem dX0_shrink_71 : decode cX0_shrink 71 = .ok (.iload 4, 2) := by decide +kernel
theorem dX0_shrink_73 : decode cX0_shrink 73 = .ok (.iconst 1, 1) := by decide +kernel
theorem dX0_shrink_74 : decode cX0_shrink 74 = .ok (.iadd, 1) := by decide +kernel
theorem dX0_shrink_75 : decode cX0_shrink 75 = .ok (.invokevirtual 33, 3) := by decide +kernel
theorem dX0_shrink_78 : decode cX0_shrink 78 = .ok (.invokevirtual 29, 3) := by decide +kernel
theorem dX0_shrink_81 : decode cX0_shrink 81 = .ok (.iinc 4 1, 3) := by decide +kernel
theorem dX0_shrink_84 : decode cX0_shrink 84 = .ok (.goto (-52), 3) := by decide +kernel
theorem dX0_shrink_87 : decode cX0_shrink 87 = .ok (.iinc 3 1, 3) := by decide +kernel
theorem dX0_shrink_90 : decode cX0_shrink 90 = .ok (.goto (-71), 3) := by decide +kernel
theorem dX0_shrink_93 : decode cX0_shrink 93 = .ok (.aload_n 0, 1) := by decide +kernel
theorem dX0_shrink_94 : decode cX0_shrink 94 = .ok (.dup, 1) := by decide +kernel
theorem dX0_shrink_95 : decode cX0_shrink 95 = .ok (.getfield 15, 3) := by decide +kernel
theorem dX0_shrink_98 : decode cX0_shrink 98 = .ok (.iconst 1, 1) := by decide +kernel
theorem dX0_shrink_99 : decode cX0_shrink 99 = .ok (.isub, 1) := by decide +kernel
theorem dX0_shrink_100 : decode cX0_shrink 100 = .ok (.putfield 15, 3) := by decide +kernel
theorem dX0_shrink_103 : decode cX0_shrink 103 = .ok (.return_, 1) := by decide +kernel
end
section
theorem dJ6_bitCount_0f7a4_0 : decode cJ6_bitCount_0f7a4 0 = .ok (.iload_n 0, 1) := by decide +kernel
theorem dJ6_bitCount_0f7a4_1 : decode cJ6_bitCount_0f7a4 1 = .ok (.iload_n 0, 1) := by decide +kernel
theorem dJ6_bitCount_0f7a4_2 : decode cJ6_bitCount_0f7a4 2 = .ok (.iconst 1, 1) := by decide +kernel
theorem dJ6_bitCount_0f7a4_3 : decode cJ6_bitCount_0f7a4 3 = .ok (.iushr, 1) := by decide +kernel
theorem dJ6_bitCount_0f7a4_4 : decode cJ6_bitCount_0f7a4 4 = .ok (.ldc_w 265, 3) := by decide +kernel
theorem dJ6_bitCount_0f7a4_7 : decode cJ6_bitCount_0f7a4 7 = .ok (.iand, 1) := by decide +kernel
theorem dJ6_bitCount_0f7a4_8 : decode cJ6_bitCount_0f7a4 8 = .ok (.isub, 1) := by decide +kernel
theorem dJ6_bitCount_0f7a4_9 : decode cJ6_bitCount_0f7a4 9 = .ok (.istore_n 0, 1) := by decide +kernel
theorem dJ6_bitCount_0f7a4_10 : decode cJ6_bitCount_0f7a4 10 = .ok (.iload_n 0, 1) := by decide +kernel
theorem dJ6_bitCount_0f7a4_11 : decode cJ6_bitCount_0f7a4 11 = .ok (.ldc_w 266, 3) := by decide +kernel
theorem dJ6_bitCount_0f7a4_14 : decode cJ6_bitCount_0f7a4 14 = .ok (.iand, 1) := by decide +kernel
theorem dJ6_bitCount_0f7a4_15 : decode cJ6_bitCount_0f7a4 15 = .ok (.iload_n 0, 1) := by decide +kernel
theorem dJ6_bitCount_0f7a4_16 : decode cJ6_bitCount_0f7a4 16 = .ok (.iconst 2, 1) := by decide +kernel
theorem dJ6_bitCount_0f7a4_17 : decode cJ6_bitCount_0f7a4 17 = .ok (.iushr, 1) := by decide +kernel
theorem dJ6_bitCount_0f7a4_18 : decode cJ6_bitCount_0f7a4 18 = .ok (.ldc_w 266, 3) := by decide +kernel
theorem dJ6_bitCount_0f7a4_21 : decode cJ6_bitCount_0f7a4 21 = .ok (.iand, 1) := by decide +kernel
theorem dJ6_bitCount_0f7a4_22 : decode cJ6_bitCount_0f7a4 22 = .ok (.iadd, 1) := by decide +kernel
theorem dJ6_bitCount_0f7a4_23 : decode cJ6_bitCount_0f7a4 23 = .ok (.istore_n 0, 1) := by decide +kernel
theorem dJ6_bitCount_0f7a4_24 : decode cJ6_bitCount_0f7a4 24 = .ok (.iload_n 0, 1) := by decide +kernel
theorem dJ6_bitCount_0f7a4_25 : decode cJ6_bitCount_0f7a4 25 = .ok (.iload_n 0, 1) := by decide +kernel
theorem dJ6_bitCount_0f7a4_26 : decode cJ6_bitCount_0f7a4 26 = .ok (.iconst 4, 1) := by decide +kernel
theorem dJ6_bitCount_0f7a4_27 : decode cJ6_bitCount_0f7a4 27 = .ok (.iushr, 1) := by decide +kernel
theorem dJ6_bitCount_0f7a4_28 : decode cJ6_bitCount_0f7a4 28 = .ok (.iadd, 1) := by decide +kernel
theorem dJ6_bitCount_0f7a4_29 : decode cJ6_bitCount_0f7a4 29 = .ok (.ldc_w 267, 3) := by decide +kernel
theorem dJ6_bitCount_0f7a4_32 : decode cJ6_bitCount_0f7a4 32 = .ok (.iand, 1) := by decide +kernel
theorem dJ6_bitCount_0f7a4_33 : decode cJ6_bitCount_0f7a4 33 = .ok (.istore_n 0, 1) := by decide +kernel
theorem dJ6_bitCount_0f7a4_34 : decode cJ6_bitCount_0f7a4 34 = .ok (.iload_n 0, 1) := by decide +kernel
theorem dJ6_bitCount_0f7a4_35 : decode cJ6_bitCount_0f7a4 35 = .ok (.iload_n 0, 1) := by decide +kernel
theorem dJ6_bitCount_0f7a4_36 : decode cJ6_bitCount_0f7a4 36 = .ok (.bipush 8, 2) := by decide +kernel
theorem dJ6_bitCount_0f7a4_38 : decode cJ6_bitCount_0f7a4 38 = .ok (.iushr, 1) := by decide +kernel
theorem dJ6_bitCount_0f7a4_39 : decode cJ6_bitCount_0f7a4 39 = .ok (.iadd, 1) := by decide +kernel
theorem dJ6_bitCount_0f7a4_40 : decode cJ6_bitCount_0f7a4 40 = .ok (.istore_n 0, 1) := by decide +kernel
theorem dJ6_bitCount_0f7a4_41 : decode cJ6_bitCount_0f7a4 41 = .ok (.iload_n 0, 1) := by decide +kernel
theorem dJ6_bitCount_0f7a4_42 : decode cJ6_bitCount_0f7a4 42 = .ok (.iload_n 0, 1) := by decide +kernel
theorem dJ6_bitCount_0f7a4_43 : decode cJ6_bitCount_0f7a4 43 = .ok (.bipush 16, 2) := by decide +kernel
theorem dJ6_bitCount_0f7a4_45 : decode cJ6_bitCount_0f7a4 45 = .ok (.iushr, 1) := by decide +kernel
theorem dJ6_bitCount_0f7a4_46 : decode cJ6_bitCount_0f7a4 46 = .ok (.iadd, 1) := by decide +kernel
theorem dJ6_bitCount_0f7a4_47 : decode cJ6_bitCount_0f7a4 47 = .ok (.istore_n 0, 1) := by decide +kernel
theorem dJ6_bitCount_0f7a4_48 : decode cJ6_bitCount_0f7a4 48 = .ok (.iload_n 0, 1) := by decide +kernel
theorem dJ6_bitCount_0f7a4_49 : decode cJ6_bitCount_0f7a4 49 = .ok (.bipush 63, 2) := by decide +kernel
theorem dJ6_bitCount_0f7a4_51 : decode cJ6_bitCount_0f7a4 51 = .ok (.iand, 1) := by decide +kernel
theorem dJ6_bitCount_0f7a4_52 : decode cJ6_bitCount_0f7a4 52 = .ok (.ireturn, 1) := by decide +kernel
theorem dJ9_max_7cf53_0 : decode cJ9_max_7cf53 0 = .ok (.iload_n 0, 1) := by decide +kernel
theorem dJ9_max_7cf53_1 : decode cJ9_max_7cf53 1 = .ok (.iload_n 1, 1) := by decide +kernel
theorem dJ9_max_7cf53_2 : decode cJ9_max_7cf53 2 = .ok (.if_icmp .lt 7, 3) := by decide +kernel
theorem dJ9_max_7cf53_5 : decode cJ9_max_7cf53 5 = .ok (.iload_n 0, 1) := by decide +kernel
theorem dJ9_max_7cf53_6 : decode cJ9_max_7cf53 6 = .ok (.goto 4, 3) := by decide +kernel
theorem dJ9_max_7cf53_9 : decode cJ9_max_7cf53 9 = .ok (.iload_n 1, 1) := by decide +kernel
theorem dJ9_max_7cf53_10 : decode cJ9_max_7cf53 10 = .ok (.ireturn, 1) := by decide +kernel
theorem dJ9_min_7cf53_0 : decode cJ9_min_7cf53 0 = .ok (.iload_n 0, 1) := by decide +kernel
theorem dJ9_min_7cf53_1 : decode cJ9_min_7cf53 1 = .ok (.iload_n 1, 1) := by decide +kernel
theorem dJ9_min_7cf53_2 : decode cJ9_min_7cf53 2 = .ok (.if_icmp .gt 7, 3) := by decide +kernel
theorem dJ9_min_7cf53_5 : decode cJ9_min_7cf53 5 = .ok (.iload_n 0, 1) := by decide +kernel
theorem dJ9_min_7cf53_6 : decode cJ9_min_7cf53 6 = .ok (.goto 4, 3) := by decide +kernel
theorem dJ9_min_7cf53_9 : decode cJ9_min_7cf53 9 = .ok (.iload_n 1, 1) := by decide +kernel
theorem dJ9_min_7cf53_10 : decode cJ9_min_7cf53 10 = .ok (.ireturn, 1) := by decide +kernel
end
section
theorem dX1_init_0 : decode cX1_init 0 = .ok (.aload_n 0, 1) := by decide +kernel
theorem dX1_init_1 : decode cX1_init 1 = .ok (.invokespecial 3, 3) := by decide +kernel
theorem dX1_init_4 : decode cX1_init 4 = .ok (.aload_n 0, 1) := by decide +kernel
theorem dX1_init_5 : decode cX1_init 5 = .ok (.bipush 64, 2) := by decide +kernel
theorem dX1_init_7 : decode cX1_init 7 = .ok (.newarray .int, 2) := by decide +kernel
theorem dX1_init_9 : decode cX1_init 9 = .ok (.putfield 9, 3) := by decide +kernel
theorem dX1_init_12 : decode cX1_init 12 = .ok (.aload_n 0, 1) := by decide +kernel
theorem dX1_init_13 : decode cX1_init 13 = .ok (.bipush 64, 2) := by decide +kernel
theorem dX1_init_15 : decode cX1_init 15 = .ok (.newarray .int, 2) := by decide +kernel
theorem dX1_init_17 : decode cX1_init 17 = .ok (.putfield 15, 3) := by decide +kernel
theorem dX1_init_20 : decode cX1_init 20 = .ok (.aload_n 0, 1) := by decide +kernel
theorem dX1_init_21 : decode cX1_init 21 = .ok (.bipush 6, 2) := by decide +kernel
theorem dX1_init_23 : decode cX1_init 23 = .ok (.newarray .int, 2) := by decide +kernel
theorem dX1_init_25 : decode cX1_init 25 = .ok (.putfield 18, 3) := by decide +kernel
theorem dX1_init_28 : decode cX1_init 28 = .ok (.aload_n 0, 1) := by decide +kernel
theorem dX1_init_29 : decode cX1_init 29 = .ok (.getfield 15, 3) := by decide +kernel
theorem dX1_init_32 : decode cX1_init 32 = .ok (.iconst 0, 1) := by decide +kernel
theorem dX1_init_33 : decode cX1_init 33 = .ok (.iconst 1, 1) := by decide +kernel
theorem dX1_init_34 : decode cX1_init 34 = .ok (.iastore, 1) := by decide +kernel
theorem dX1_init_35 : decode cX1_init 35 = .ok (.return_, 1) := by decide +kernel
theorem dX1_worth_0 : decode cX1_worth 0 = .ok (.aload_n 0, 1) := by decide +kernel
theorem dX1_worth_1 : decode cX1_worth 1 = .ok (.getfield 9, 3) := by decide +kernel
theorem dX1_worth_4 : decode cX1_worth 4 = .ok (.iconst 0, 1) := by decide +kernel
theorem dX1_worth_5 : decode cX1_worth 5 = .ok (.iaload, 1) := by decide +kernel
theorem dX1_worth_6 : decode cX1_worth 6 = .ok (.ireturn, 1) := by decide +kernel
theorem dX1_ways_0 : decode cX1_ways 0 = .ok (.aload_n 0, 1) := by decide +kernel
theorem dX1_ways_1 : decode cX1_ways 1 = .ok (.getfield 15, 3) := by decide +kernel
theorem dX1_ways_4 : decode cX1_ways 4 = .ok (.iconst 0, 1) := by decide +kernel
theorem dX1_ways_5 : decode cX1_ways 5 = .ok (.iaload, 1) := by decide +kernel
theorem dX1_ways_6 : decode cX1_ways 6 = .ok (.ireturn, 1) := by decide +kernel
theorem dX1_roomOf_0 : decode cX1_roomOf 0 = .ok (.iload_n 1, 1) := by decide +kernel
theorem dX1_roomOf_1 : decode cX1_roomOf 1 = .ok (.ifCond .lt 21, 3) := by decide +kernel
theorem dX1_roomOf_4 : decode cX1_roomOf 4 = .ok (.iload_n 1, 1) := by decide +kernel
theorem dX1_roomOf_5 : decode cX1_roomOf 5 = .ok (.aload_n 0, 1) := by decide +kernel
theorem dX1_roomOf_6 : decode cX1_roomOf 6 = .ok (.getfield 18, 3) := by decide +kernel
theorem dX1_roomOf_9 : decode cX1_roomOf 9 = .ok (.arraylength, 1) := by decide +kernel
theorem dX1_roomOf_10 : decode cX1_roomOf 10 = .ok (.if_icmp .ge 12, 3) := by decide +kernel
theorem dX1_roomOf_13 : decode cX1_roomOf 13 = .ok (.aload_n 0, 1) := by decide +kernel
theorem dX1_roomOf_14 : decode cX1_roomOf 14 = .ok (.getfield 18, 3) := by decide +kernel
theorem dX1_roomOf_17 : decode cX1_roomOf 17 = .ok (.iload_n 1, 1) := by decide +kernel
theorem dX1_roomOf_18 : decode cX1_roomOf 18 = .ok (.iaload, 1) := by decide +kernel
theorem dX1_roomOf_19 : decode cX1_roomOf 19 = .ok (.goto 4, 3) := by decide +kernel
theorem dX1_roomOf_22 : decode cX1_roomOf 22 = .ok (.iconst 0, 1) := by decide +kernel
theorem dX1_roomOf_23 : decode cX1_roomOf 23 = .ok (.ireturn, 1) := by decide +kernel
set_option maxRecDepth 20000 in
theorem ggX1_choose_X0_size : GoodIn wsX1_choose wsX0_size := goodIn_r _ [8, 9, 38, 39] rfl (by decide +kernel)
set_option maxRecDepth 20000 in
theorem gX1_choose_X0_size : GoodIn wsX1_choose (wsV RX1 21 RX0 yX0_size wsX0_size) := goodIn_app (goodIn_of _ (by decide +kernel)) ggX1_choose_X0_size
set_option maxRecDepth 20000 in
theorem ggX1_choose_X1_weigh : GoodIn wsX1_choose wsX1_weigh := goodIn_r _ [14, 1, 2, 15, 16, 17, 18, 19, 20, 21, 4, 5, 6, 7, 8, 9, 22, 23, 24, 25, 26, 27, 28, 29, 30, 35, 36, 37, 38, 39] rfl (by decide +kernel)
set_option maxRecDepth 20000 in
theorem gX1_choose_X1_weigh : GoodIn wsX1_choose (wsV RX1 27 RX1 yX1_weigh wsX1_weigh) := goodIn_app (goodIn_of _ (by decide +kernel)) ggX1_choose_X1_weigh
set_option maxRecDepth 20000 in
theorem ggX1_choose_X1_firstBestRoom : GoodIn wsX1_choose wsX1_firstBestRoom := goodIn_r _ [34, 1, 4, 5, 6, 7, 8, 9, 22, 23, 24, 25, 26, 27, 28, 29, 30, 35, 36, 37, 38, 39] rfl (by decide +kernel)
set_option maxRecDepth 20000 in
theorem gX1_choose_X1_firstBestRoom : GoodIn wsX1_choose (wsV RX1 31 RX1 yX1_firstBestRoom wsX1_firstBestRoom) := goodIn_app (goodIn_of _ (by decide +kernel)) ggX1_choose_X1_firstBestRoom
theorem dX1_choose_0 : decode cX1_choose 0 = .ok (.iconst 1, 1) := by decide +kernel
theorem dX1_choose_1 : decode cX1_choose 1 = .ok (.aload_n 1, 1) := by decide +kernel
theorem dX1_choose_2 : decode cX1_choose 2 = .ok (.invokevirtual 21, 3) := by decide +kernel
theorem dX1_choose_5 : decode cX1_choose 5 = .ok (.ishl, 1) := by decide +kernel
theorem dX1_choose_6 : decode cX1_choose 6 = .ok (.iconst 1, 1) := by decide +kernel
theorem dX1_choose_7 : decode cX1_choose 7 = .ok (.isub, 1) := by decide +kernel
theorem dX1_choose_8 : decode cX1_choose 8 = .ok (.istore_n 2, 1) := by decide +kernel
theorem dX1_choose_9 : decode cX1_choose 9 = .ok (.aload_n 0, 1) := by decide +kernel
theorem dX1_choose_10 : decode cX1_choose 10 = .ok (.getfield 9, 3) := by decide +kernel
theorem dX1_choose_13 : decode cX1_choose 13 = .ok (.iload_n 2, 1) := by decide +kernel
theorem dX1_choose_14 : decode cX1_choose 14 = .ok (.iconst 0, 1) := by decide +kernel
theorem dX1_choose_15 : decode cX1_choose 15 = .ok (.iastore, 1) := by decide +kernel
theorem dX1_choose_16 : decode cX1_choose 16 = .ok (.aload_n 0, 1) := by decide +kernel
theorem dX1_choose_17 : decode cX1_choose 17 = .ok (.getfield 15, 3) := by decide +kernel
theorem dX1_choose_20 : decode cX1_choose 20 = .ok (.iload_n 2, 1) := by decide +kernel
theorem dX1_choose_21 : decode cX1_choose 21 = .ok (.iconst 1, 1) := by decide +kernel
theorem dX1_choose_22 : decode cX1_choose 22 = .ok (.iastore, 1) := by decide +kernel
theorem dX1_choose_23 : decode cX1_choose 23 = .ok (.iload_n 2, 1) := by decide +kernel
theorem dX1_choose_24 : decode cX1_choose 24 = .ok (.iconst 1, 1) := by decide +kernel
theorem dX1_choose_25 : decode cX1_choose 25 = .ok (.isub, 1) := by decide +kernel
theorem dX1_choose_26 : decode cX1_choose 26 = .ok (.istore_n 3, 1) := by decide +kernel
theorem dX1_choose_27 : decode cX1_choose 27 = .ok (.iload_n 3, 1) := by decide +kernel
theorem dX1_choose_28 : decode cX1_choose 28 = .ok (.ifCond .lt 15, 3) := by decide +kernel
theorem dX1_choose_31 : decode cX1_choose 31 = .ok (.aload_n 0, 1) := by decide +kernel
theorem dX1_choose_32 : decode cX1_choose 32 = .ok (.aload_n 1, 1) := by decide +kernel
theorem dX1_choose_33 : decode cX1_choose 33 = .ok (.iload_n 3, 1) := by decide +kernel
theorem dX1_choose_34 : decode cX1_choose 34 = .ok (.invokevirtual 27, 3) := by decide +kernel
theorem dX1_choose_37 : decode cX1_choose 37 = .ok (.iinc 3 (-1), 3) := by decide +kernel
theorem dX1_choose_40 : decode cX1_choose 40 = .ok (.goto (-13), 3) := by decide +kernel
theorem dX1_choose_43 : decode cX1_choose 43 = .ok (.iconst 0, 1) := by decide +kernel
theorem dX1_choose_44 : decode cX1_choose 44 = .ok (.istore_n 3, 1) := by decide +kernel
theorem dX1_choose_45 : decode cX1_choose 45 = .ok (.iconst 0, 1) := by decide +kernel
theorem dX1_choose_46 : decode cX1_choose 46 = .ok (.istore 4, 2) := by decide +kernel
theorem dX1_choose_48 : decode cX1_choose 48 = .ok (.iload 4, 2) := by decide +kernel
theorem dX1_choose_50 : decode cX1_choose 50 = .ok (.aload_n 1, 1) := by decide +kernel
theorem dX1_choose_51 : decode cX1_choose 51 = .ok (.invokevirtual 21, 3) := by decide +kernel
theorem dX1_choose_54 : decode cX1_choose 54 = .ok (.if_icmp .ge 36, 3) := by decide +kernel
theorem dX1_choose_57 : decode cX1_choose 57 = .ok (.aload_n 0, 1) := by decide +kernel
theorem dX1_choose_58 : decode cX1_choose 58 = .ok (.getfield 18, 3) := by decide +kernel
theorem dX1_choose_61 : decode cX1_choose 61 = .ok (.iload 4, 2) := by decide +kernel
theorem dX1_choose_63 : decode cX1_choose 63 = .ok (.aload_n 0, 1) := by decide +kernel
theorem dX1_choose_64 : decode cX1_choose 64 = .ok (.aload_n 1, 1) := by decide +kernel
theorem dX1_choose_65 : decode cX1_choose 65 = .ok (.iload 4, 2) := by decide +kernel
theorem dX1_choose_67 : decode cX1_choose 67 = .ok (.iload_n 3, 1) := by decide +kernel
theorem dX1_choose_68 : decode cX1_choose 68 = .ok (.invokevirtual 31, 3) := by decide +kernel
theorem dX1_choose_71 : decode cX1_choose 71 = .ok (.iastore, 1) := by decide +kernel
theorem dX1_choose_72 : decode cX1_choose 72 = .ok (.iload_n 3, 1) := by decide +kernel
theorem dX1_choose_73 : decode cX1_choose 73 = .ok (.iconst 1, 1) := by decide +kernel
theorem dX1_choose_74 : decode cX1_choose 74 = .ok (.aload_n 0, 1) := by decide +kernel
theorem dX1_choose_75 : decode cX1_choose 75 = .ok (.getfield 18, 3) := by decide +kernel
theorem dX1_choose_78 : decode cX1_choose 78 = .ok (.iload 4, 2) := by decide +kernel
theorem dX1_choose_80 : decode cX1_choose 80 = .ok (.iaload, 1) := by decide +kernel
theorem dX1_choose_81 : decode cX1_choose 81 = .ok (.ishl, 1) := by decide +kernel
theorem dX1_choose_82 : decode cX1_choose 82 = .ok (.ior, 1) := by decide +kernel
theorem dX1_choose_83 : decode cX1_choose 83 = .ok (.istore_n 3, 1) := by decide +kernel
theorem dX1_choose_84 : decode cX1_choose 84 = .ok (.iinc 4 1, 3) := by decide +kernel
theorem dX1_choose_87 : decode cX1_choose 87 = .ok (.goto (-39), 3) := by decide +kernel
theorem dX1_choose_90 : decode cX1_choose 90 = .ok (.return_, 1) := by decide +kernel
set_option maxRecDepth 20000 in
theorem ggX1_weigh_J6_bitCount_0f7a4 : GoodIn wsX1_weigh wsJ6_bitCount_0f7a4 := goodIn_r _ [6, 7, 8, 9] rfl (by decide +kernel)
set_option maxRecDepth 20000 in
theorem gX1_weigh_J6_bitCount_0f7a4 : GoodIn wsX1_weigh (va_wsS RX1 35 yJ6_bitCount_0f7a4 wsJ6_bitCount_0f7a4) := goodIn_app (goodIn_of _ (by decide +kernel)) ggX1_weigh_J6_bitCount_0f7a4
set_option maxRecDepth 20000 in
theorem ggX1_weigh_X0_size : GoodIn wsX1_weigh wsX0_size := goodIn_r _ [14, 15, 28, 29] rfl (by decide +kernel)
set_option maxRecDepth 20000 in
theorem gX1_weigh_X0_size : GoodIn wsX1_weigh (wsV RX1 21 RX0 yX0_size wsX0_size) := goodIn_app (goodIn_of _ (by decide +kernel)) ggX1_weigh_X0_size
set_option maxRecDepth 20000 in
theorem ggX1_weigh_X0_of : GoodIn wsX1_weigh wsX0_of := goodIn_r _ [19, 20, 21, 22, 23, 13, 24, 15, 28, 29] rfl (by decide +kernel)
set_option maxRecDepth 20000 in
theorem gX1_weigh_X0_of : GoodIn wsX1_weigh (wsV RX1 41 RX0 yX0_of wsX0_of) := goodIn_app (goodIn_of _ (by decide +kernel)) ggX1_weigh_X0_of
theorem dX1_weigh_0 : decode cX1_weigh 0 = .ok (.iload_n 2, 1) := by decide +kernel
theorem dX1_weigh_1 : decode cX1_weigh 1 = .ok (.invokestatic 35, 3) := by decide +kernel
theorem dX1_weigh_4 : decode cX1_weigh 4 = .ok (.istore_n 3, 1) := by decide +kernel
theorem dX1_weigh_5 : decode cX1_weigh 5 = .ok (.iconst (-1), 1) := by decide +kernel
theorem dX1_weigh_6 : decode cX1_weigh 6 = .ok (.istore 4, 2) := by decide +kernel
theorem dX1_weigh_8 : decode cX1_weigh 8 = .ok (.iconst 0, 1) := by decide +kernel
theorem dX1_weigh_9 : decode cX1_weigh 9 = .ok (.istore 5, 2) := by decide +kernel
theorem dX1_weigh_11 : decode cX1_weigh 11 = .ok (.iconst 0, 1) := by decide +kernel
theorem dX1_weigh_12 : decode cX1_weigh 12 = .ok (.istore 6, 2) := by decide +kernel
theorem dX1_weigh_14 : decode cX1_weigh 14 = .ok (.iload 6, 2) := by decide +kernel
theorem dX1_weigh_16 : decode cX1_weigh 16 = .ok (.aload_n 1, 1) := by decide +kernel
theorem dX1_weigh_17 : decode cX1_weigh 17 = .ok (.invokevirtual 21, 3) := by decide +kernel
theorem dX1_weigh_20 : decode cX1_weigh 20 = .ok (.if_icmp .ge 76, 3) := by decide +kernel
theorem dX1_weigh_23 : decode cX1_weigh 23 = .ok (.iload_n 2, 1) := by decide +kernel
theorem dX1_weigh_24 : decode cX1_weigh 24 = .ok (.iload 6, 2) := by decide +kernel
theorem dX1_weigh_26 : decode cX1_weigh 26 = .ok (.ishr, 1) := by decide +kernel
theorem dX1_weigh_27 : decode cX1_weigh 27 = .ok (.iconst 1, 1) := by decide +kernel
theorem dX1_weigh_28 : decode cX1_weigh 28 = .ok (.iand, 1) := by decide +kernel
theorem dX1_weigh_29 : decode cX1_weigh 29 = .ok (.ifCond .ne 61, 3) := by decide +kernel
theorem dX1_weigh_32 : decode cX1_weigh 32 = .ok (.iload_n 2, 1) := by decide +kernel
theorem dX1_weigh_33 : decode cX1_weigh 33 = .ok (.iconst 1, 1) := by decide +kernel
theorem dX1_weigh_34 : decode cX1_weigh 34 = .ok (.iload 6, 2) := by decide +kernel
theorem dX1_weigh_36 : decode cX1_weigh 36 = .ok (.ishl, 1) := by decide +kernel
theorem dX1_weigh_37 : decode cX1_weigh 37 = .ok (.ior, 1) := by decide +kernel
theorem dX1_weigh_38 : decode cX1_weigh 38 = .ok (.istore 7, 2) := by decide +kernel
theorem dX1_weigh_40 : decode cX1_weigh 40 = .ok (.aload_n 1, 1) := by decide +kernel
theorem dX1_weigh_41 : decode cX1_weigh 41 = .ok (.iload_n 3, 1) := by decide +kernel
theorem dX1_weigh_42 : decode cX1_weigh 42 = .ok (.iload 6, 2) := by decide +kernel
theorem dX1_weigh_44 : decode cX1_weigh 44 = .ok (.invokevirtual 41, 3) := by decide +kernel
theorem dX1_weigh_47 : decode cX1_weigh 47 = .ok (.aload_n 0, 1) := by decide +kernel
theorem dX1_weigh_48 : decode cX1_weigh 48 = .ok (.getfield 9, 3) := by decide +kernel
theorem dX1_weigh_51 : decode cX1_weigh 51 = .ok (.iload 7, 2) := by decide +kernel
theorem dX1_weigh_53 : decode cX1_weigh 53 = .ok (.iaload, 1) := by decide +kernel
theorem dX1_weigh_54 : decode cX1_weigh 54 = .ok (.iadd, 1) := by decide +kernel
theorem dX1_weigh_55 : decode cX1_weigh 55 = .ok (.istore 8, 2) := by decide +kernel
theorem dX1_weigh_57 : decode cX1_weigh 57 = .ok (.iload 8, 2) := by decide +kernel
theorem dX1_weigh_59 : decode cX1_weigh 59 = .ok (.iload 4, 2) := by decide +kernel
theorem dX1_weigh_61 : decode cX1_weigh 61 = .ok (.if_icmp .le 10, 3) := by decide +kernel
theorem dX1_weigh_64 : decode cX1_weigh 64 = .ok (.iload 8, 2) := by decide +kernel
theorem dX1_weigh_66 : decode cX1_weigh 66 = .ok (.istore 4, 2) := by decide +kernel
theorem dX1_weigh_68 : decode cX1_weigh 68 = .ok (.iconst 0, 1) := by decide +kernel
theorem dX1_weigh_69 : decode cX1_weigh 69 = .ok (.istore 5, 2) := by decide +kernel
theorem dX1_weigh_71 : decode cX1_weigh 71 = .ok (.iload 8, 2) := by decide +kernel
theorem dX1_weigh_73 : decode cX1_weigh 73 = .ok (.iload 4, 2) := by decide +kernel
theorem dX1_weigh_75 : decode cX1_weigh 75 = .ok (.if_icmp .ne 15, 3) := by decide +kernel
theorem dX1_weigh_78 : decode cX1_weigh 78 = .ok (.iload 5, 2) := by decide +kernel
theorem dX1_weigh_80 : decode cX1_weigh 80 = .ok (.aload_n 0, 1) := by decide +kernel
theorem dX1_weigh_81 : decode cX1_weigh 81 = .ok (.getfield 15, 3) := by decide +kernel
theorem dX1_weigh_84 : decode cX1_weigh 84 = .ok (.iload 7, 2) := by decide +kernel
theorem dX1_weigh_86 : decode cX1_weigh 86 = .ok (.iaload, 1) := by decide +kernel
theorem dX1_weigh_87 : decode cX1_weigh 87 = .ok (.iadd, 1) := by decide +kernel
theorem dX1_weigh_88 : decode cX1_weigh 88 = .ok (.istore 5, 2) := by decide +kernel
theorem dX1_weigh_90 : decode cX1_weigh 90 = .ok (.iinc 6 1, 3) := by decide +kernel
theorem dX1_weigh_93 : decode cX1_weigh 93 = .ok (.goto (-79), 3) := by decide +kernel
theorem dX1_weigh_96 : decode cX1_weigh 96 = .ok (.aload_n 0, 1) := by decide +kernel
theorem dX1_weigh_97 : decode cX1_weigh 97 = .ok (.getfield 9, 3) := by decide +kernel
theorem dX1_weigh_100 : decode cX1_weigh 100 = .ok (.iload_n 2, 1) := by decide +kernel
theorem dX1_weigh_101 : decode cX1_weigh 101 = .ok (.iload 4, 2) := by decide +kernel
theorem dX1_weigh_103 : decode cX1_weigh 103 = .ok (.iastore, 1) := by decide +kernel
theorem dX1_weigh_104 : decode cX1_weigh 104 = .ok (.aload_n 0, 1) := by decide +kernel
theorem dX1_weigh_105 : decode cX1_weigh 105 = .ok (.getfield 15, 3) := by decide +kernel
theorem dX1_weigh_108 : decode cX1_weigh 108 = .ok (.iload_n 2, 1) := by decide +kernel
theorem dX1_weigh_109 : decode cX1_weigh 109 = .ok (.iload 5, 2) := by decide +kernel
theorem dX1_weigh_111 : decode cX1_weigh 111 = .ok (.iastore, 1) := by decide +kernel
theorem dX1_weigh_112 : decode cX1_weigh 112 = .ok (.return_, 1) := by decide +kernel
set_option maxRecDepth 20000 in
theorem ggX1_firstBestRoom_X0_size : GoodIn wsX1_firstBestRoom wsX0_size := goodIn_r _ [6, 7, 20, 21] rfl (by decide +kernel)
set_option maxRecDepth 20000 in
theorem gX1_firstBestRoom_X0_size : GoodIn wsX1_firstBestRoom (wsV RX1 21 RX0 yX0_size wsX0_size) := goodIn_app (goodIn_of _ (by decide +kernel)) ggX1_firstBestRoom_X0_size
set_option maxRecDepth 20000 in
theorem ggX1_firstBestRoom_X0_of : GoodIn wsX1_firstBestRoom wsX0_of := goodIn_r _ [11, 12, 13, 14, 15, 5, 16, 7, 20, 21] rfl (by decide +kernel)
set_option maxRecDepth 20000 in
theorem gX1_firstBestRoom_X0_of : GoodIn wsX1_firstBestRoom (wsV RX1 41 RX0 yX0_of wsX0_of) := goodIn_app (goodIn_of _ (by decide +kernel)) ggX1_firstBestRoom_X0_of
theorem dX1_firstBestRoom_0 : decode cX1_firstBestRoom 0 = .ok (.iconst 0, 1) := by decide +kernel
theorem dX1_firstBestRoom_1 : decode cX1_firstBestRoom 1 = .ok (.istore 4, 2) := by decide +kernel
theorem dX1_firstBestRoom_3 : decode cX1_firstBestRoom 3 = .ok (.iload 4, 2) := by decide +kernel
theorem dX1_firstBestRoom_5 : decode cX1_firstBestRoom 5 = .ok (.aload_n 1, 1) := by decide +kernel
theorem dX1_firstBestRoom_6 : decode cX1_firstBestRoom 6 = .ok (.invokevirtual 21, 3) := by decide +kernel
theorem dX1_firstBestRoom_9 : decode cX1_firstBestRoom 9 = .ok (.if_icmp .ge 49, 3) := by decide +kernel
theorem dX1_firstBestRoom_12 : decode cX1_firstBestRoom 12 = .ok (.iload_n 3, 1) := by decide +kernel
theorem dX1_firstBestRoom_13 : decode cX1_firstBestRoom 13 = .ok (.iload 4, 2) := by decide +kernel
theorem dX1_firstBestRoom_15 : decode cX1_firstBestRoom 15 = .ok (.ishr, 1) := by decide +kernel
theorem dX1_firstBestRoom_16 : decode cX1_firstBestRoom 16 = .ok (.iconst 1, 1) := by decide +kernel
theorem dX1_firstBestRoom_17 : decode cX1_firstBestRoom 17 = .ok (.iand, 1) := by decide +kernel
theorem dX1_firstBestRoom_18 : decode cX1_firstBestRoom 18 = .ok (.ifCond .ne 34, 3) := by decide +kernel
theorem dX1_firstBestRoom_21 : decode cX1_firstBestRoom 21 = .ok (.aload_n 1, 1) := by decide +kernel
theorem dX1_firstBestRoom_22 : decode cX1_firstBestRoom 22 = .ok (.iload_n 2, 1) := by decide +kernel
theorem dX1_firstBestRoom_23 : decode cX1_firstBestRoom 23 = .ok (.iload 4, 2) := by decide +kernel
theorem dX1_firstBestRoom_25 : decode cX1_firstBestRoom 25 = .ok (.invokevirtual 41, 3) := by decide +kernel
theorem dX1_firstBestRoom_28 : decode cX1_firstBestRoom 28 = .ok (.aload_n 0, 1) := by decide +kernel
theorem dX1_firstBestRoom_29 : decode cX1_firstBestRoom 29 = .ok (.getfield 9, 3) := by decide +kernel
theorem dX1_firstBestRoom_32 : decode cX1_firstBestRoom 32 = .ok (.iload_n 3, 1) := by decide +kernel
theorem dX1_firstBestRoom_33 : decode cX1_firstBestRoom 33 = .ok (.iconst 1, 1) := by decide +kernel
theorem dX1_firstBestRoom_34 : decode cX1_firstBestRoom 34 = .ok (.iload 4, 2) := by decide +kernel
theorem dX1_firstBestRoom_36 : decode cX1_firstBestRoom 36 = .ok (.ishl, 1) := by decide +kernel
theorem dX1_firstBestRoom_37 : decode cX1_firstBestRoom 37 = .ok (.ior, 1) := by decide +kernel
theorem dX1_firstBestRoom_38 : decode cX1_firstBestRoom 38 = .ok (.iaload, 1) := by decide +kernel
theorem dX1_firstBestRoom_39 : decode cX1_firstBestRoom 39 = .ok (.iadd, 1) := by decide +kernel
theorem dX1_firstBestRoom_40 : decode cX1_firstBestRoom 40 = .ok (.aload_n 0, 1) := by decide +kernel
theorem dX1_firstBestRoom_41 : decode cX1_firstBestRoom 41 = .ok (.getfield 9, 3) := by decide +kernel
theorem dX1_firstBestRoom_44 : decode cX1_firstBestRoom 44 = .ok (.iload_n 3, 1) := by decide +kernel
theorem dX1_firstBestRoom_45 : decode cX1_firstBestRoom 45 = .ok (.iaload, 1) := by decide +kernel
theorem dX1_firstBestRoom_46 : decode cX1_firstBestRoom 46 = .ok (.if_icmp .ne 6, 3) := by decide +kernel
theorem dX1_firstBestRoom_49 : decode cX1_firstBestRoom 49 = .ok (.iload 4, 2) := by decide +kernel
theorem dX1_firstBestRoom_51 : decode cX1_firstBestRoom 51 = .ok (.ireturn, 1) := by decide +kernel
theorem dX1_firstBestRoom_52 : decode cX1_firstBestRoom 52 = .ok (.iinc 4 1, 3) := by decide +kernel
theorem dX1_firstBestRoom_55 : decode cX1_firstBestRoom 55 = .ok (.goto (-52), 3) := by decide +kernel
theorem dX1_firstBestRoom_58 : decode cX1_firstBestRoom 58 = .ok (.iconst 0, 1) := by decide +kernel
theorem dX1_firstBestRoom_59 : decode cX1_firstBestRoom 59 = .ok (.ireturn, 1) := by decide +kernel
end
section
set_option maxRecDepth 20000 in
theorem ggX2_init_X0_init : GoodIn wsX2_init wsX0_init := goodIn_r _ [21, 22, 2, 3, 14, 23, 24, 32, 33] rfl (by decide +kernel)
set_option maxRecDepth 20000 in
theorem gX2_init_X0_init_n9 : GoodIn wsX2_init (wsX0_init) := ggX2_init_X0_init
set_option maxRecDepth 20000 in
theorem ggX2_init_X1_init : GoodIn wsX2_init wsX1_init := goodIn_r _ [27, 28, 2, 3, 14, 29, 30, 31, 43, 44, 45] rfl (by decide +kernel)
set_option maxRecDepth 20000 in
theorem gX2_init_X1_init : GoodIn wsX2_init (wsX1_init) := ggX2_init_X1_init
theorem dX2_init_0 : decode cX2_init 0 = .ok (.aload_n 0, 1) := by decide +kernel
theorem dX2_init_1 : decode cX2_init 1 = .ok (.invokespecial 1, 3) := by decide +kernel
theorem dX2_init_4 : decode cX2_init 4 = .ok (.aload_n 0, 1) := by decide +kernel
theorem dX2_init_5 : decode cX2_init 5 = .ok (.new 7, 3) := by decide +kernel
theorem dX2_init_8 : decode cX2_init 8 = .ok (.dup, 1) := by decide +kernel
theorem dX2_init_9 : decode cX2_init 9 = .ok (.invokespecial 9, 3) := by decide +kernel
theorem dX2_init_12 : decode cX2_init 12 = .ok (.putfield 10, 3) := by decide +kernel
theorem dX2_init_15 : decode cX2_init 15 = .ok (.aload_n 0, 1) := by decide +kernel
theorem dX2_init_16 : decode cX2_init 16 = .ok (.new 16, 3) := by decide +kernel
theorem dX2_init_19 : decode cX2_init 19 = .ok (.dup, 1) := by decide +kernel
theorem dX2_init_20 : decode cX2_init 20 = .ok (.invokespecial 18, 3) := by decide +kernel
theorem dX2_init_23 : decode cX2_init 23 = .ok (.putfield 19, 3) := by decide +kernel
theorem dX2_init_26 : decode cX2_init 26 = .ok (.aload_n 0, 1) := by decide +kernel
theorem dX2_init_27 : decode cX2_init 27 = .ok (.new 7, 3) := by decide +kernel
theorem dX2_init_30 : decode cX2_init 30 = .ok (.dup, 1) := by decide +kernel
theorem dX2_init_31 : decode cX2_init 31 = .ok (.invokespecial 9, 3) := by decide +kernel
theorem dX2_init_34 : decode cX2_init 34 = .ok (.putfield 23, 3) := by decide +kernel
theorem dX2_init_37 : decode cX2_init 37 = .ok (.aload_n 0, 1) := by decide +kernel
theorem dX2_init_38 : decode cX2_init 38 = .ok (.new 16, 3) := by decide +kernel
theorem dX2_init_41 : decode cX2_init 41 = .ok (.dup, 1) := by decide +kernel
theorem dX2_init_42 : decode cX2_init 42 = .ok (.invokespecial 18, 3) := by decide +kernel
theorem dX2_init_45 : decode cX2_init 45 = .ok (.putfield 26, 3) := by decide +kernel
theorem dX2_init_48 : decode cX2_init 48 = .ok (.aload_n 0, 1) := by decide +kernel
theorem dX2_init_49 : decode cX2_init 49 = .ok (.bipush 6, 2) := by decide +kernel
theorem dX2_init_51 : decode cX2_init 51 = .ok (.newarray .int, 2) := by decide +kernel
theorem dX2_init_53 : decode cX2_init 53 = .ok (.putfield 29, 3) := by decide +kernel
theorem dX2_init_56 : decode cX2_init 56 = .ok (.aload_n 0, 1) := by decide +kernel
theorem dX2_init_57 : decode cX2_init 57 = .ok (.bipush 6, 2) := by decide +kernel
theorem dX2_init_59 : decode cX2_init 59 = .ok (.newarray .int, 2) := by decide +kernel
theorem dX2_init_61 : decode cX2_init 61 = .ok (.putfield 33, 3) := by decide +kernel
theorem dX2_init_64 : decode cX2_init 64 = .ok (.aload_n 0, 1) := by decide +kernel
theorem dX2_init_65 : decode cX2_init 65 = .ok (.iconst 0, 1) := by decide +kernel
theorem dX2_init_66 : decode cX2_init 66 = .ok (.putfield 36, 3) := by decide +kernel
theorem dX2_init_69 : decode cX2_init 69 = .ok (.aload_n 0, 1) := by decide +kernel
theorem dX2_init_70 : decode cX2_init 70 = .ok (.iconst 0, 1) := by decide +kernel
theorem dX2_init_71 : decode cX2_init 71 = .ok (.putfield 40, 3) := by decide +kernel
theorem dX2_init_74 : decode cX2_init 74 = .ok (.aload_n 0, 1) := by decide +kernel
theorem dX2_init_75 : decode cX2_init 75 = .ok (.iconst 0, 1) := by decide +kernel
theorem dX2_init_76 : decode cX2_init 76 = .ok (.putfield 43, 3) := by decide +kernel
theorem dX2_init_79 : decode cX2_init 79 = .ok (.return_, 1) := by decide +kernel
set_option maxRecDepth 20000 in
theorem ggX2_come_X0_size : GoodIn wsX2_come wsX0_size := goodIn_r _ [8, 9, 108, 109] rfl (by decide +kernel)
set_option maxRecDepth 20000 in
theorem gX2_come_X0_size : GoodIn wsX2_come (wsV RX2 46 RX0 yX0_size wsX0_size) := goodIn_app (goodIn_of _ (by decide +kernel)) ggX2_come_X0_size
set_option maxRecDepth 20000 in
theorem ggX2_come_X0_grow : GoodIn wsX2_come wsX0_grow := goodIn_r _ [13, 9, 14, 15, 16, 7, 17, 18, 19, 20, 21, 22, 108, 109] rfl (by decide +kernel)
set_option maxRecDepth 20000 in
theorem gX2_come_X0_grow : GoodIn wsX2_come (wsV RX2 57 RX0 yX0_grow wsX0_grow) := goodIn_app (goodIn_of _ (by decide +kernel)) ggX2_come_X0_grow
set_option maxRecDepth 20000 in
theorem ggX2_come_X2_settleAll : GoodIn wsX2_come wsX2_settleAll := goodIn_r _ [27, 28, 3, 29, 30, 31, 32, 33, 34, 35, 36, 37, 5, 6, 7, 8, 9, 38, 39, 40, 41, 42, 43, 44, 45, 46, 47, 48, 49, 50, 51, 52, 18, 19, 20, 21, 22, 53, 54, 55, 56, 57, 58, 59, 26, 60, 61, 4, 62, 63, 64, 65, 66, 67, 68, 69, 70, 71, 72, 73, 74, 75, 76, 77, 78, 79, 80, 81, 82, 83, 84, 85, 86, 87, 88, 89, 90, 91, 92, 93, 94, 95, 96, 97, 98, 99, 100, 101, 102, 103, 104, 105, 106, 107, 110, 111, 112, 108, 109] rfl (by decide +kernel)
set_option maxRecDepth 20000 in
theorem gX2_come_X2_settleAll : GoodIn wsX2_come (wsV RX2 60 RX2 yX2_settleAll wsX2_settleAll) := goodIn_app (goodIn_of _ (by decide +kernel)) ggX2_come_X2_settleAll
theorem dX2_come_0 : decode cX2_come 0 = .ok (.aload_n 0, 1) := by decide +kernel
theorem dX2_come_1 : decode cX2_come 1 = .ok (.getfield 10, 3) := by decide +kernel
theorem dX2_come_4 : decode cX2_come 4 = .ok (.invokevirtual 46, 3) := by decide +kernel
theorem dX2_come_7 : decode cX2_come 7 = .ok (.bipush 6, 2) := by decide +kernel
theorem dX2_come_9 : decode cX2_come 9 = .ok (.if_icmp .lt 13, 3) := by decide +kernel
theorem dX2_come_12 : decode cX2_come 12 = .ok (.new 50, 3) := by decide +kernel
theorem dX2_come_15 : decode cX2_come 15 = .ok (.dup, 1) := by decide +kernel
theorem dX2_come_16 : decode cX2_come 16 = .ok (.ldc 52, 2) := by decide +kernel
theorem dX2_come_18 : decode cX2_come 18 = .ok (.invokespecial 54, 3) := by decide +kernel
theorem dX2_come_21 : decode cX2_come 21 = .ok (.athrow, 1) := by decide +kernel
theorem dX2_come_22 : decode cX2_come 22 = .ok (.aload_n 0, 1) := by decide +kernel
theorem dX2_come_23 : decode cX2_come 23 = .ok (.getfield 10, 3) := by decide +kernel
theorem dX2_come_26 : decode cX2_come 26 = .ok (.invokevirtual 57, 3) := by decide +kernel
theorem dX2_come_29 : decode cX2_come 29 = .ok (.aload_n 0, 1) := by decide +kernel
theorem dX2_come_30 : decode cX2_come 30 = .ok (.invokevirtual 60, 3) := by decide +kernel
theorem dX2_come_33 : decode cX2_come 33 = .ok (.aload_n 0, 1) := by decide +kernel
theorem dX2_come_34 : decode cX2_come 34 = .ok (.getfield 10, 3) := by decide +kernel
theorem dX2_come_37 : decode cX2_come 37 = .ok (.invokevirtual 46, 3) := by decide +kernel
theorem dX2_come_40 : decode cX2_come 40 = .ok (.iconst 1, 1) := by decide +kernel
theorem dX2_come_41 : decode cX2_come 41 = .ok (.isub, 1) := by decide +kernel
theorem dX2_come_42 : decode cX2_come 42 = .ok (.ireturn, 1) := by decide +kernel
set_option maxRecDepth 20000 in
theorem ggX2_bid_X0_has : GoodIn wsX2_bid wsX0_has := goodIn_r _ [10, 11, 106, 107] rfl (by decide +kernel)
set_option maxRecDepth 20000 in
theorem gX2_bid_X0_has : GoodIn wsX2_bid (wsV RX2 63 RX0 yX0_has wsX0_has) := goodIn_app (goodIn_of _ (by decide +kernel)) ggX2_bid_X0_has
set_option maxRecDepth 20000 in
theorem ggX2_bid_X0_of : GoodIn wsX2_bid wsX0_of := goodIn_r _ [15, 16, 17, 7, 8, 9, 10, 11, 106, 107] rfl (by decide +kernel)
set_option maxRecDepth 20000 in
theorem gX2_bid_X0_of : GoodIn wsX2_bid (wsV RX2 77 RX0 yX0_of wsX0_of) := goodIn_app (goodIn_of _ (by decide +kernel)) ggX2_bid_X0_of
set_option maxRecDepth 20000 in
theorem ggX2_bid_X0_set : GoodIn wsX2_bid wsX0_set := goodIn_r _ [21, 16, 17, 7, 8, 9, 10, 11, 106, 107] rfl (by decide +kernel)
set_option maxRecDepth 20000 in
theorem gX2_bid_X0_set : GoodIn wsX2_bid (wsV RX2 81 RX0 yX0_set wsX0_set) := goodIn_app (goodIn_of _ (by decide +kernel)) ggX2_bid_X0_set
set_option maxRecDepth 20000 in
theorem ggX2_bid_X2_settleAll : GoodIn wsX2_bid wsX2_settleAll := goodIn_r _ [26, 27, 5, 28, 29, 30, 31, 32, 33, 34, 35, 36, 37, 38, 9, 39, 11, 40, 41, 42, 43, 44, 45, 46, 47, 48, 49, 50, 51, 13, 14, 15, 16, 17, 7, 8, 10, 52, 53, 54, 55, 56, 57, 58, 25, 59, 60, 61, 62, 63, 64, 65, 66, 67, 68, 69, 70, 71, 72, 73, 6, 74, 75, 76, 77, 78, 79, 80, 81, 12, 82, 83, 84, 85, 86, 87, 88, 89, 90, 91, 92, 93, 94, 95, 96, 97, 98, 99, 100, 101, 102, 103, 104, 105, 108, 109, 110, 106, 107] rfl (by decide +kernel)
set_option maxRecDepth 20000 in
theorem gX2_bid_X2_settleAll : GoodIn wsX2_bid (wsV RX2 60 RX2 yX2_settleAll wsX2_settleAll) := goodIn_app (goodIn_of _ (by decide +kernel)) ggX2_bid_X2_settleAll
theorem dX2_bid_0 : decode cX2_bid 0 = .ok (.aload_n 0, 1) := by decide +kernel
theorem dX2_bid_1 : decode cX2_bid 1 = .ok (.getfield 10, 3) := by decide +kernel
theorem dX2_bid_4 : decode cX2_bid 4 = .ok (.iload_n 1, 1) := by decide +kernel
theorem dX2_bid_5 : decode cX2_bid 5 = .ok (.invokevirtual 63, 3) := by decide +kernel
theorem dX2_bid_8 : decode cX2_bid 8 = .ok (.ifCond .eq 14, 3) := by decide +kernel
theorem dX2_bid_11 : decode cX2_bid 11 = .ok (.aload_n 0, 1) := by decide +kernel
theorem dX2_bid_12 : decode cX2_bid 12 = .ok (.getfield 10, 3) := by decide +kernel
theorem dX2_bid_15 : decode cX2_bid 15 = .ok (.iload_n 2, 1) := by decide +kernel
theorem dX2_bid_16 : decode cX2_bid 16 = .ok (.invokevirtual 63, 3) := by decide +kernel
theorem dX2_bid_19 : decode cX2_bid 19 = .ok (.ifCond .ne 13, 3) := by decide +kernel
theorem dX2_bid_22 : decode cX2_bid 22 = .ok (.new 67, 3) := by decide +kernel
theorem dX2_bid_25 : decode cX2_bid 25 = .ok (.dup, 1) := by decide +kernel
theorem dX2_bid_26 : decode cX2_bid 26 = .ok (.ldc 69, 2) := by decide +kernel
theorem dX2_bid_28 : decode cX2_bid 28 = .ok (.invokespecial 71, 3) := by decide +kernel
theorem dX2_bid_31 : decode cX2_bid 31 = .ok (.athrow, 1) := by decide +kernel
theorem dX2_bid_32 : decode cX2_bid 32 = .ok (.iload_n 3, 1) := by decide +kernel
theorem dX2_bid_33 : decode cX2_bid 33 = .ok (.ifCond .lt 10, 3) := by decide +kernel
theorem dX2_bid_36 : decode cX2_bid 36 = .ok (.iload_n 3, 1) := by decide +kernel
theorem dX2_bid_37 : decode cX2_bid 37 = .ok (.sipush 999, 3) := by decide +kernel
theorem dX2_bid_40 : decode cX2_bid 40 = .ok (.if_icmp .le 13, 3) := by decide +kernel
theorem dX2_bid_43 : decode cX2_bid 43 = .ok (.new 72, 3) := by decide +kernel
theorem dX2_bid_46 : decode cX2_bid 46 = .ok (.dup, 1) := by decide +kernel
theorem dX2_bid_47 : decode cX2_bid 47 = .ok (.ldc 74, 2) := by decide +kernel
theorem dX2_bid_49 : decode cX2_bid 49 = .ok (.invokespecial 76, 3) := by decide +kernel
theorem dX2_bid_52 : decode cX2_bid 52 = .ok (.athrow, 1) := by decide +kernel
theorem dX2_bid_53 : decode cX2_bid 53 = .ok (.aload_n 0, 1) := by decide +kernel
theorem dX2_bid_54 : decode cX2_bid 54 = .ok (.getfield 10, 3) := by decide +kernel
theorem dX2_bid_57 : decode cX2_bid 57 = .ok (.iload_n 1, 1) := by decide +kernel
theorem dX2_bid_58 : decode cX2_bid 58 = .ok (.iload_n 2, 1) := by decide +kernel
theorem dX2_bid_59 : decode cX2_bid 59 = .ok (.invokevirtual 77, 3) := by decide +kernel
theorem dX2_bid_62 : decode cX2_bid 62 = .ok (.istore 4, 2) := by decide +kernel
theorem dX2_bid_64 : decode cX2_bid 64 = .ok (.aload_n 0, 1) := by decide +kernel
theorem dX2_bid_65 : decode cX2_bid 65 = .ok (.getfield 10, 3) := by decide +kernel
theorem dX2_bid_68 : decode cX2_bid 68 = .ok (.iload_n 1, 1) := by decide +kernel
theorem dX2_bid_69 : decode cX2_bid 69 = .ok (.iload_n 2, 1) := by decide +kernel
theorem dX2_bid_70 : decode cX2_bid 70 = .ok (.iload_n 3, 1) := by decide +kernel
theorem dX2_bid_71 : decode cX2_bid 71 = .ok (.invokevirtual 81, 3) := by decide +kernel
theorem dX2_bid_74 : decode cX2_bid 74 = .ok (.aload_n 0, 1) := by decide +kernel
theorem dX2_bid_75 : decode cX2_bid 75 = .ok (.invokevirtual 60, 3) := by decide +kernel
theorem dX2_bid_78 : decode cX2_bid 78 = .ok (.iload 4, 2) := by decide +kernel
theorem dX2_bid_80 : decode cX2_bid 80 = .ok (.ireturn, 1) := by decide +kernel
set_option maxRecDepth 20000 in
theorem ggX2_rent_X2_settleLeftOver : GoodIn wsX2_rent wsX2_settleLeftOver := goodIn_r _ [8, 9, 10, 3, 11, 12, 13, 14, 15, 16, 17, 18, 19, 20, 21, 22, 23, 24, 25, 26, 27, 7, 28, 29, 30, 31, 32, 33, 34, 35, 36, 37, 38, 39, 40, 41, 42, 43] rfl (by decide +kernel)
set_option maxRecDepth 20000 in
theorem gX2_rent_X2_settleLeftOver : GoodIn wsX2_rent (wsV RX2 87 RX2 yX2_settleLeftOver wsX2_settleLeftOver) := goodIn_app (goodIn_of _ (by decide +kernel)) ggX2_rent_X2_settleLeftOver
theorem dX2_rent_0 : decode cX2_rent 0 = .ok (.iload_n 1, 1) := by decide +kernel
theorem dX2_rent_1 : decode cX2_rent 1 = .ok (.ifCond .lt 10, 3) := by decide +kernel
theorem dX2_rent_4 : decode cX2_rent 4 = .ok (.iload_n 1, 1) := by decide +kernel
theorem dX2_rent_5 : decode cX2_rent 5 = .ok (.sipush 5999, 3) := by decide +kernel
theorem dX2_rent_8 : decode cX2_rent 8 = .ok (.if_icmp .le 13, 3) := by decide +kernel
theorem dX2_rent_11 : decode cX2_rent 11 = .ok (.new 72, 3) := by decide +kernel
theorem dX2_rent_14 : decode cX2_rent 14 = .ok (.dup, 1) := by decide +kernel
theorem dX2_rent_15 : decode cX2_rent 15 = .ok (.ldc 85, 2) := by decide +kernel
theorem dX2_rent_17 : decode cX2_rent 17 = .ok (.invokespecial 76, 3) := by decide +kernel
theorem dX2_rent_20 : decode cX2_rent 20 = .ok (.athrow, 1) := by decide +kernel
theorem dX2_rent_21 : decode cX2_rent 21 = .ok (.aload_n 0, 1) := by decide +kernel
theorem dX2_rent_22 : decode cX2_rent 22 = .ok (.getfield 36, 3) := by decide +kernel
theorem dX2_rent_25 : decode cX2_rent 25 = .ok (.istore_n 2, 1) := by decide +kernel
theorem dX2_rent_26 : decode cX2_rent 26 = .ok (.aload_n 0, 1) := by decide +kernel
theorem dX2_rent_27 : decode cX2_rent 27 = .ok (.iload_n 1, 1) := by decide +kernel
theorem dX2_rent_28 : decode cX2_rent 28 = .ok (.putfield 36, 3) := by decide +kernel
theorem dX2_rent_31 : decode cX2_rent 31 = .ok (.aload_n 0, 1) := by decide +kernel
theorem dX2_rent_32 : decode cX2_rent 32 = .ok (.invokevirtual 87, 3) := by decide +kernel
theorem dX2_rent_35 : decode cX2_rent 35 = .ok (.iload_n 2, 1) := by decide +kernel
theorem dX2_rent_36 : decode cX2_rent 36 = .ok (.ireturn, 1) := by decide +kernel
set_option maxRecDepth 20000 in
theorem ggX2_leave_X0_has : GoodIn wsX2_leave wsX0_has := goodIn_r _ [9, 10, 109, 110] rfl (by decide +kernel)
set_option maxRecDepth 20000 in
theorem gX2_leave_X0_has : GoodIn wsX2_leave (wsV RX2 63 RX0 yX0_has wsX0_has) := goodIn_app (goodIn_of _ (by decide +kernel)) ggX2_leave_X0_has
set_option maxRecDepth 20000 in
theorem ggX2_leave_X1_roomOf : GoodIn wsX2_leave wsX1_roomOf := goodIn_r _ [15, 16, 111, 112, 113] rfl (by decide +kernel)
set_option maxRecDepth 20000 in
theorem gX2_leave_X1_roomOf : GoodIn wsX2_leave (wsV RX2 92 RX1 yX1_roomOf wsX1_roomOf) := goodIn_app (goodIn_of _ (by decide +kernel)) ggX2_leave_X1_roomOf
set_option maxRecDepth 20000 in
theorem ggX2_leave_X0_shrink : GoodIn wsX2_leave wsX0_shrink := goodIn_r _ [20, 10, 21, 6, 7, 8, 9, 22, 23, 24, 25, 26, 27, 28, 29, 30, 109, 110] rfl (by decide +kernel)
set_option maxRecDepth 20000 in
theorem gX2_leave_X0_shrink : GoodIn wsX2_leave (wsV RX2 96 RX0 yX0_shrink wsX0_shrink) := goodIn_app (goodIn_of _ (by decide +kernel)) ggX2_leave_X0_shrink
set_option maxRecDepth 20000 in
theorem ggX2_leave_X2_settleAll : GoodIn wsX2_leave wsX2_settleAll := goodIn_r _ [35, 4, 3, 36, 37, 38, 14, 39, 40, 41, 16, 42, 43, 44, 8, 45, 10, 46, 47, 48, 49, 50, 51, 52, 53, 54, 55, 56, 57, 23, 24, 25, 26, 21, 6, 7, 9, 58, 59, 60, 61, 62, 63, 64, 34, 65, 66, 67, 68, 69, 70, 71, 72, 73, 74, 75, 76, 77, 78, 79, 5, 80, 81, 82, 83, 11, 12, 13, 15, 84, 85, 86, 87, 88, 89, 90, 91, 92, 93, 94, 95, 96, 97, 98, 99, 100, 101, 102, 103, 104, 105, 106, 107, 108, 111, 112, 113, 109, 110] rfl (by decide +kernel)
set_option maxRecDepth 20000 in
theorem gX2_leave_X2_settleAll : GoodIn wsX2_leave (wsV RX2 60 RX2 yX2_settleAll wsX2_settleAll) := goodIn_app (goodIn_of _ (by decide +kernel)) ggX2_leave_X2_settleAll
theorem dX2_leave_0 : decode cX2_leave 0 = .ok (.aload_n 0, 1) := by decide +kernel
theorem dX2_leave_1 : decode cX2_leave 1 = .ok (.getfield 10, 3) := by decide +kernel
theorem dX2_leave_4 : decode cX2_leave 4 = .ok (.iload_n 1, 1) := by decide +kernel
theorem dX2_leave_5 : decode cX2_leave 5 = .ok (.invokevirtual 63, 3) := by decide +kernel
theorem dX2_leave_8 : decode cX2_leave 8 = .ok (.ifCond .ne 13, 3) := by decide +kernel
theorem dX2_leave_11 : decode cX2_leave 11 = .ok (.new 67, 3) := by decide +kernel
theorem dX2_leave_14 : decode cX2_leave 14 = .ok (.dup, 1) := by decide +kernel
theorem dX2_leave_15 : decode cX2_leave 15 = .ok (.ldc 90, 2) := by decide +kernel
theorem dX2_leave_17 : decode cX2_leave 17 = .ok (.invokespecial 71, 3) := by decide +kernel
theorem dX2_leave_20 : decode cX2_leave 20 = .ok (.athrow, 1) := by decide +kernel
theorem dX2_leave_21 : decode cX2_leave 21 = .ok (.aload_n 0, 1) := by decide +kernel
theorem dX2_leave_22 : decode cX2_leave 22 = .ok (.getfield 19, 3) := by decide +kernel
theorem dX2_leave_25 : decode cX2_leave 25 = .ok (.iload_n 1, 1) := by decide +kernel
theorem dX2_leave_26 : decode cX2_leave 26 = .ok (.invokevirtual 92, 3) := by decide +kernel
theorem dX2_leave_29 : decode cX2_leave 29 = .ok (.istore_n 2, 1) := by decide +kernel
theorem dX2_leave_30 : decode cX2_leave 30 = .ok (.aload_n 0, 1) := by decide +kernel
theorem dX2_leave_31 : decode cX2_leave 31 = .ok (.getfield 10, 3) := by decide +kernel
theorem dX2_leave_34 : decode cX2_leave 34 = .ok (.iload_n 1, 1) := by decide +kernel
theorem dX2_leave_35 : decode cX2_leave 35 = .ok (.iload_n 2, 1) := by decide +kernel
theorem dX2_leave_36 : decode cX2_leave 36 = .ok (.invokevirtual 96, 3) := by decide +kernel
theorem dX2_leave_39 : decode cX2_leave 39 = .ok (.aload_n 0, 1) := by decide +kernel
theorem dX2_leave_40 : decode cX2_leave 40 = .ok (.invokevirtual 60, 3) := by decide +kernel
theorem dX2_leave_43 : decode cX2_leave 43 = .ok (.iload_n 2, 1) := by decide +kernel
theorem dX2_leave_44 : decode cX2_leave 44 = .ok (.ireturn, 1) := by decide +kernel
set_option maxRecDepth 20000 in
theorem ggX2_told_X0_has : GoodIn wsX2_told wsX0_has := goodIn_r _ [8, 9, 67, 68] rfl (by decide +kernel)
set_option maxRecDepth 20000 in
theorem gX2_told_X0_has : GoodIn wsX2_told (wsV RX2 63 RX0 yX0_has wsX0_has) := goodIn_app (goodIn_of _ (by decide +kernel)) ggX2_told_X0_has
set_option maxRecDepth 20000 in
theorem ggX2_told_X2_fact : GoodIn wsX2_told wsX2_fact := goodIn_r _ [14, 15, 16, 17, 18, 19, 20, 21, 22, 23, 24, 13, 25, 3, 26, 27, 28, 7, 29, 30, 31, 5, 6, 8, 9, 32, 33, 34, 35, 36, 37, 38, 39, 40, 41, 4, 42, 43, 44, 45, 46, 47, 48, 49, 50, 51, 52, 53, 54, 55, 56, 57, 58, 59, 60, 61, 62, 63, 64, 65, 66, 69, 70, 71, 67, 68] rfl (by decide +kernel)
set_option maxRecDepth 20000 in
theorem gX2_told_X2_fact : GoodIn wsX2_told (wsV RX2 102 RX2 yX2_fact wsX2_fact) := goodIn_app (goodIn_of _ (by decide +kernel)) ggX2_told_X2_fact
theorem dX2_told_0 : decode cX2_told 0 = .ok (.aload_n 0, 1) := by decide +kernel
theorem dX2_told_1 : decode cX2_told 1 = .ok (.getfield 10, 3) := by decide +kernel
theorem dX2_told_4 : decode cX2_told 4 = .ok (.iload_n 1, 1) := by decide +kernel
theorem dX2_told_5 : decode cX2_told 5 = .ok (.invokevirtual 63, 3) := by decide +kernel
theorem dX2_told_8 : decode cX2_told 8 = .ok (.ifCond .eq 13, 3) := by decide +kernel
theorem dX2_told_11 : decode cX2_told 11 = .ok (.iload_n 2, 1) := by decide +kernel
theorem dX2_told_12 : decode cX2_told 12 = .ok (.ifCond .lt 9, 3) := by decide +kernel
theorem dX2_told_15 : decode cX2_told 15 = .ok (.iload_n 2, 1) := by decide +kernel
theorem dX2_told_16 : decode cX2_told 16 = .ok (.bipush 6, 2) := by decide +kernel
theorem dX2_told_18 : decode cX2_told 18 = .ok (.if_icmp .lt 13, 3) := by decide +kernel
theorem dX2_told_21 : decode cX2_told 21 = .ok (.new 67, 3) := by decide +kernel
theorem dX2_told_24 : decode cX2_told 24 = .ok (.dup, 1) := by decide +kernel
theorem dX2_told_25 : decode cX2_told 25 = .ok (.ldc 100, 2) := by decide +kernel
theorem dX2_told_27 : decode cX2_told 27 = .ok (.invokespecial 71, 3) := by decide +kernel
theorem dX2_told_30 : decode cX2_told 30 = .ok (.athrow, 1) := by decide +kernel
theorem dX2_told_31 : decode cX2_told 31 = .ok (.aload_n 0, 1) := by decide +kernel
theorem dX2_told_32 : decode cX2_told 32 = .ok (.iload_n 1, 1) := by decide +kernel
theorem dX2_told_33 : decode cX2_told 33 = .ok (.iload_n 2, 1) := by decide +kernel
theorem dX2_told_34 : decode cX2_told 34 = .ok (.invokevirtual 102, 3) := by decide +kernel
theorem dX2_told_37 : decode cX2_told 37 = .ok (.ireturn, 1) := by decide +kernel
set_option maxRecDepth 20000 in
theorem ggX2_offer_X0_has : GoodIn wsX2_offer wsX0_has := goodIn_r _ [8, 9, 25, 26] rfl (by decide +kernel)
set_option maxRecDepth 20000 in
theorem gX2_offer_X0_has : GoodIn wsX2_offer (wsV RX2 63 RX0 yX0_has wsX0_has) := goodIn_app (goodIn_of _ (by decide +kernel)) ggX2_offer_X0_has
set_option maxRecDepth 20000 in
theorem ggX2_offer_X0_of : GoodIn wsX2_offer wsX0_of := goodIn_r _ [13, 14, 15, 5, 6, 7, 8, 9, 25, 26] rfl (by decide +kernel)
set_option maxRecDepth 20000 in
theorem gX2_offer_X0_of : GoodIn wsX2_offer (wsV RX2 77 RX0 yX0_of wsX0_of) := goodIn_app (goodIn_of _ (by decide +kernel)) ggX2_offer_X0_of
theorem dX2_offer_0 : decode cX2_offer 0 = .ok (.aload_n 0, 1) := by decide +kernel
theorem dX2_offer_1 : decode cX2_offer 1 = .ok (.getfield 10, 3) := by decide +kernel
theorem dX2_offer_4 : decode cX2_offer 4 = .ok (.iload_n 1, 1) := by decide +kernel
theorem dX2_offer_5 : decode cX2_offer 5 = .ok (.invokevirtual 63, 3) := by decide +kernel
theorem dX2_offer_8 : decode cX2_offer 8 = .ok (.ifCond .eq 14, 3) := by decide +kernel
theorem dX2_offer_11 : decode cX2_offer 11 = .ok (.aload_n 0, 1) := by decide +kernel
theorem dX2_offer_12 : decode cX2_offer 12 = .ok (.getfield 10, 3) := by decide +kernel
theorem dX2_offer_15 : decode cX2_offer 15 = .ok (.iload_n 2, 1) := by decide +kernel
theorem dX2_offer_16 : decode cX2_offer 16 = .ok (.invokevirtual 63, 3) := by decide +kernel
theorem dX2_offer_19 : decode cX2_offer 19 = .ok (.ifCond .ne 13, 3) := by decide +kernel
theorem dX2_offer_22 : decode cX2_offer 22 = .ok (.new 67, 3) := by decide +kernel
theorem dX2_offer_25 : decode cX2_offer 25 = .ok (.dup, 1) := by decide +kernel
theorem dX2_offer_26 : decode cX2_offer 26 = .ok (.ldc 69, 2) := by decide +kernel
theorem dX2_offer_28 : decode cX2_offer 28 = .ok (.invokespecial 71, 3) := by decide +kernel
theorem dX2_offer_31 : decode cX2_offer 31 = .ok (.athrow, 1) := by decide +kernel
theorem dX2_offer_32 : decode cX2_offer 32 = .ok (.aload_n 0, 1) := by decide +kernel
theorem dX2_offer_33 : decode cX2_offer 33 = .ok (.getfield 10, 3) := by decide +kernel
theorem dX2_offer_36 : decode cX2_offer 36 = .ok (.iload_n 1, 1) := by decide +kernel
theorem dX2_offer_37 : decode cX2_offer 37 = .ok (.iload_n 2, 1) := by decide +kernel
theorem dX2_offer_38 : decode cX2_offer 38 = .ok (.invokevirtual 77, 3) := by decide +kernel
theorem dX2_offer_41 : decode cX2_offer 41 = .ok (.ireturn, 1) := by decide +kernel
set_option maxRecDepth 20000 in
theorem ggX2_count_X2_total : GoodIn wsX2_count wsX2_total := goodIn_r _ [7, 8, 9, 10, 11, 12, 13, 14, 15, 16, 17, 18, 19, 20, 21, 22, 23, 24, 25, 26, 27, 6, 28, 29, 30, 31, 32, 33, 34, 35, 36, 37, 38, 39, 40, 41, 42, 43, 44, 45, 46, 47, 48, 49, 50, 51, 52, 53, 54, 55, 56, 57, 58, 59, 60, 61, 62, 63, 64, 65, 66, 67, 68, 69, 70, 71, 72, 73, 74, 75, 76, 77, 78, 79, 80, 81, 82, 83] rfl (by decide +kernel)
set_option maxRecDepth 20000 in
theorem gX2_count_X2_total : GoodIn wsX2_count (wsV RX2 107 RX2 yX2_total wsX2_total) := goodIn_app (goodIn_of _ (by decide +kernel)) ggX2_count_X2_total
theorem dX2_count_0 : decode cX2_count 0 = .ok (.iload_n 1, 1) := by decide +kernel
theorem dX2_count_1 : decode cX2_count 1 = .ok (.ifCond .lt 9, 3) := by decide +kernel
theorem dX2_count_4 : decode cX2_count 4 = .ok (.iload_n 1, 1) := by decide +kernel
theorem dX2_count_5 : decode cX2_count 5 = .ok (.bipush 7, 2) := by decide +kernel
theorem dX2_count_7 : decode cX2_count 7 = .ok (.if_icmp .lt 13, 3) := by decide +kernel
theorem dX2_count_10 : decode cX2_count 10 = .ok (.new 67, 3) := by decide +kernel
theorem dX2_count_13 : decode cX2_count 13 = .ok (.dup, 1) := by decide +kernel
theorem dX2_count_14 : decode cX2_count 14 = .ok (.ldc 105, 2) := by decide +kernel
theorem dX2_count_16 : decode cX2_count 16 = .ok (.invokespecial 71, 3) := by decide +kernel
theorem dX2_count_19 : decode cX2_count 19 = .ok (.athrow, 1) := by decide +kernel
theorem dX2_count_20 : decode cX2_count 20 = .ok (.aload_n 0, 1) := by decide +kernel
theorem dX2_count_21 : decode cX2_count 21 = .ok (.iload_n 1, 1) := by decide +kernel
theorem dX2_count_22 : decode cX2_count 22 = .ok (.invokevirtual 107, 3) := by decide +kernel
theorem dX2_count_25 : decode cX2_count 25 = .ok (.ireturn, 1) := by decide +kernel
set_option maxRecDepth 20000 in
theorem ggX2_envies_X0_has : GoodIn wsX2_envies wsX0_has := goodIn_r _ [8, 9, 41, 42] rfl (by decide +kernel)
set_option maxRecDepth 20000 in
theorem gX2_envies_X0_has : GoodIn wsX2_envies (wsV RX2 63 RX0 yX0_has wsX0_has) := goodIn_app (goodIn_of _ (by decide +kernel)) ggX2_envies_X0_has
set_option maxRecDepth 20000 in
theorem ggX2_envies_X2_wouldEnvy : GoodIn wsX2_envies wsX2_wouldEnvy := goodIn_r _ [14, 3, 15, 16, 17, 18, 19, 20, 21, 22, 23, 24, 7, 25, 26, 27, 5, 6, 8, 9, 28, 29, 30, 13, 31, 32, 33, 34, 35, 36, 37, 38, 39, 40, 43, 44, 45, 41, 42] rfl (by decide +kernel)
set_option maxRecDepth 20000 in
theorem gX2_envies_X2_wouldEnvy : GoodIn wsX2_envies (wsV RX2 110 RX2 yX2_wouldEnvy wsX2_wouldEnvy) := goodIn_app (goodIn_of _ (by decide +kernel)) ggX2_envies_X2_wouldEnvy
theorem dX2_envies_0 : decode cX2_envies 0 = .ok (.aload_n 0, 1) := by decide +kernel
theorem dX2_envies_1 : decode cX2_envies 1 = .ok (.getfield 10, 3) := by decide +kernel
theorem dX2_envies_4 : decode cX2_envies 4 = .ok (.iload_n 1, 1) := by decide +kernel
theorem dX2_envies_5 : decode cX2_envies 5 = .ok (.invokevirtual 63, 3) := by decide +kernel
theorem dX2_envies_8 : decode cX2_envies 8 = .ok (.ifCond .eq 14, 3) := by decide +kernel
theorem dX2_envies_11 : decode cX2_envies 11 = .ok (.aload_n 0, 1) := by decide +kernel
theorem dX2_envies_12 : decode cX2_envies 12 = .ok (.getfield 10, 3) := by decide +kernel
theorem dX2_envies_15 : decode cX2_envies 15 = .ok (.iload_n 2, 1) := by decide +kernel
theorem dX2_envies_16 : decode cX2_envies 16 = .ok (.invokevirtual 63, 3) := by decide +kernel
theorem dX2_envies_19 : decode cX2_envies 19 = .ok (.ifCond .ne 13, 3) := by decide +kernel
theorem dX2_envies_22 : decode cX2_envies 22 = .ok (.new 67, 3) := by decide +kernel
theorem dX2_envies_25 : decode cX2_envies 25 = .ok (.dup, 1) := by decide +kernel
theorem dX2_envies_26 : decode cX2_envies 26 = .ok (.ldc 90, 2) := by decide +kernel
theorem dX2_envies_28 : decode cX2_envies 28 = .ok (.invokespecial 71, 3) := by decide +kernel
theorem dX2_envies_31 : decode cX2_envies 31 = .ok (.athrow, 1) := by decide +kernel
theorem dX2_envies_32 : decode cX2_envies 32 = .ok (.aload_n 0, 1) := by decide +kernel
theorem dX2_envies_33 : decode cX2_envies 33 = .ok (.iload_n 1, 1) := by decide +kernel
theorem dX2_envies_34 : decode cX2_envies 34 = .ok (.iload_n 2, 1) := by decide +kernel
theorem dX2_envies_35 : decode cX2_envies 35 = .ok (.invokevirtual 110, 3) := by decide +kernel
theorem dX2_envies_38 : decode cX2_envies 38 = .ok (.ireturn, 1) := by decide +kernel
set_option maxRecDepth 20000 in
theorem ggX2_gap_X0_has : GoodIn wsX2_gap wsX0_has := goodIn_r _ [9, 10, 51, 52] rfl (by decide +kernel)
set_option maxRecDepth 20000 in
theorem gX2_gap_X0_has : GoodIn wsX2_gap (wsV RX2 63 RX0 yX0_has wsX0_has) := goodIn_app (goodIn_of _ (by decide +kernel)) ggX2_gap_X0_has
set_option maxRecDepth 20000 in
theorem ggX2_gap_X2_rebateOf : GoodIn wsX2_gap wsX2_rebateOf := goodIn_r _ [15, 16, 17, 18, 19, 14, 20, 3, 21, 5, 6, 7, 8, 9, 10, 42, 43, 44, 45, 46, 47, 48, 49, 50, 51, 52] rfl (by decide +kernel)
set_option maxRecDepth 20000 in
theorem gX2_gap_X2_rebateOf : GoodIn wsX2_gap (wsV RX2 114 RX2 yX2_rebateOf wsX2_rebateOf) := goodIn_app (goodIn_of _ (by decide +kernel)) ggX2_gap_X2_rebateOf
set_option maxRecDepth 20000 in
theorem ggX2_gap_X1_roomOf : GoodIn wsX2_gap wsX1_roomOf := goodIn_r _ [26, 27, 53, 54, 55] rfl (by decide +kernel)
set_option maxRecDepth 20000 in
theorem gX2_gap_X1_roomOf : GoodIn wsX2_gap (wsV RX2 92 RX1 yX1_roomOf wsX1_roomOf) := goodIn_app (goodIn_of _ (by decide +kernel)) ggX2_gap_X1_roomOf
set_option maxRecDepth 20000 in
theorem ggX2_gap_X0_of : GoodIn wsX2_gap wsX0_of := goodIn_r _ [31, 32, 33, 6, 7, 8, 9, 10, 51, 52] rfl (by decide +kernel)
set_option maxRecDepth 20000 in
theorem gX2_gap_X0_of : GoodIn wsX2_gap (wsV RX2 77 RX0 yX0_of wsX0_of) := goodIn_app (goodIn_of _ (by decide +kernel)) ggX2_gap_X0_of
set_option maxRecDepth 20000 in
theorem ggX2_gap_X2_payOf : GoodIn wsX2_gap wsX2_payOf := goodIn_r _ [37, 38, 39, 40, 14, 41, 3, 4, 22, 23, 24, 25, 26, 27, 28, 29, 30, 8, 31, 32, 33, 6, 7, 9, 10, 11, 12, 13, 15, 16, 17, 18, 19, 20, 21, 5, 42, 43, 44, 45, 46, 47, 48, 49, 50, 53, 54, 55, 51, 52] rfl (by decide +kernel)
set_option maxRecDepth 20000 in
theorem gX2_gap_X2_payOf : GoodIn wsX2_gap (wsV RX2 117 RX2 yX2_payOf wsX2_payOf) := goodIn_app (goodIn_of _ (by decide +kernel)) ggX2_gap_X2_payOf
theorem dX2_gap_0 : decode cX2_gap 0 = .ok (.aload_n 0, 1) := by decide +kernel
theorem dX2_gap_1 : decode cX2_gap 1 = .ok (.getfield 10, 3) := by decide +kernel
theorem dX2_gap_4 : decode cX2_gap 4 = .ok (.iload_n 1, 1) := by decide +kernel
theorem dX2_gap_5 : decode cX2_gap 5 = .ok (.invokevirtual 63, 3) := by decide +kernel
theorem dX2_gap_8 : decode cX2_gap 8 = .ok (.ifCond .eq 14, 3) := by decide +kernel
theorem dX2_gap_11 : decode cX2_gap 11 = .ok (.aload_n 0, 1) := by decide +kernel
theorem dX2_gap_12 : decode cX2_gap 12 = .ok (.getfield 10, 3) := by decide +kernel
theorem dX2_gap_15 : decode cX2_gap 15 = .ok (.iload_n 2, 1) := by decide +kernel
theorem dX2_gap_16 : decode cX2_gap 16 = .ok (.invokevirtual 63, 3) := by decide +kernel
theorem dX2_gap_19 : decode cX2_gap 19 = .ok (.ifCond .ne 13, 3) := by decide +kernel
theorem dX2_gap_22 : decode cX2_gap 22 = .ok (.new 67, 3) := by decide +kernel
theorem dX2_gap_25 : decode cX2_gap 25 = .ok (.dup, 1) := by decide +kernel
theorem dX2_gap_26 : decode cX2_gap 26 = .ok (.ldc 90, 2) := by decide +kernel
theorem dX2_gap_28 : decode cX2_gap 28 = .ok (.invokespecial 71, 3) := by decide +kernel
theorem dX2_gap_31 : decode cX2_gap 31 = .ok (.athrow, 1) := by decide +kernel
theorem dX2_gap_32 : decode cX2_gap 32 = .ok (.aload_n 0, 1) := by decide +kernel
theorem dX2_gap_33 : decode cX2_gap 33 = .ok (.iload_n 1, 1) := by decide +kernel
theorem dX2_gap_34 : decode cX2_gap 34 = .ok (.invokevirtual 114, 3) := by decide +kernel
theorem dX2_gap_37 : decode cX2_gap 37 = .ok (.aload_n 0, 1) := by decide +kernel
theorem dX2_gap_38 : decode cX2_gap 38 = .ok (.getfield 10, 3) := by decide +kernel
theorem dX2_gap_41 : decode cX2_gap 41 = .ok (.iload_n 1, 1) := by decide +kernel
theorem dX2_gap_42 : decode cX2_gap 42 = .ok (.aload_n 0, 1) := by decide +kernel
theorem dX2_gap_43 : decode cX2_gap 43 = .ok (.getfield 19, 3) := by decide +kernel
theorem dX2_gap_46 : decode cX2_gap 46 = .ok (.iload_n 2, 1) := by decide +kernel
theorem dX2_gap_47 : decode cX2_gap 47 = .ok (.invokevirtual 92, 3) := by decide +kernel
theorem dX2_gap_50 : decode cX2_gap 50 = .ok (.invokevirtual 77, 3) := by decide +kernel
theorem dX2_gap_53 : decode cX2_gap 53 = .ok (.aload_n 0, 1) := by decide +kernel
theorem dX2_gap_54 : decode cX2_gap 54 = .ok (.iload_n 2, 1) := by decide +kernel
theorem dX2_gap_55 : decode cX2_gap 55 = .ok (.invokevirtual 117, 3) := by decide +kernel
theorem dX2_gap_58 : decode cX2_gap 58 = .ok (.isub, 1) := by decide +kernel
theorem dX2_gap_59 : decode cX2_gap 59 = .ok (.isub, 1) := by decide +kernel
theorem dX2_gap_60 : decode cX2_gap 60 = .ok (.ireturn, 1) := by decide +kernel
set_option maxRecDepth 20000 in
theorem ggX2_chain_X0_size : GoodIn wsX2_chain wsX0_size := goodIn_r _ [11, 12, 51, 52] rfl (by decide +kernel)
set_option maxRecDepth 20000 in
theorem gX2_chain_X0_size : GoodIn wsX2_chain (wsV RX2 46 RX0 yX0_size wsX0_size) := goodIn_app (goodIn_of _ (by decide +kernel)) ggX2_chain_X0_size
set_option maxRecDepth 20000 in
theorem ggX2_chain_X2_longestChainFrom : GoodIn wsX2_chain wsX2_longestChainFrom := goodIn_r _ [17, 1, 2, 3, 4, 5, 6, 7, 8, 9, 10, 11, 12, 18, 19, 20, 16, 21, 22, 23, 24, 25, 26, 27, 28, 29, 30, 31, 32, 33, 34, 35, 36, 37, 38, 39, 40, 41, 42, 43, 44, 45, 46, 47, 48, 49, 50, 51, 52, 53, 54, 55] rfl (by decide +kernel)
set_option maxRecDepth 20000 in
theorem gX2_chain_X2_longestChainFrom : GoodIn wsX2_chain (wsV RX2 120 RX2 yX2_longestChainFrom wsX2_longestChainFrom) := goodIn_app (goodIn_of _ (by decide +kernel)) ggX2_chain_X2_longestChainFrom
theorem dX2_chain_0 : decode cX2_chain 0 = .ok (.aload_n 0, 1) := by decide +kernel
theorem dX2_chain_1 : decode cX2_chain 1 = .ok (.getfield 10, 3) := by decide +kernel
theorem dX2_chain_4 : decode cX2_chain 4 = .ok (.invokevirtual 46, 3) := by decide +kernel
theorem dX2_chain_7 : decode cX2_chain 7 = .ok (.istore_n 1, 1) := by decide +kernel
theorem dX2_chain_8 : decode cX2_chain 8 = .ok (.iconst 0, 1) := by decide +kernel
theorem dX2_chain_9 : decode cX2_chain 9 = .ok (.istore_n 2, 1) := by decide +kernel
theorem dX2_chain_10 : decode cX2_chain 10 = .ok (.iload_n 2, 1) := by decide +kernel
theorem dX2_chain_11 : decode cX2_chain 11 = .ok (.iload_n 1, 1) := by decide +kernel
theorem dX2_chain_12 : decode cX2_chain 12 = .ok (.if_icmp .ge 16, 3) := by decide +kernel
theorem dX2_chain_15 : decode cX2_chain 15 = .ok (.aload_n 0, 1) := by decide +kernel
theorem dX2_chain_16 : decode cX2_chain 16 = .ok (.getfield 33, 3) := by decide +kernel
theorem dX2_chain_19 : decode cX2_chain 19 = .ok (.iload_n 2, 1) := by decide +kernel
theorem dX2_chain_20 : decode cX2_chain 20 = .ok (.iconst 1, 1) := by decide +kernel
theorem dX2_chain_21 : decode cX2_chain 21 = .ok (.iastore, 1) := by decide +kernel
theorem dX2_chain_22 : decode cX2_chain 22 = .ok (.iinc 2 1, 3) := by decide +kernel
theorem dX2_chain_25 : decode cX2_chain 25 = .ok (.goto (-15), 3) := by decide +kernel
theorem dX2_chain_28 : decode cX2_chain 28 = .ok (.iconst 1, 1) := by decide +kernel
theorem dX2_chain_29 : decode cX2_chain 29 = .ok (.istore_n 2, 1) := by decide +kernel
theorem dX2_chain_30 : decode cX2_chain 30 = .ok (.iload_n 2, 1) := by decide +kernel
theorem dX2_chain_31 : decode cX2_chain 31 = .ok (.iload_n 1, 1) := by decide +kernel
theorem dX2_chain_32 : decode cX2_chain 32 = .ok (.if_icmp .ge 33, 3) := by decide +kernel
theorem dX2_chain_35 : decode cX2_chain 35 = .ok (.iconst 0, 1) := by decide +kernel
theorem dX2_chain_36 : decode cX2_chain 36 = .ok (.istore_n 3, 1) := by decide +kernel
theorem dX2_chain_37 : decode cX2_chain 37 = .ok (.iload_n 3, 1) := by decide +kernel
theorem dX2_chain_38 : decode cX2_chain 38 = .ok (.iload_n 1, 1) := by decide +kernel
theorem dX2_chain_39 : decode cX2_chain 39 = .ok (.if_icmp .ge 20, 3) := by decide +kernel
theorem dX2_chain_42 : decode cX2_chain 42 = .ok (.aload_n 0, 1) := by decide +kernel
theorem dX2_chain_43 : decode cX2_chain 43 = .ok (.getfield 33, 3) := by decide +kernel
theorem dX2_chain_46 : decode cX2_chain 46 = .ok (.iload_n 3, 1) := by decide +kernel
theorem dX2_chain_47 : decode cX2_chain 47 = .ok (.aload_n 0, 1) := by decide +kernel
theorem dX2_chain_48 : decode cX2_chain 48 = .ok (.iload_n 3, 1) := by decide +kernel
theorem dX2_chain_49 : decode cX2_chain 49 = .ok (.invokevirtual 120, 3) := by decide +kernel
theorem dX2_chain_52 : decode cX2_chain 52 = .ok (.iastore, 1) := by decide +kernel
theorem dX2_chain_53 : decode cX2_chain 53 = .ok (.iinc 3 1, 3) := by decide +kernel
theorem dX2_chain_56 : decode cX2_chain 56 = .ok (.goto (-19), 3) := by decide +kernel
theorem dX2_chain_59 : decode cX2_chain 59 = .ok (.iinc 2 1, 3) := by decide +kernel
theorem dX2_chain_62 : decode cX2_chain 62 = .ok (.goto (-32), 3) := by decide +kernel
theorem dX2_chain_65 : decode cX2_chain 65 = .ok (.iconst 0, 1) := by decide +kernel
theorem dX2_chain_66 : decode cX2_chain 66 = .ok (.istore_n 2, 1) := by decide +kernel
theorem dX2_chain_67 : decode cX2_chain 67 = .ok (.iconst 0, 1) := by decide +kernel
theorem dX2_chain_68 : decode cX2_chain 68 = .ok (.istore_n 3, 1) := by decide +kernel
theorem dX2_chain_69 : decode cX2_chain 69 = .ok (.iload_n 3, 1) := by decide +kernel
theorem dX2_chain_70 : decode cX2_chain 70 = .ok (.iload_n 1, 1) := by decide +kernel
theorem dX2_chain_71 : decode cX2_chain 71 = .ok (.if_icmp .ge 20, 3) := by decide +kernel
theorem dX2_chain_74 : decode cX2_chain 74 = .ok (.iload_n 2, 1) := by decide +kernel
theorem dX2_chain_75 : decode cX2_chain 75 = .ok (.aload_n 0, 1) := by decide +kernel
theorem dX2_chain_76 : decode cX2_chain 76 = .ok (.getfield 33, 3) := by decide +kernel
theorem dX2_chain_79 : decode cX2_chain 79 = .ok (.iload_n 3, 1) := by decide +kernel
theorem dX2_chain_80 : decode cX2_chain 80 = .ok (.iaload, 1) := by decide +kernel
theorem dX2_chain_81 : decode cX2_chain 81 = .ok (.invokestatic 123, 3) := by decide +kernel
theorem dX2_chain_84 : decode cX2_chain 84 = .ok (.istore_n 2, 1) := by decide +kernel
theorem dX2_chain_85 : decode cX2_chain 85 = .ok (.iinc 3 1, 3) := by decide +kernel
theorem dX2_chain_88 : decode cX2_chain 88 = .ok (.goto (-19), 3) := by decide +kernel
theorem dX2_chain_91 : decode cX2_chain 91 = .ok (.iload_n 2, 1) := by decide +kernel
theorem dX2_chain_92 : decode cX2_chain 92 = .ok (.ireturn, 1) := by decide +kernel
set_option maxRecDepth 20000 in
theorem ggX2_would_X0_has : GoodIn wsX2_would wsX0_has := goodIn_r _ [11, 12, 77, 78] rfl (by decide +kernel)
set_option maxRecDepth 20000 in
theorem gX2_would_X0_has : GoodIn wsX2_would (wsV RX2 63 RX0 yX0_has wsX0_has) := goodIn_app (goodIn_of _ (by decide +kernel)) ggX2_would_X0_has
set_option maxRecDepth 20000 in
theorem ggX2_would_X0_copy : GoodIn wsX2_would wsX0_copy := goodIn_r _ [16, 17, 18, 19, 20, 21, 12, 77, 78] rfl (by decide +kernel)
set_option maxRecDepth 20000 in
theorem gX2_would_X0_copy : GoodIn wsX2_would (wsV RX2 128 RX0 yX0_copy wsX0_copy) := goodIn_app (goodIn_of _ (by decide +kernel)) ggX2_would_X0_copy
set_option maxRecDepth 20000 in
theorem ggX2_would_X2_roomTried : GoodIn wsX2_would wsX2_roomTried := goodIn_r _ [26, 6, 27, 28, 29, 30, 10, 31, 17, 32, 8, 9, 11, 12, 33, 34, 35, 36, 37, 38, 39, 40, 41, 42, 43, 44, 45, 46, 47, 48, 49, 50, 51, 52, 53, 54, 55, 56, 57, 58, 59, 60, 61, 62, 63, 64, 65, 66, 67, 68, 69, 70, 71, 72, 73, 74, 75, 76, 77, 78, 79, 80, 81] rfl (by decide +kernel)
set_option maxRecDepth 20000 in
theorem gX2_would_X2_roomTried : GoodIn wsX2_would (wsV RX2 132 RX2 yX2_roomTried wsX2_roomTried) := goodIn_app (goodIn_of _ (by decide +kernel)) ggX2_would_X2_roomTried
theorem dX2_would_0 : decode cX2_would 0 = .ok (.aload_n 0, 1) := by decide +kernel
theorem dX2_would_1 : decode cX2_would 1 = .ok (.getfield 10, 3) := by decide +kernel
theorem dX2_would_4 : decode cX2_would 4 = .ok (.iload_n 1, 1) := by decide +kernel
theorem dX2_would_5 : decode cX2_would 5 = .ok (.invokevirtual 63, 3) := by decide +kernel
theorem dX2_would_8 : decode cX2_would 8 = .ok (.ifCond .eq 14, 3) := by decide +kernel
theorem dX2_would_11 : decode cX2_would 11 = .ok (.aload_n 0, 1) := by decide +kernel
theorem dX2_would_12 : decode cX2_would 12 = .ok (.getfield 10, 3) := by decide +kernel
theorem dX2_would_15 : decode cX2_would 15 = .ok (.iload_n 2, 1) := by decide +kernel
theorem dX2_would_16 : decode cX2_would 16 = .ok (.invokevirtual 63, 3) := by decide +kernel
theorem dX2_would_19 : decode cX2_would 19 = .ok (.ifCond .ne 13, 3) := by decide +kernel
theorem dX2_would_22 : decode cX2_would 22 = .ok (.new 67, 3) := by decide +kernel
theorem dX2_would_25 : decode cX2_would 25 = .ok (.dup, 1) := by decide +kernel
theorem dX2_would_26 : decode cX2_would 26 = .ok (.ldc 69, 2) := by decide +kernel
theorem dX2_would_28 : decode cX2_would 28 = .ok (.invokespecial 71, 3) := by decide +kernel
theorem dX2_would_31 : decode cX2_would 31 = .ok (.athrow, 1) := by decide +kernel
theorem dX2_would_32 : decode cX2_would 32 = .ok (.iload_n 3, 1) := by decide +kernel
theorem dX2_would_33 : decode cX2_would 33 = .ok (.ifCond .lt 10, 3) := by decide +kernel
theorem dX2_would_36 : decode cX2_would 36 = .ok (.iload_n 3, 1) := by decide +kernel
theorem dX2_would_37 : decode cX2_would 37 = .ok (.sipush 999, 3) := by decide +kernel
theorem dX2_would_40 : decode cX2_would 40 = .ok (.if_icmp .le 13, 3) := by decide +kernel
theorem dX2_would_43 : decode cX2_would 43 = .ok (.new 72, 3) := by decide +kernel
theorem dX2_would_46 : decode cX2_would 46 = .ok (.dup, 1) := by decide +kernel
theorem dX2_would_47 : decode cX2_would 47 = .ok (.ldc 74, 2) := by decide +kernel
theorem dX2_would_49 : decode cX2_would 49 = .ok (.invokespecial 76, 3) := by decide +kernel
theorem dX2_would_52 : decode cX2_would 52 = .ok (.athrow, 1) := by decide +kernel
theorem dX2_would_53 : decode cX2_would 53 = .ok (.aload_n 0, 1) := by decide +kernel
theorem dX2_would_54 : decode cX2_would 54 = .ok (.getfield 23, 3) := by decide +kernel
theorem dX2_would_57 : decode cX2_would 57 = .ok (.aload_n 0, 1) := by decide +kernel
theorem dX2_would_58 : decode cX2_would 58 = .ok (.getfield 10, 3) := by decide +kernel
theorem dX2_would_61 : decode cX2_would 61 = .ok (.invokevirtual 128, 3) := by decide +kernel
theorem dX2_would_64 : decode cX2_would 64 = .ok (.aload_n 0, 1) := by decide +kernel
theorem dX2_would_65 : decode cX2_would 65 = .ok (.iload_n 1, 1) := by decide +kernel
theorem dX2_would_66 : decode cX2_would 66 = .ok (.iload_n 2, 1) := by decide +kernel
theorem dX2_would_67 : decode cX2_would 67 = .ok (.iload_n 3, 1) := by decide +kernel
theorem dX2_would_68 : decode cX2_would 68 = .ok (.invokevirtual 132, 3) := by decide +kernel
theorem dX2_would_71 : decode cX2_would 71 = .ok (.ireturn, 1) := by decide +kernel
set_option maxRecDepth 20000 in
theorem ggX2_needs_X0_has : GoodIn wsX2_needs wsX0_has := goodIn_r _ [9, 10, 75, 76] rfl (by decide +kernel)
set_option maxRecDepth 20000 in
theorem gX2_needs_X0_has : GoodIn wsX2_needs (wsV RX2 63 RX0 yX0_has wsX0_has) := goodIn_app (goodIn_of _ (by decide +kernel)) ggX2_needs_X0_has
set_option maxRecDepth 20000 in
theorem ggX2_needs_X0_copy : GoodIn wsX2_needs wsX0_copy := goodIn_r _ [14, 15, 16, 17, 18, 19, 10, 75, 76] rfl (by decide +kernel)
set_option maxRecDepth 20000 in
theorem gX2_needs_X0_copy : GoodIn wsX2_needs (wsV RX2 128 RX0 yX0_copy wsX0_copy) := goodIn_app (goodIn_of _ (by decide +kernel)) ggX2_needs_X0_copy
set_option maxRecDepth 20000 in
theorem ggX2_needs_X2_roomTried : GoodIn wsX2_needs wsX2_roomTried := goodIn_r _ [24, 4, 25, 26, 27, 28, 8, 29, 15, 30, 6, 7, 9, 10, 31, 32, 33, 34, 35, 36, 37, 38, 39, 40, 41, 42, 43, 44, 45, 46, 47, 48, 49, 50, 51, 52, 53, 54, 55, 56, 57, 58, 59, 60, 61, 62, 63, 64, 65, 66, 67, 68, 69, 70, 71, 72, 73, 74, 75, 76, 77, 78, 79] rfl (by decide +kernel)
set_option maxRecDepth 20000 in
theorem gX2_needs_X2_roomTried : GoodIn wsX2_needs (wsV RX2 132 RX2 yX2_roomTried wsX2_roomTried) := goodIn_app (goodIn_of _ (by decide +kernel)) ggX2_needs_X2_roomTried
theorem dX2_needs_0 : decode cX2_needs 0 = .ok (.aload_n 0, 1) := by decide +kernel
theorem dX2_needs_1 : decode cX2_needs 1 = .ok (.getfield 10, 3) := by decide +kernel
theorem dX2_needs_4 : decode cX2_needs 4 = .ok (.iload_n 1, 1) := by decide +kernel
theorem dX2_needs_5 : decode cX2_needs 5 = .ok (.invokevirtual 63, 3) := by decide +kernel
theorem dX2_needs_8 : decode cX2_needs 8 = .ok (.ifCond .eq 14, 3) := by decide +kernel
theorem dX2_needs_11 : decode cX2_needs 11 = .ok (.aload_n 0, 1) := by decide +kernel
theorem dX2_needs_12 : decode cX2_needs 12 = .ok (.getfield 10, 3) := by decide +kernel
theorem dX2_needs_15 : decode cX2_needs 15 = .ok (.iload_n 2, 1) := by decide +kernel
theorem dX2_needs_16 : decode cX2_needs 16 = .ok (.invokevirtual 63, 3) := by decide +kernel
theorem dX2_needs_19 : decode cX2_needs 19 = .ok (.ifCond .ne 13, 3) := by decide +kernel
theorem dX2_needs_22 : decode cX2_needs 22 = .ok (.new 67, 3) := by decide +kernel
theorem dX2_needs_25 : decode cX2_needs 25 = .ok (.dup, 1) := by decide +kernel
theorem dX2_needs_26 : decode cX2_needs 26 = .ok (.ldc 69, 2) := by decide +kernel
theorem dX2_needs_28 : decode cX2_needs 28 = .ok (.invokespecial 71, 3) := by decide +kernel
theorem dX2_needs_31 : decode cX2_needs 31 = .ok (.athrow, 1) := by decide +kernel
theorem dX2_needs_32 : decode cX2_needs 32 = .ok (.aload_n 0, 1) := by decide +kernel
theorem dX2_needs_33 : decode cX2_needs 33 = .ok (.getfield 23, 3) := by decide +kernel
theorem dX2_needs_36 : decode cX2_needs 36 = .ok (.aload_n 0, 1) := by decide +kernel
theorem dX2_needs_37 : decode cX2_needs 37 = .ok (.getfield 10, 3) := by decide +kernel
theorem dX2_needs_40 : decode cX2_needs 40 = .ok (.invokevirtual 128, 3) := by decide +kernel
theorem dX2_needs_43 : decode cX2_needs 43 = .ok (.iconst (-1), 1) := by decide +kernel
theorem dX2_needs_44 : decode cX2_needs 44 = .ok (.istore_n 3, 1) := by decide +kernel
theorem dX2_needs_45 : decode cX2_needs 45 = .ok (.sipush 512, 3) := by decide +kernel
theorem dX2_needs_48 : decode cX2_needs 48 = .ok (.istore 4, 2) := by decide +kernel
theorem dX2_needs_50 : decode cX2_needs 50 = .ok (.iload 4, 2) := by decide +kernel
theorem dX2_needs_52 : decode cX2_needs 52 = .ok (.ifCond .le 41, 3) := by decide +kernel
theorem dX2_needs_55 : decode cX2_needs 55 = .ok (.iload_n 3, 1) := by decide +kernel
theorem dX2_needs_56 : decode cX2_needs 56 = .ok (.iload 4, 2) := by decide +kernel
theorem dX2_needs_58 : decode cX2_needs 58 = .ok (.iadd, 1) := by decide +kernel
theorem dX2_needs_59 : decode cX2_needs 59 = .ok (.istore 5, 2) := by decide +kernel
theorem dX2_needs_61 : decode cX2_needs 61 = .ok (.iload 5, 2) := by decide +kernel
theorem dX2_needs_63 : decode cX2_needs 63 = .ok (.sipush 999, 3) := by decide +kernel
theorem dX2_needs_66 : decode cX2_needs 66 = .ok (.if_icmp .gt 18, 3) := by decide +kernel
theorem dX2_needs_69 : decode cX2_needs 69 = .ok (.aload_n 0, 1) := by decide +kernel
theorem dX2_needs_70 : decode cX2_needs 70 = .ok (.iload_n 1, 1) := by decide +kernel
theorem dX2_needs_71 : decode cX2_needs 71 = .ok (.iload_n 2, 1) := by decide +kernel
theorem dX2_needs_72 : decode cX2_needs 72 = .ok (.iload 5, 2) := by decide +kernel
theorem dX2_needs_74 : decode cX2_needs 74 = .ok (.invokevirtual 132, 3) := by decide +kernel
theorem dX2_needs_77 : decode cX2_needs 77 = .ok (.iload_n 2, 1) := by decide +kernel
theorem dX2_needs_78 : decode cX2_needs 78 = .ok (.if_icmp .eq 6, 3) := by decide +kernel
theorem dX2_needs_81 : decode cX2_needs 81 = .ok (.iload 5, 2) := by decide +kernel
theorem dX2_needs_83 : decode cX2_needs 83 = .ok (.istore_n 3, 1) := by decide +kernel
theorem dX2_needs_84 : decode cX2_needs 84 = .ok (.iload 4, 2) := by decide +kernel
theorem dX2_needs_86 : decode cX2_needs 86 = .ok (.iconst 2, 1) := by decide +kernel
theorem dX2_needs_87 : decode cX2_needs 87 = .ok (.idiv, 1) := by decide +kernel
theorem dX2_needs_88 : decode cX2_needs 88 = .ok (.istore 4, 2) := by decide +kernel
theorem dX2_needs_90 : decode cX2_needs 90 = .ok (.goto (-40), 3) := by decide +kernel
theorem dX2_needs_93 : decode cX2_needs 93 = .ok (.iload_n 3, 1) := by decide +kernel
theorem dX2_needs_94 : decode cX2_needs 94 = .ok (.sipush 999, 3) := by decide +kernel
theorem dX2_needs_97 : decode cX2_needs 97 = .ok (.if_icmp .lt 7, 3) := by decide +kernel
theorem dX2_needs_100 : decode cX2_needs 100 = .ok (.iconst (-1), 1) := by decide +kernel
theorem dX2_needs_101 : decode cX2_needs 101 = .ok (.goto 6, 3) := by decide +kernel
theorem dX2_needs_104 : decode cX2_needs 104 = .ok (.iload_n 3, 1) := by decide +kernel
theorem dX2_needs_105 : decode cX2_needs 105 = .ok (.iconst 1, 1) := by decide +kernel
theorem dX2_needs_106 : decode cX2_needs 106 = .ok (.iadd, 1) := by decide +kernel
theorem dX2_needs_107 : decode cX2_needs 107 = .ok (.ireturn, 1) := by decide +kernel
set_option maxRecDepth 20000 in
theorem ggX2_without_X0_has : GoodIn wsX2_without wsX0_has := goodIn_r _ [10, 11, 71, 72] rfl (by decide +kernel)
set_option maxRecDepth 20000 in
theorem gX2_without_X0_has : GoodIn wsX2_without (wsV RX2 63 RX0 yX0_has wsX0_has) := goodIn_app (goodIn_of _ (by decide +kernel)) ggX2_without_X0_has
set_option maxRecDepth 20000 in
theorem ggX2_without_X0_copy : GoodIn wsX2_without wsX0_copy := goodIn_r _ [15, 16, 17, 18, 19, 20, 11, 71, 72] rfl (by decide +kernel)
set_option maxRecDepth 20000 in
theorem gX2_without_X0_copy : GoodIn wsX2_without (wsV RX2 128 RX0 yX0_copy wsX0_copy) := goodIn_app (goodIn_of _ (by decide +kernel)) ggX2_without_X0_copy
set_option maxRecDepth 20000 in
theorem ggX2_without_X0_size : GoodIn wsX2_without wsX0_size := goodIn_r _ [24, 11, 71, 72] rfl (by decide +kernel)
set_option maxRecDepth 20000 in
theorem gX2_without_X0_size : GoodIn wsX2_without (wsV RX2 46 RX0 yX0_size wsX0_size) := goodIn_app (goodIn_of _ (by decide +kernel)) ggX2_without_X0_size
set_option maxRecDepth 20000 in
theorem ggX2_without_X0_set : GoodIn wsX2_without wsX0_set := goodIn_r _ [28, 16, 29, 7, 8, 9, 10, 11, 71, 72] rfl (by decide +kernel)
set_option maxRecDepth 20000 in
theorem gX2_without_X0_set : GoodIn wsX2_without (wsV RX2 81 RX0 yX0_set wsX0_set) := goodIn_app (goodIn_of _ (by decide +kernel)) ggX2_without_X0_set
set_option maxRecDepth 20000 in
theorem ggX2_without_X1_choose : GoodIn wsX2_without wsX1_choose := goodIn_r _ [34, 35, 36, 37, 38, 22, 23, 9, 24, 11, 39, 40, 41, 33, 42, 43, 44, 45, 46, 47, 48, 49, 50, 51, 52, 53, 16, 29, 7, 8, 10, 54, 55, 56, 57, 73, 74, 75, 71, 72] rfl (by decide +kernel)
set_option maxRecDepth 20000 in
theorem gX2_without_X1_choose : GoodIn wsX2_without (wsV RX2 136 RX1 yX1_choose wsX1_choose) := goodIn_app (goodIn_of _ (by decide +kernel)) ggX2_without_X1_choose
set_option maxRecDepth 20000 in
theorem ggX2_without_X1_worth : GoodIn wsX2_without wsX1_worth := goodIn_r _ [61, 35, 73, 74, 75] rfl (by decide +kernel)
set_option maxRecDepth 20000 in
theorem gX2_without_X1_worth : GoodIn wsX2_without (wsV RX2 139 RX1 yX1_worth wsX1_worth) := goodIn_app (goodIn_of _ (by decide +kernel)) ggX2_without_X1_worth
theorem dX2_without_0 : decode cX2_without 0 = .ok (.aload_n 0, 1) := by decide +kernel
theorem dX2_without_1 : decode cX2_without 1 = .ok (.getfield 10, 3) := by decide +kernel
theorem dX2_without_4 : decode cX2_without 4 = .ok (.iload_n 1, 1) := by decide +kernel
theorem dX2_without_5 : decode cX2_without 5 = .ok (.invokevirtual 63, 3) := by decide +kernel
theorem dX2_without_8 : decode cX2_without 8 = .ok (.ifCond .ne 13, 3) := by decide +kernel
theorem dX2_without_11 : decode cX2_without 11 = .ok (.new 67, 3) := by decide +kernel
theorem dX2_without_14 : decode cX2_without 14 = .ok (.dup, 1) := by decide +kernel
theorem dX2_without_15 : decode cX2_without 15 = .ok (.ldc 90, 2) := by decide +kernel
theorem dX2_without_17 : decode cX2_without 17 = .ok (.invokespecial 71, 3) := by decide +kernel
theorem dX2_without_20 : decode cX2_without 20 = .ok (.athrow, 1) := by decide +kernel
theorem dX2_without_21 : decode cX2_without 21 = .ok (.aload_n 0, 1) := by decide +kernel
theorem dX2_without_22 : decode cX2_without 22 = .ok (.getfield 23, 3) := by decide +kernel
theorem dX2_without_25 : decode cX2_without 25 = .ok (.aload_n 0, 1) := by decide +kernel
theorem dX2_without_26 : decode cX2_without 26 = .ok (.getfield 10, 3) := by decide +kernel
theorem dX2_without_29 : decode cX2_without 29 = .ok (.invokevirtual 128, 3) := by decide +kernel
theorem dX2_without_32 : decode cX2_without 32 = .ok (.iconst 0, 1) := by decide +kernel
theorem dX2_without_33 : decode cX2_without 33 = .ok (.istore_n 2, 1) := by decide +kernel
theorem dX2_without_34 : decode cX2_without 34 = .ok (.iload_n 2, 1) := by decide +kernel
theorem dX2_without_35 : decode cX2_without 35 = .ok (.aload_n 0, 1) := by decide +kernel
theorem dX2_without_36 : decode cX2_without 36 = .ok (.getfield 23, 3) := by decide +kernel
theorem dX2_without_39 : decode cX2_without 39 = .ok (.invokevirtual 46, 3) := by decide +kernel
theorem dX2_without_42 : decode cX2_without 42 = .ok (.if_icmp .ge 19, 3) := by decide +kernel
theorem dX2_without_45 : decode cX2_without 45 = .ok (.aload_n 0, 1) := by decide +kernel
theorem dX2_without_46 : decode cX2_without 46 = .ok (.getfield 23, 3) := by decide +kernel
theorem dX2_without_49 : decode cX2_without 49 = .ok (.iload_n 1, 1) := by decide +kernel
theorem dX2_without_50 : decode cX2_without 50 = .ok (.iload_n 2, 1) := by decide +kernel
theorem dX2_without_51 : decode cX2_without 51 = .ok (.iconst 0, 1) := by decide +kernel
theorem dX2_without_52 : decode cX2_without 52 = .ok (.invokevirtual 81, 3) := by decide +kernel
theorem dX2_without_55 : decode cX2_without 55 = .ok (.iinc 2 1, 3) := by decide +kernel
theorem dX2_without_58 : decode cX2_without 58 = .ok (.goto (-24), 3) := by decide +kernel
theorem dX2_without_61 : decode cX2_without 61 = .ok (.aload_n 0, 1) := by decide +kernel
theorem dX2_without_62 : decode cX2_without 62 = .ok (.getfield 26, 3) := by decide +kernel
theorem dX2_without_65 : decode cX2_without 65 = .ok (.aload_n 0, 1) := by decide +kernel
theorem dX2_without_66 : decode cX2_without 66 = .ok (.getfield 23, 3) := by decide +kernel
theorem dX2_without_69 : decode cX2_without 69 = .ok (.invokevirtual 136, 3) := by decide +kernel
theorem dX2_without_72 : decode cX2_without 72 = .ok (.aload_n 0, 1) := by decide +kernel
theorem dX2_without_73 : decode cX2_without 73 = .ok (.getfield 26, 3) := by decide +kernel
theorem dX2_without_76 : decode cX2_without 76 = .ok (.invokevirtual 139, 3) := by decide +kernel
theorem dX2_without_79 : decode cX2_without 79 = .ok (.ireturn, 1) := by decide +kernel
set_option maxRecDepth 20000 in
theorem ggX2_mean_X0_size : GoodIn wsX2_mean wsX0_size := goodIn_r _ [6, 7, 57, 58] rfl (by decide +kernel)
set_option maxRecDepth 20000 in
theorem gX2_mean_X0_size : GoodIn wsX2_mean (wsV RX2 46 RX0 yX0_size wsX0_size) := goodIn_app (goodIn_of _ (by decide +kernel)) ggX2_mean_X0_size
set_option maxRecDepth 20000 in
theorem ggX2_mean_X2_allPays : GoodIn wsX2_mean wsX2_allPays := goodIn_r _ [12, 1, 2, 3, 4, 5, 6, 7, 13, 14, 15, 11, 16, 17, 18, 19, 20, 21, 22, 23, 24, 25, 26, 27, 28, 29, 30, 31, 32, 33, 34, 35, 36, 37, 38, 39, 40, 41, 42, 43, 44, 45, 46, 47, 48, 49, 50, 51, 52, 53, 54, 55, 56, 57, 58, 59, 60, 61] rfl (by decide +kernel)
set_option maxRecDepth 20000 in
theorem gX2_mean_X2_allPays : GoodIn wsX2_mean (wsV RX2 142 RX2 yX2_allPays wsX2_allPays) := goodIn_app (goodIn_of _ (by decide +kernel)) ggX2_mean_X2_allPays
theorem dX2_mean_0 : decode cX2_mean 0 = .ok (.aload_n 0, 1) := by decide +kernel
theorem dX2_mean_1 : decode cX2_mean 1 = .ok (.getfield 10, 3) := by decide +kernel
theorem dX2_mean_4 : decode cX2_mean 4 = .ok (.invokevirtual 46, 3) := by decide +kernel
theorem dX2_mean_7 : decode cX2_mean 7 = .ok (.istore_n 1, 1) := by decide +kernel
theorem dX2_mean_8 : decode cX2_mean 8 = .ok (.iload_n 1, 1) := by decide +kernel
theorem dX2_mean_9 : decode cX2_mean 9 = .ok (.ifCond .ne 5, 3) := by decide +kernel
theorem dX2_mean_12 : decode cX2_mean 12 = .ok (.dconst 0, 1) := by decide +kernel
theorem dX2_mean_13 : decode cX2_mean 13 = .ok (.dreturn, 1) := by decide +kernel
theorem dX2_mean_14 : decode cX2_mean 14 = .ok (.aload_n 0, 1) := by decide +kernel
theorem dX2_mean_15 : decode cX2_mean 15 = .ok (.invokevirtual 142, 3) := by decide +kernel
theorem dX2_mean_18 : decode cX2_mean 18 = .ok (.i2d, 1) := by decide +kernel
theorem dX2_mean_19 : decode cX2_mean 19 = .ok (.iload_n 1, 1) := by decide +kernel
theorem dX2_mean_20 : decode cX2_mean 20 = .ok (.i2d, 1) := by decide +kernel
theorem dX2_mean_21 : decode cX2_mean 21 = .ok (.ddiv, 1) := by decide +kernel
theorem dX2_mean_22 : decode cX2_mean 22 = .ok (.dreturn, 1) := by decide +kernel
set_option maxRecDepth 20000 in
theorem ggX2_digest_X2_total : GoodIn wsX2_digest wsX2_total := goodIn_r _ [8, 3, 9, 10, 11, 12, 13, 14, 15, 16, 17, 18, 19, 20, 21, 22, 23, 24, 25, 26, 27, 7, 28, 29, 30, 31, 32, 33, 34, 35, 36, 37, 38, 39, 40, 41, 42, 43, 44, 45, 46, 47, 48, 49, 50, 51, 52, 53, 54, 55, 56, 57, 58, 59, 60, 61, 62, 63, 64, 65, 66, 67, 68, 69, 82, 83, 84, 85, 86, 87, 88, 89, 90, 91, 92, 93, 94, 95] rfl (by decide +kernel)
set_option maxRecDepth 20000 in
theorem gX2_digest_X2_total : GoodIn wsX2_digest (wsV RX2 107 RX2 yX2_total wsX2_total) := goodIn_app (goodIn_of _ (by decide +kernel)) ggX2_digest_X2_total
set_option maxRecDepth 20000 in
theorem ggX2_digest_X0_size : GoodIn wsX2_digest wsX0_size := goodIn_r _ [17, 18, 91, 92] rfl (by decide +kernel)
set_option maxRecDepth 20000 in
theorem gX2_digest_X0_size : GoodIn wsX2_digest (wsV RX2 46 RX0 yX0_size wsX0_size) := goodIn_app (goodIn_of _ (by decide +kernel)) ggX2_digest_X0_size
set_option maxRecDepth 20000 in
theorem ggX2_digest_X2_fact : GoodIn wsX2_digest wsX2_fact := goodIn_r _ [73, 10, 47, 48, 49, 22, 50, 51, 43, 44, 45, 7, 46, 3, 52, 53, 54, 16, 55, 56, 57, 58, 59, 60, 18, 61, 62, 63, 64, 11, 65, 66, 67, 68, 29, 69, 39, 40, 41, 42, 74, 75, 76, 77, 13, 14, 15, 17, 78, 79, 80, 81, 82, 83, 84, 85, 86, 87, 88, 89, 90, 93, 94, 95, 91, 92] rfl (by decide +kernel)
set_option maxRecDepth 20000 in
theorem gX2_digest_X2_fact : GoodIn wsX2_digest (wsV RX2 102 RX2 yX2_fact wsX2_fact) := goodIn_app (goodIn_of _ (by decide +kernel)) ggX2_digest_X2_fact
set_option maxRecDepth 20000 in
theorem ggX2_digest_X0_of : GoodIn wsX2_digest wsX0_of := goodIn_r _ [55, 56, 57, 58, 59, 16, 60, 18, 91, 92] rfl (by decide +kernel)
set_option maxRecDepth 20000 in
theorem gX2_digest_X0_of : GoodIn wsX2_digest (wsV RX2 77 RX0 yX0_of wsX0_of) := goodIn_app (goodIn_of _ (by decide +kernel)) ggX2_digest_X0_of
theorem dX2_digest_0 : decode cX2_digest 0 = .ok (.ldc2_w 145, 3) := by decide +kernel
theorem dX2_digest_3 : decode cX2_digest 3 = .ok (.lstore_n 1, 1) := by decide +kernel
theorem dX2_digest_4 : decode cX2_digest 4 = .ok (.iconst 0, 1) := by decide +kernel
theorem dX2_digest_5 : decode cX2_digest 5 = .ok (.istore_n 3, 1) := by decide +kernel
theorem dX2_digest_6 : decode cX2_digest 6 = .ok (.iload_n 3, 1) := by decide +kernel
theorem dX2_digest_7 : decode cX2_digest 7 = .ok (.bipush 7, 2) := by decide +kernel
theorem dX2_digest_9 : decode cX2_digest 9 = .ok (.if_icmp .ge 22, 3) := by decide +kernel
theorem dX2_digest_12 : decode cX2_digest 12 = .ok (.lload_n 1, 1) := by decide +kernel
theorem dX2_digest_13 : decode cX2_digest 13 = .ok (.ldc2_w 147, 3) := by decide +kernel
theorem dX2_digest_16 : decode cX2_digest 16 = .ok (.lmul, 1) := by decide +kernel
theorem dX2_digest_17 : decode cX2_digest 17 = .ok (.aload_n 0, 1) := by decide +kernel
theorem dX2_digest_18 : decode cX2_digest 18 = .ok (.iload_n 3, 1) := by decide +kernel
theorem dX2_digest_19 : decode cX2_digest 19 = .ok (.invokevirtual 107, 3) := by decide +kernel
theorem dX2_digest_22 : decode cX2_digest 22 = .ok (.i2l, 1) := by decide +kernel
theorem dX2_digest_23 : decode cX2_digest 23 = .ok (.ladd, 1) := by decide +kernel
theorem dX2_digest_24 : decode cX2_digest 24 = .ok (.lstore_n 1, 1) := by decide +kernel
theorem dX2_digest_25 : decode cX2_digest 25 = .ok (.iinc 3 1, 3) := by decide +kernel
theorem dX2_digest_28 : decode cX2_digest 28 = .ok (.goto (-22), 3) := by decide +kernel
theorem dX2_digest_31 : decode cX2_digest 31 = .ok (.iconst 0, 1) := by decide +kernel
theorem dX2_digest_32 : decode cX2_digest 32 = .ok (.istore_n 3, 1) := by decide +kernel
theorem dX2_digest_33 : decode cX2_digest 33 = .ok (.iload_n 3, 1) := by decide +kernel
theorem dX2_digest_34 : decode cX2_digest 34 = .ok (.aload_n 0, 1) := by decide +kernel
theorem dX2_digest_35 : decode cX2_digest 35 = .ok (.getfield 10, 3) := by decide +kernel
theorem dX2_digest_38 : decode cX2_digest 38 = .ok (.invokevirtual 46, 3) := by decide +kernel
theorem dX2_digest_41 : decode cX2_digest 41 = .ok (.if_icmp .ge 79, 3) := by decide +kernel
theorem dX2_digest_44 : decode cX2_digest 44 = .ok (.iconst 0, 1) := by decide +kernel
theorem dX2_digest_45 : decode cX2_digest 45 = .ok (.istore 4, 2) := by decide +kernel
theorem dX2_digest_47 : decode cX2_digest 47 = .ok (.iload 4, 2) := by decide +kernel
theorem dX2_digest_49 : decode cX2_digest 49 = .ok (.bipush 6, 2) := by decide +kernel
theorem dX2_digest_51 : decode cX2_digest 51 = .ok (.if_icmp .ge 24, 3) := by decide +kernel
theorem dX2_digest_54 : decode cX2_digest 54 = .ok (.lload_n 1, 1) := by decide +kernel
theorem dX2_digest_55 : decode cX2_digest 55 = .ok (.ldc2_w 147, 3) := by decide +kernel
theorem dX2_digest_58 : decode cX2_digest 58 = .ok (.lmul, 1) := by decide +kernel
theorem dX2_digest_59 : decode cX2_digest 59 = .ok (.aload_n 0, 1) := by decide +kernel
theorem dX2_digest_60 : decode cX2_digest 60 = .ok (.iload_n 3, 1) := by decide +kernel
theorem dX2_digest_61 : decode cX2_digest 61 = .ok (.iload 4, 2) := by decide +kernel
theorem dX2_digest_63 : decode cX2_digest 63 = .ok (.invokevirtual 102, 3) := by decide +kernel
theorem dX2_digest_66 : decode cX2_digest 66 = .ok (.i2l, 1) := by decide +kernel
theorem dX2_digest_67 : decode cX2_digest 67 = .ok (.ladd, 1) := by decide +kernel
theorem dX2_digest_68 : decode cX2_digest 68 = .ok (.lstore_n 1, 1) := by decide +kernel
theorem dX2_digest_69 : decode cX2_digest 69 = .ok (.iinc 4 1, 3) := by decide +kernel
theorem dX2_digest_72 : decode cX2_digest 72 = .ok (.goto (-25), 3) := by decide +kernel
theorem dX2_digest_75 : decode cX2_digest 75 = .ok (.iconst 0, 1) := by decide +kernel
theorem dX2_digest_76 : decode cX2_digest 76 = .ok (.istore 4, 2) := by decide +kernel
theorem dX2_digest_78 : decode cX2_digest 78 = .ok (.iload 4, 2) := by decide +kernel
theorem dX2_digest_80 : decode cX2_digest 80 = .ok (.aload_n 0, 1) := by decide +kernel
theorem dX2_digest_81 : decode cX2_digest 81 = .ok (.getfield 10, 3) := by decide +kernel
theorem dX2_digest_84 : decode cX2_digest 84 = .ok (.invokevirtual 46, 3) := by decide +kernel
theorem dX2_digest_87 : decode cX2_digest 87 = .ok (.if_icmp .ge 27, 3) := by decide +kernel
theorem dX2_digest_90 : decode cX2_digest 90 = .ok (.lload_n 1, 1) := by decide +kernel
theorem dX2_digest_91 : decode cX2_digest 91 = .ok (.ldc2_w 147, 3) := by decide +kernel
theorem dX2_digest_94 : decode cX2_digest 94 = .ok (.lmul, 1) := by decide +kernel
theorem dX2_digest_95 : decode cX2_digest 95 = .ok (.aload_n 0, 1) := by decide +kernel
theorem dX2_digest_96 : decode cX2_digest 96 = .ok (.getfield 10, 3) := by decide +kernel
theorem dX2_digest_99 : decode cX2_digest 99 = .ok (.iload_n 3, 1) := by decide +kernel
theorem dX2_digest_100 : decode cX2_digest 100 = .ok (.iload 4, 2) := by decide +kernel
theorem dX2_digest_102 : decode cX2_digest 102 = .ok (.invokevirtual 77, 3) := by decide +kernel
theorem dX2_digest_105 : decode cX2_digest 105 = .ok (.i2l, 1) := by decide +kernel
theorem dX2_digest_106 : decode cX2_digest 106 = .ok (.ladd, 1) := by decide +kernel
theorem dX2_digest_107 : decode cX2_digest 107 = .ok (.lstore_n 1, 1) := by decide +kernel
theorem dX2_digest_108 : decode cX2_digest 108 = .ok (.iinc 4 1, 3) := by decide +kernel
theorem dX2_digest_111 : decode cX2_digest 111 = .ok (.goto (-33), 3) := by decide +kernel
theorem dX2_digest_114 : decode cX2_digest 114 = .ok (.iinc 3 1, 3) := by decide +kernel
theorem dX2_digest_117 : decode cX2_digest 117 = .ok (.goto (-84), 3) := by decide +kernel
theorem dX2_digest_120 : decode cX2_digest 120 = .ok (.lload_n 1, 1) := by decide +kernel
theorem dX2_digest_121 : decode cX2_digest 121 = .ok (.lreturn, 1) := by decide +kernel
set_option maxRecDepth 20000 in
theorem ggX2_fact_X1_roomOf : GoodIn wsX2_fact wsX1_roomOf := goodIn_r _ [6, 7, 61, 62, 63] rfl (by decide +kernel)
set_option maxRecDepth 20000 in
theorem gX2_fact_X1_roomOf : GoodIn wsX2_fact (wsV RX2 92 RX1 yX1_roomOf wsX1_roomOf) := goodIn_app (goodIn_of _ (by decide +kernel)) ggX2_fact_X1_roomOf
set_option maxRecDepth 20000 in
theorem ggX2_fact_X2_ownBidOf : GoodIn wsX2_fact wsX2_ownBidOf := goodIn_r _ [12, 13, 1, 2, 3, 4, 5, 6, 7, 14, 15, 16, 17, 18, 19, 20, 21, 22, 23, 24, 52, 53, 54, 55, 56, 57, 58, 59, 60, 61, 62, 63, 64, 65] rfl (by decide +kernel)
set_option maxRecDepth 20000 in
theorem gX2_fact_X2_ownBidOf : GoodIn wsX2_fact (wsV RX2 149 RX2 yX2_ownBidOf wsX2_ownBidOf) := goodIn_app (goodIn_of _ (by decide +kernel)) ggX2_fact_X2_ownBidOf
set_option maxRecDepth 20000 in
theorem ggX2_fact_X2_rebateOf : GoodIn wsX2_fact wsX2_rebateOf := goodIn_r _ [28, 29, 30, 31, 32, 11, 33, 13, 34, 35, 21, 22, 17, 23, 24, 52, 53, 54, 55, 56, 57, 58, 59, 60, 64, 65] rfl (by decide +kernel)
set_option maxRecDepth 20000 in
theorem gX2_fact_X2_rebateOf : GoodIn wsX2_fact (wsV RX2 114 RX2 yX2_rebateOf wsX2_rebateOf) := goodIn_app (goodIn_of _ (by decide +kernel)) ggX2_fact_X2_rebateOf
set_option maxRecDepth 20000 in
theorem ggX2_fact_X2_payOf : GoodIn wsX2_fact wsX2_payOf := goodIn_r _ [39, 8, 9, 10, 11, 12, 13, 1, 2, 3, 4, 5, 6, 7, 14, 15, 16, 17, 18, 19, 20, 21, 22, 23, 24, 25, 26, 27, 28, 29, 30, 31, 32, 33, 34, 35, 52, 53, 54, 55, 56, 57, 58, 59, 60, 61, 62, 63, 64, 65] rfl (by decide +kernel)
set_option maxRecDepth 20000 in
theorem gX2_fact_X2_payOf : GoodIn wsX2_fact (wsV RX2 117 RX2 yX2_payOf wsX2_payOf) := goodIn_app (goodIn_of _ (by decide +kernel)) ggX2_fact_X2_payOf
set_option maxRecDepth 20000 in
theorem ggX2_fact_X2_firstRebateOf : GoodIn wsX2_fact wsX2_firstRebateOf := goodIn_r _ [33, 13, 34, 35, 21, 22, 17, 23, 24, 52, 53, 54, 55, 56, 57, 58, 59, 60, 64, 65] rfl (by decide +kernel)
set_option maxRecDepth 20000 in
theorem gX2_fact_X2_firstRebateOf : GoodIn wsX2_fact (wsV RX2 152 RX2 yX2_firstRebateOf wsX2_firstRebateOf) := goodIn_app (goodIn_of _ (by decide +kernel)) ggX2_fact_X2_firstRebateOf
set_option maxRecDepth 20000 in
theorem ggX2_fact_X2_enviedBy : GoodIn wsX2_fact wsX2_enviedBy := goodIn_r _ [43, 13, 44, 45, 46, 17, 47, 24, 48, 49, 50, 11, 51, 1, 2, 3, 4, 5, 6, 7, 14, 15, 16, 18, 19, 20, 21, 22, 23, 8, 9, 10, 12, 52, 53, 54, 55, 56, 57, 58, 59, 60, 64, 65, 61, 62, 63] rfl (by decide +kernel)
set_option maxRecDepth 20000 in
theorem gX2_fact_X2_enviedBy : GoodIn wsX2_fact (wsV RX2 155 RX2 yX2_enviedBy wsX2_enviedBy) := goodIn_app (goodIn_of _ (by decide +kernel)) ggX2_fact_X2_enviedBy
theorem dX2_fact_0 : decode cX2_fact 0 = .ok (.iload_n 2, 1) := by decide +kernel
theorem dX2_fact_1 : decode cX2_fact 1 = .ok (.tableswitch 68 0 4 #[35, 44, 50, 56, 62], 35) := by decide +kernel
theorem dX2_fact_36 : decode cX2_fact 36 = .ok (.aload_n 0, 1) := by decide +kernel
theorem dX2_fact_37 : decode cX2_fact 37 = .ok (.getfield 19, 3) := by decide +kernel
theorem dX2_fact_40 : decode cX2_fact 40 = .ok (.iload_n 1, 1) := by decide +kernel
theorem dX2_fact_41 : decode cX2_fact 41 = .ok (.invokevirtual 92, 3) := by decide +kernel
theorem dX2_fact_44 : decode cX2_fact 44 = .ok (.ireturn, 1) := by decide +kernel
theorem dX2_fact_45 : decode cX2_fact 45 = .ok (.aload_n 0, 1) := by decide +kernel
theorem dX2_fact_46 : decode cX2_fact 46 = .ok (.iload_n 1, 1) := by decide +kernel
theorem dX2_fact_47 : decode cX2_fact 47 = .ok (.invokevirtual 149, 3) := by decide +kernel
theorem dX2_fact_50 : decode cX2_fact 50 = .ok (.ireturn, 1) := by decide +kernel
theorem dX2_fact_51 : decode cX2_fact 51 = .ok (.aload_n 0, 1) := by decide +kernel
theorem dX2_fact_52 : decode cX2_fact 52 = .ok (.iload_n 1, 1) := by decide +kernel
theorem dX2_fact_53 : decode cX2_fact 53 = .ok (.invokevirtual 114, 3) := by decide +kernel
theorem dX2_fact_56 : decode cX2_fact 56 = .ok (.ireturn, 1) := by decide +kernel
theorem dX2_fact_57 : decode cX2_fact 57 = .ok (.aload_n 0, 1) := by decide +kernel
theorem dX2_fact_58 : decode cX2_fact 58 = .ok (.iload_n 1, 1) := by decide +kernel
theorem dX2_fact_59 : decode cX2_fact 59 = .ok (.invokevirtual 117, 3) := by decide +kernel
theorem dX2_fact_62 : decode cX2_fact 62 = .ok (.ireturn, 1) := by decide +kernel
theorem dX2_fact_63 : decode cX2_fact 63 = .ok (.aload_n 0, 1) := by decide +kernel
theorem dX2_fact_64 : decode cX2_fact 64 = .ok (.iload_n 1, 1) := by decide +kernel
theorem dX2_fact_65 : decode cX2_fact 65 = .ok (.invokevirtual 152, 3) := by decide +kernel
theorem dX2_fact_68 : decode cX2_fact 68 = .ok (.ireturn, 1) := by decide +kernel
theorem dX2_fact_69 : decode cX2_fact 69 = .ok (.aload_n 0, 1) := by decide +kernel
theorem dX2_fact_70 : decode cX2_fact 70 = .ok (.iload_n 1, 1) := by decide +kernel
theorem dX2_fact_71 : decode cX2_fact 71 = .ok (.invokevirtual 155, 3) := by decide +kernel
theorem dX2_fact_74 : decode cX2_fact 74 = .ok (.ireturn, 1) := by decide +kernel
set_option maxRecDepth 20000 in
theorem ggX2_total_X0_size : GoodIn wsX2_total wsX0_size := goodIn_r _ [10, 11, 73, 74] rfl (by decide +kernel)
set_option maxRecDepth 20000 in
theorem gX2_total_X0_size : GoodIn wsX2_total (wsV RX2 46 RX0 yX0_size wsX0_size) := goodIn_app (goodIn_of _ (by decide +kernel)) ggX2_total_X0_size
set_option maxRecDepth 20000 in
theorem ggX2_total_X1_worth : GoodIn wsX2_total wsX1_worth := goodIn_r _ [16, 17, 75, 76, 77] rfl (by decide +kernel)
set_option maxRecDepth 20000 in
theorem gX2_total_X1_worth : GoodIn wsX2_total (wsV RX2 139 RX1 yX1_worth wsX1_worth) := goodIn_app (goodIn_of _ (by decide +kernel)) ggX2_total_X1_worth
set_option maxRecDepth 20000 in
theorem ggX2_total_X2_allFirstRebates : GoodIn wsX2_total wsX2_allFirstRebates := goodIn_r _ [22, 1, 23, 6, 7, 8, 9, 10, 11, 64, 65, 66, 67, 68, 69, 70, 71, 72, 73, 74] rfl (by decide +kernel)
set_option maxRecDepth 20000 in
theorem gX2_total_X2_allFirstRebates : GoodIn wsX2_total (wsV RX2 158 RX2 yX2_allFirstRebates wsX2_allFirstRebates) := goodIn_app (goodIn_of _ (by decide +kernel)) ggX2_total_X2_allFirstRebates
set_option maxRecDepth 20000 in
theorem ggX2_total_X1_ways : GoodIn wsX2_total wsX1_ways := goodIn_r _ [27, 28, 75, 76, 77] rfl (by decide +kernel)
set_option maxRecDepth 20000 in
theorem gX2_total_X1_ways : GoodIn wsX2_total (wsV RX2 161 RX1 yX1_ways wsX1_ways) := goodIn_app (goodIn_of _ (by decide +kernel)) ggX2_total_X1_ways
set_option maxRecDepth 20000 in
theorem ggX2_total_X2_allPays : GoodIn wsX2_total wsX2_allPays := goodIn_r _ [32, 1, 6, 7, 8, 9, 10, 11, 33, 34, 35, 21, 36, 37, 38, 39, 40, 3, 41, 42, 43, 15, 44, 45, 46, 47, 48, 49, 50, 51, 52, 53, 54, 55, 56, 57, 58, 4, 59, 60, 61, 62, 23, 63, 64, 65, 66, 67, 68, 69, 70, 71, 72, 73, 74, 75, 76, 77] rfl (by decide +kernel)
set_option maxRecDepth 20000 in
theorem gX2_total_X2_allPays : GoodIn wsX2_total (wsV RX2 142 RX2 yX2_allPays wsX2_allPays) := goodIn_app (goodIn_of _ (by decide +kernel)) ggX2_total_X2_allPays
theorem dX2_total_0 : decode cX2_total 0 = .ok (.iload_n 1, 1) := by decide +kernel
theorem dX2_total_1 : decode cX2_total 1 = .ok (.tableswitch 91 0 5 #[39, 47, 52, 60, 78, 83], 39) := by decide +kernel
theorem dX2_total_40 : decode cX2_total 40 = .ok (.aload_n 0, 1) := by decide +kernel
theorem dX2_total_41 : decode cX2_total 41 = .ok (.getfield 10, 3) := by decide +kernel
theorem dX2_total_44 : decode cX2_total 44 = .ok (.invokevirtual 46, 3) := by decide +kernel
theorem dX2_total_47 : decode cX2_total 47 = .ok (.ireturn, 1) := by decide +kernel
theorem dX2_total_48 : decode cX2_total 48 = .ok (.aload_n 0, 1) := by decide +kernel
theorem dX2_total_49 : decode cX2_total 49 = .ok (.getfield 36, 3) := by decide +kernel
theorem dX2_total_52 : decode cX2_total 52 = .ok (.ireturn, 1) := by decide +kernel
theorem dX2_total_53 : decode cX2_total 53 = .ok (.aload_n 0, 1) := by decide +kernel
theorem dX2_total_54 : decode cX2_total 54 = .ok (.getfield 19, 3) := by decide +kernel
theorem dX2_total_57 : decode cX2_total 57 = .ok (.invokevirtual 139, 3) := by decide +kernel
theorem dX2_total_60 : decode cX2_total 60 = .ok (.ireturn, 1) := by decide +kernel
theorem dX2_total_61 : decode cX2_total 61 = .ok (.aload_n 0, 1) := by decide +kernel
theorem dX2_total_62 : decode cX2_total 62 = .ok (.invokevirtual 158, 3) := by decide +kernel
theorem dX2_total_65 : decode cX2_total 65 = .ok (.aload_n 0, 1) := by decide +kernel
theorem dX2_total_66 : decode cX2_total 66 = .ok (.getfield 40, 3) := by decide +kernel
theorem dX2_total_69 : decode cX2_total 69 = .ok (.aload_n 0, 1) := by decide +kernel
theorem dX2_total_70 : decode cX2_total 70 = .ok (.getfield 10, 3) := by decide +kernel
theorem dX2_total_73 : decode cX2_total 73 = .ok (.invokevirtual 46, 3) := by decide +kernel
theorem dX2_total_76 : decode cX2_total 76 = .ok (.imul, 1) := by decide +kernel
theorem dX2_total_77 : decode cX2_total 77 = .ok (.iadd, 1) := by decide +kernel
theorem dX2_total_78 : decode cX2_total 78 = .ok (.ireturn, 1) := by decide +kernel
theorem dX2_total_79 : decode cX2_total 79 = .ok (.aload_n 0, 1) := by decide +kernel
theorem dX2_total_80 : decode cX2_total 80 = .ok (.getfield 43, 3) := by decide +kernel
theorem dX2_total_83 : decode cX2_total 83 = .ok (.ireturn, 1) := by decide +kernel
theorem dX2_total_84 : decode cX2_total 84 = .ok (.aload_n 0, 1) := by decide +kernel
theorem dX2_total_85 : decode cX2_total 85 = .ok (.getfield 19, 3) := by decide +kernel
theorem dX2_total_88 : decode cX2_total 88 = .ok (.invokevirtual 161, 3) := by decide +kernel
theorem dX2_total_91 : decode cX2_total 91 = .ok (.ireturn, 1) := by decide +kernel
theorem dX2_total_92 : decode cX2_total 92 = .ok (.aload_n 0, 1) := by decide +kernel
theorem dX2_total_93 : decode cX2_total 93 = .ok (.invokevirtual 142, 3) := by decide +kernel
theorem dX2_total_96 : decode cX2_total 96 = .ok (.ireturn, 1) := by decide +kernel
set_option maxRecDepth 20000 in
theorem ggX2_ownBidOf_X1_roomOf : GoodIn wsX2_ownBidOf wsX1_roomOf := goodIn_r _ [7, 8, 29, 30, 31] rfl (by decide +kernel)
set_option maxRecDepth 20000 in
theorem gX2_ownBidOf_X1_roomOf : GoodIn wsX2_ownBidOf (wsV RX2 92 RX1 yX1_roomOf wsX1_roomOf) := goodIn_app (goodIn_of _ (by decide +kernel)) ggX2_ownBidOf_X1_roomOf
set_option maxRecDepth 20000 in
theorem ggX2_ownBidOf_X0_of : GoodIn wsX2_ownBidOf wsX0_of := goodIn_r _ [13, 14, 15, 16, 17, 12, 18, 19, 32, 33] rfl (by decide +kernel)
set_option maxRecDepth 20000 in
theorem gX2_ownBidOf_X0_of : GoodIn wsX2_ownBidOf (wsV RX2 77 RX0 yX0_of wsX0_of) := goodIn_app (goodIn_of _ (by decide +kernel)) ggX2_ownBidOf_X0_of
theorem dX2_ownBidOf_0 : decode cX2_ownBidOf 0 = .ok (.aload_n 0, 1) := by decide +kernel
theorem dX2_ownBidOf_1 : decode cX2_ownBidOf 1 = .ok (.getfield 10, 3) := by decide +kernel
theorem dX2_ownBidOf_4 : decode cX2_ownBidOf 4 = .ok (.iload_n 1, 1) := by decide +kernel
theorem dX2_ownBidOf_5 : decode cX2_ownBidOf 5 = .ok (.aload_n 0, 1) := by decide +kernel
theorem dX2_ownBidOf_6 : decode cX2_ownBidOf 6 = .ok (.getfield 19, 3) := by decide +kernel
theorem dX2_ownBidOf_9 : decode cX2_ownBidOf 9 = .ok (.iload_n 1, 1) := by decide +kernel
theorem dX2_ownBidOf_10 : decode cX2_ownBidOf 10 = .ok (.invokevirtual 92, 3) := by decide +kernel
theorem dX2_ownBidOf_13 : decode cX2_ownBidOf 13 = .ok (.invokevirtual 77, 3) := by decide +kernel
theorem dX2_ownBidOf_16 : decode cX2_ownBidOf 16 = .ok (.ireturn, 1) := by decide +kernel
set_option maxRecDepth 20000 in
theorem ggX2_firstRebateOf_X0_has : GoodIn wsX2_firstRebateOf wsX0_has := goodIn_r _ [7, 8, 18, 19] rfl (by decide +kernel)
set_option maxRecDepth 20000 in
theorem gX2_firstRebateOf_X0_has : GoodIn wsX2_firstRebateOf (wsV RX2 63 RX0 yX0_has wsX0_has) := goodIn_app (goodIn_of _ (by decide +kernel)) ggX2_firstRebateOf_X0_has
theorem dX2_firstRebateOf_0 : decode cX2_firstRebateOf 0 = .ok (.aload_n 0, 1) := by decide +kernel
theorem dX2_firstRebateOf_1 : decode cX2_firstRebateOf 1 = .ok (.getfield 10, 3) := by decide +kernel
theorem dX2_firstRebateOf_4 : decode cX2_firstRebateOf 4 = .ok (.iload_n 1, 1) := by decide +kernel
theorem dX2_firstRebateOf_5 : decode cX2_firstRebateOf 5 = .ok (.invokevirtual 63, 3) := by decide +kernel
theorem dX2_firstRebateOf_8 : decode cX2_firstRebateOf 8 = .ok (.ifCond .eq 12, 3) := by decide +kernel
theorem dX2_firstRebateOf_11 : decode cX2_firstRebateOf 11 = .ok (.aload_n 0, 1) := by decide +kernel
theorem dX2_firstRebateOf_12 : decode cX2_firstRebateOf 12 = .ok (.getfield 29, 3) := by decide +kernel
theorem dX2_firstRebateOf_15 : decode cX2_firstRebateOf 15 = .ok (.iload_n 1, 1) := by decide +kernel
theorem dX2_firstRebateOf_16 : decode cX2_firstRebateOf 16 = .ok (.iaload, 1) := by decide +kernel
theorem dX2_firstRebateOf_17 : decode cX2_firstRebateOf 17 = .ok (.goto 4, 3) := by decide +kernel
theorem dX2_firstRebateOf_20 : decode cX2_firstRebateOf 20 = .ok (.iconst 0, 1) := by decide +kernel
theorem dX2_firstRebateOf_21 : decode cX2_firstRebateOf 21 = .ok (.ireturn, 1) := by decide +kernel
set_option maxRecDepth 20000 in
theorem ggX2_rebateOf_X2_firstRebateOf : GoodIn wsX2_rebateOf wsX2_firstRebateOf := goodIn_r _ [6, 7, 8, 9, 10, 11, 12, 13, 14, 15, 16, 17, 18, 19, 20, 21, 22, 23, 24, 25] rfl (by decide +kernel)
set_option maxRecDepth 20000 in
theorem gX2_rebateOf_X2_firstRebateOf : GoodIn wsX2_rebateOf (wsV RX2 152 RX2 yX2_firstRebateOf wsX2_firstRebateOf) := goodIn_app (goodIn_of _ (by decide +kernel)) ggX2_rebateOf_X2_firstRebateOf
theorem dX2_rebateOf_0 : decode cX2_rebateOf 0 = .ok (.aload_n 0, 1) := by decide +kernel
theorem dX2_rebateOf_1 : decode cX2_rebateOf 1 = .ok (.iload_n 1, 1) := by decide +kernel
theorem dX2_rebateOf_2 : decode cX2_rebateOf 2 = .ok (.invokevirtual 152, 3) := by decide +kernel
theorem dX2_rebateOf_5 : decode cX2_rebateOf 5 = .ok (.aload_n 0, 1) := by decide +kernel
theorem dX2_rebateOf_6 : decode cX2_rebateOf 6 = .ok (.getfield 40, 3) := by decide +kernel
theorem dX2_rebateOf_9 : decode cX2_rebateOf 9 = .ok (.iadd, 1) := by decide +kernel
theorem dX2_rebateOf_10 : decode cX2_rebateOf 10 = .ok (.ireturn, 1) := by decide +kernel
set_option maxRecDepth 20000 in
theorem ggX2_payOf_X2_ownBidOf : GoodIn wsX2_payOf wsX2_ownBidOf := goodIn_r _ [5, 6, 7, 8, 9, 10, 11, 12, 13, 14, 15, 16, 17, 18, 19, 20, 21, 22, 23, 24, 36, 37, 38, 39, 40, 41, 42, 43, 44, 45, 46, 47, 48, 49] rfl (by decide +kernel)
set_option maxRecDepth 20000 in
theorem gX2_payOf_X2_ownBidOf : GoodIn wsX2_payOf (wsV RX2 149 RX2 yX2_ownBidOf wsX2_ownBidOf) := goodIn_app (goodIn_of _ (by decide +kernel)) ggX2_payOf_X2_ownBidOf
set_option maxRecDepth 20000 in
theorem ggX2_payOf_X2_rebateOf : GoodIn wsX2_payOf wsX2_rebateOf := goodIn_r _ [28, 29, 30, 31, 32, 4, 33, 6, 34, 35, 21, 22, 17, 23, 24, 36, 37, 38, 39, 40, 41, 42, 43, 44, 48, 49] rfl (by decide +kernel)
set_option maxRecDepth 20000 in
theorem gX2_payOf_X2_rebateOf : GoodIn wsX2_payOf (wsV RX2 114 RX2 yX2_rebateOf wsX2_rebateOf) := goodIn_app (goodIn_of _ (by decide +kernel)) ggX2_payOf_X2_rebateOf
theorem dX2_payOf_0 : decode cX2_payOf 0 = .ok (.aload_n 0, 1) := by decide +kernel
theorem dX2_payOf_1 : decode cX2_payOf 1 = .ok (.iload_n 1, 1) := by decide +kernel
theorem dX2_payOf_2 : decode cX2_payOf 2 = .ok (.invokevirtual 149, 3) := by decide +kernel
theorem dX2_payOf_5 : decode cX2_payOf 5 = .ok (.aload_n 0, 1) := by decide +kernel
theorem dX2_payOf_6 : decode cX2_payOf 6 = .ok (.iload_n 1, 1) := by decide +kernel
theorem dX2_payOf_7 : decode cX2_payOf 7 = .ok (.invokevirtual 114, 3) := by decide +kernel
theorem dX2_payOf_10 : decode cX2_payOf 10 = .ok (.isub, 1) := by decide +kernel
theorem dX2_payOf_11 : decode cX2_payOf 11 = .ok (.ireturn, 1) := by decide +kernel
set_option maxRecDepth 20000 in
theorem ggX2_allFirstRebates_X0_size : GoodIn wsX2_allFirstRebates wsX0_size := goodIn_r _ [7, 8, 18, 19] rfl (by decide +kernel)
set_option maxRecDepth 20000 in
theorem gX2_allFirstRebates_X0_size : GoodIn wsX2_allFirstRebates (wsV RX2 46 RX0 yX0_size wsX0_size) := goodIn_app (goodIn_of _ (by decide +kernel)) ggX2_allFirstRebates_X0_size
theorem dX2_allFirstRebates_0 : decode cX2_allFirstRebates 0 = .ok (.iconst 0, 1) := by decide +kernel
theorem dX2_allFirstRebates_1 : decode cX2_allFirstRebates 1 = .ok (.istore_n 1, 1) := by decide +kernel
theorem dX2_allFirstRebates_2 : decode cX2_allFirstRebates 2 = .ok (.iconst 0, 1) := by decide +kernel
theorem dX2_allFirstRebates_3 : decode cX2_allFirstRebates 3 = .ok (.istore_n 2, 1) := by decide +kernel
theorem dX2_allFirstRebates_4 : decode cX2_allFirstRebates 4 = .ok (.iload_n 2, 1) := by decide +kernel
theorem dX2_allFirstRebates_5 : decode cX2_allFirstRebates 5 = .ok (.aload_n 0, 1) := by decide +kernel
theorem dX2_allFirstRebates_6 : decode cX2_allFirstRebates 6 = .ok (.getfield 10, 3) := by decide +kernel
theorem dX2_allFirstRebates_9 : decode cX2_allFirstRebates 9 = .ok (.invokevirtual 46, 3) := by decide +kernel
theorem dX2_allFirstRebates_12 : decode cX2_allFirstRebates 12 = .ok (.if_icmp .ge 18, 3) := by decide +kernel
theorem dX2_allFirstRebates_15 : decode cX2_allFirstRebates 15 = .ok (.iload_n 1, 1) := by decide +kernel
theorem dX2_allFirstRebates_16 : decode cX2_allFirstRebates 16 = .ok (.aload_n 0, 1) := by decide +kernel
theorem dX2_allFirstRebates_17 : decode cX2_allFirstRebates 17 = .ok (.getfield 29, 3) := by decide +kernel
theorem dX2_allFirstRebates_20 : decode cX2_allFirstRebates 20 = .ok (.iload_n 2, 1) := by decide +kernel
theorem dX2_allFirstRebates_21 : decode cX2_allFirstRebates 21 = .ok (.iaload, 1) := by decide +kernel
theorem dX2_allFirstRebates_22 : decode cX2_allFirstRebates 22 = .ok (.iadd, 1) := by decide +kernel
theorem dX2_allFirstRebates_23 : decode cX2_allFirstRebates 23 = .ok (.istore_n 1, 1) := by decide +kernel
theorem dX2_allFirstRebates_24 : decode cX2_allFirstRebates 24 = .ok (.iinc 2 1, 3) := by decide +kernel
theorem dX2_allFirstRebates_27 : decode cX2_allFirstRebates 27 = .ok (.goto (-23), 3) := by decide +kernel
theorem dX2_allFirstRebates_30 : decode cX2_allFirstRebates 30 = .ok (.iload_n 1, 1) := by decide +kernel
theorem dX2_allFirstRebates_31 : decode cX2_allFirstRebates 31 = .ok (.ireturn, 1) := by decide +kernel
set_option maxRecDepth 20000 in
theorem ggX2_allPays_X0_size : GoodIn wsX2_allPays wsX0_size := goodIn_r _ [6, 7, 53, 54] rfl (by decide +kernel)
set_option maxRecDepth 20000 in
theorem gX2_allPays_X0_size : GoodIn wsX2_allPays (wsV RX2 46 RX0 yX0_size wsX0_size) := goodIn_app (goodIn_of _ (by decide +kernel)) ggX2_allPays_X0_size
set_option maxRecDepth 20000 in
theorem ggX2_allPays_X2_payOf : GoodIn wsX2_allPays wsX2_payOf := goodIn_r _ [12, 13, 14, 15, 11, 16, 1, 17, 18, 19, 20, 21, 22, 23, 24, 25, 26, 5, 27, 28, 29, 30, 31, 32, 7, 33, 34, 35, 36, 37, 38, 39, 40, 41, 42, 43, 44, 45, 46, 47, 48, 49, 50, 51, 52, 55, 56, 57, 53, 54] rfl (by decide +kernel)
set_option maxRecDepth 20000 in
theorem gX2_allPays_X2_payOf : GoodIn wsX2_allPays (wsV RX2 117 RX2 yX2_payOf wsX2_payOf) := goodIn_app (goodIn_of _ (by decide +kernel)) ggX2_allPays_X2_payOf
theorem dX2_allPays_0 : decode cX2_allPays 0 = .ok (.iconst 0, 1) := by decide +kernel
theorem dX2_allPays_1 : decode cX2_allPays 1 = .ok (.istore_n 1, 1) := by decide +kernel
theorem dX2_allPays_2 : decode cX2_allPays 2 = .ok (.iconst 0, 1) := by decide +kernel
theorem dX2_allPays_3 : decode cX2_allPays 3 = .ok (.istore_n 2, 1) := by decide +kernel
theorem dX2_allPays_4 : decode cX2_allPays 4 = .ok (.iload_n 2, 1) := by decide +kernel
theorem dX2_allPays_5 : decode cX2_allPays 5 = .ok (.aload_n 0, 1) := by decide +kernel
theorem dX2_allPays_6 : decode cX2_allPays 6 = .ok (.getfield 10, 3) := by decide +kernel
theorem dX2_allPays_9 : decode cX2_allPays 9 = .ok (.invokevirtual 46, 3) := by decide +kernel
theorem dX2_allPays_12 : decode cX2_allPays 12 = .ok (.if_icmp .ge 17, 3) := by decide +kernel
theorem dX2_allPays_15 : decode cX2_allPays 15 = .ok (.iload_n 1, 1) := by decide +kernel
theorem dX2_allPays_16 : decode cX2_allPays 16 = .ok (.aload_n 0, 1) := by decide +kernel
theorem dX2_allPays_17 : decode cX2_allPays 17 = .ok (.iload_n 2, 1) := by decide +kernel
theorem dX2_allPays_18 : decode cX2_allPays 18 = .ok (.invokevirtual 117, 3) := by decide +kernel
theorem dX2_allPays_21 : decode cX2_allPays 21 = .ok (.iadd, 1) := by decide +kernel
theorem dX2_allPays_22 : decode cX2_allPays 22 = .ok (.istore_n 1, 1) := by decide +kernel
theorem dX2_allPays_23 : decode cX2_allPays 23 = .ok (.iinc 2 1, 3) := by decide +kernel
theorem dX2_allPays_26 : decode cX2_allPays 26 = .ok (.goto (-22), 3) := by decide +kernel
theorem dX2_allPays_29 : decode cX2_allPays 29 = .ok (.iload_n 1, 1) := by decide +kernel
theorem dX2_allPays_30 : decode cX2_allPays 30 = .ok (.ireturn, 1) := by decide +kernel
set_option maxRecDepth 20000 in
theorem ggX2_wouldEnvy_X1_roomOf : GoodIn wsX2_wouldEnvy wsX1_roomOf := goodIn_r _ [7, 8, 34, 35, 36] rfl (by decide +kernel)
set_option maxRecDepth 20000 in
theorem gX2_wouldEnvy_X1_roomOf : GoodIn wsX2_wouldEnvy (wsV RX2 92 RX1 yX1_roomOf wsX1_roomOf) := goodIn_app (goodIn_of _ (by decide +kernel)) ggX2_wouldEnvy_X1_roomOf
set_option maxRecDepth 20000 in
theorem ggX2_wouldEnvy_X0_of : GoodIn wsX2_wouldEnvy wsX0_of := goodIn_r _ [13, 14, 15, 16, 17, 12, 18, 19, 37, 38] rfl (by decide +kernel)
set_option maxRecDepth 20000 in
theorem gX2_wouldEnvy_X0_of : GoodIn wsX2_wouldEnvy (wsV RX2 77 RX0 yX0_of wsX0_of) := goodIn_app (goodIn_of _ (by decide +kernel)) ggX2_wouldEnvy_X0_of
set_option maxRecDepth 20000 in
theorem ggX2_wouldEnvy_X2_ownBidOf : GoodIn wsX2_wouldEnvy wsX2_ownBidOf := goodIn_r _ [24, 1, 2, 3, 4, 5, 6, 7, 8, 9, 10, 11, 12, 13, 14, 15, 16, 17, 18, 19, 25, 26, 27, 28, 29, 30, 31, 32, 33, 34, 35, 36, 37, 38] rfl (by decide +kernel)
set_option maxRecDepth 20000 in
theorem gX2_wouldEnvy_X2_ownBidOf : GoodIn wsX2_wouldEnvy (wsV RX2 149 RX2 yX2_ownBidOf wsX2_ownBidOf) := goodIn_app (goodIn_of _ (by decide +kernel)) ggX2_wouldEnvy_X2_ownBidOf
theorem dX2_wouldEnvy_0 : decode cX2_wouldEnvy 0 = .ok (.aload_n 0, 1) := by decide +kernel
theorem dX2_wouldEnvy_1 : decode cX2_wouldEnvy 1 = .ok (.getfield 10, 3) := by decide +kernel
theorem dX2_wouldEnvy_4 : decode cX2_wouldEnvy 4 = .ok (.iload_n 1, 1) := by decide +kernel
theorem dX2_wouldEnvy_5 : decode cX2_wouldEnvy 5 = .ok (.aload_n 0, 1) := by decide +kernel
theorem dX2_wouldEnvy_6 : decode cX2_wouldEnvy 6 = .ok (.getfield 19, 3) := by decide +kernel
theorem dX2_wouldEnvy_9 : decode cX2_wouldEnvy 9 = .ok (.iload_n 2, 1) := by decide +kernel
theorem dX2_wouldEnvy_10 : decode cX2_wouldEnvy 10 = .ok (.invokevirtual 92, 3) := by decide +kernel
theorem dX2_wouldEnvy_13 : decode cX2_wouldEnvy 13 = .ok (.invokevirtual 77, 3) := by decide +kernel
theorem dX2_wouldEnvy_16 : decode cX2_wouldEnvy 16 = .ok (.aload_n 0, 1) := by decide +kernel
theorem dX2_wouldEnvy_17 : decode cX2_wouldEnvy 17 = .ok (.iload_n 1, 1) := by decide +kernel
theorem dX2_wouldEnvy_18 : decode cX2_wouldEnvy 18 = .ok (.invokevirtual 149, 3) := by decide +kernel
theorem dX2_wouldEnvy_21 : decode cX2_wouldEnvy 21 = .ok (.if_icmp .le 7, 3) := by decide +kernel
theorem dX2_wouldEnvy_24 : decode cX2_wouldEnvy 24 = .ok (.iconst 1, 1) := by decide +kernel
theorem dX2_wouldEnvy_25 : decode cX2_wouldEnvy 25 = .ok (.goto 4, 3) := by decide +kernel
theorem dX2_wouldEnvy_28 : decode cX2_wouldEnvy 28 = .ok (.iconst 0, 1) := by decide +kernel
theorem dX2_wouldEnvy_29 : decode cX2_wouldEnvy 29 = .ok (.ireturn, 1) := by decide +kernel
set_option maxRecDepth 20000 in
theorem ggX2_enviedBy_X0_size : GoodIn wsX2_enviedBy wsX0_size := goodIn_r _ [6, 7, 42, 43] rfl (by decide +kernel)
set_option maxRecDepth 20000 in
theorem gX2_enviedBy_X0_size : GoodIn wsX2_enviedBy (wsV RX2 46 RX0 yX0_size wsX0_size) := goodIn_app (goodIn_of _ (by decide +kernel)) ggX2_enviedBy_X0_size
set_option maxRecDepth 20000 in
theorem ggX2_enviedBy_X2_wouldEnvy : GoodIn wsX2_enviedBy wsX2_wouldEnvy := goodIn_r _ [12, 1, 13, 14, 15, 16, 17, 18, 19, 20, 21, 22, 5, 23, 24, 25, 26, 27, 28, 7, 29, 30, 31, 11, 32, 33, 34, 35, 36, 37, 38, 39, 40, 41, 44, 45, 46, 42, 43] rfl (by decide +kernel)
set_option maxRecDepth 20000 in
theorem gX2_enviedBy_X2_wouldEnvy : GoodIn wsX2_enviedBy (wsV RX2 110 RX2 yX2_wouldEnvy wsX2_wouldEnvy) := goodIn_app (goodIn_of _ (by decide +kernel)) ggX2_enviedBy_X2_wouldEnvy
theorem dX2_enviedBy_0 : decode cX2_enviedBy 0 = .ok (.iconst 0, 1) := by decide +kernel
theorem dX2_enviedBy_1 : decode cX2_enviedBy 1 = .ok (.istore_n 2, 1) := by decide +kernel
theorem dX2_enviedBy_2 : decode cX2_enviedBy 2 = .ok (.iconst 0, 1) := by decide +kernel
theorem dX2_enviedBy_3 : decode cX2_enviedBy 3 = .ok (.istore_n 3, 1) := by decide +kernel
theorem dX2_enviedBy_4 : decode cX2_enviedBy 4 = .ok (.iload_n 3, 1) := by decide +kernel
theorem dX2_enviedBy_5 : decode cX2_enviedBy 5 = .ok (.aload_n 0, 1) := by decide +kernel
theorem dX2_enviedBy_6 : decode cX2_enviedBy 6 = .ok (.getfield 10, 3) := by decide +kernel
theorem dX2_enviedBy_9 : decode cX2_enviedBy 9 = .ok (.invokevirtual 46, 3) := by decide +kernel
theorem dX2_enviedBy_12 : decode cX2_enviedBy 12 = .ok (.if_icmp .ge 21, 3) := by decide +kernel
theorem dX2_enviedBy_15 : decode cX2_enviedBy 15 = .ok (.aload_n 0, 1) := by decide +kernel
theorem dX2_enviedBy_16 : decode cX2_enviedBy 16 = .ok (.iload_n 1, 1) := by decide +kernel
theorem dX2_enviedBy_17 : decode cX2_enviedBy 17 = .ok (.iload_n 3, 1) := by decide +kernel
theorem dX2_enviedBy_18 : decode cX2_enviedBy 18 = .ok (.invokevirtual 110, 3) := by decide +kernel
theorem dX2_enviedBy_21 : decode cX2_enviedBy 21 = .ok (.ifCond .eq 6, 3) := by decide +kernel
theorem dX2_enviedBy_24 : decode cX2_enviedBy 24 = .ok (.iinc 2 1, 3) := by decide +kernel
theorem dX2_enviedBy_27 : decode cX2_enviedBy 27 = .ok (.iinc 3 1, 3) := by decide +kernel
theorem dX2_enviedBy_30 : decode cX2_enviedBy 30 = .ok (.goto (-26), 3) := by decide +kernel
theorem dX2_enviedBy_33 : decode cX2_enviedBy 33 = .ok (.iload_n 2, 1) := by decide +kernel
theorem dX2_enviedBy_34 : decode cX2_enviedBy 34 = .ok (.ireturn, 1) := by decide +kernel
set_option maxRecDepth 20000 in
theorem ggX2_longestChainFrom_X0_size : GoodIn wsX2_longestChainFrom wsX0_size := goodIn_r _ [11, 12, 47, 48] rfl (by decide +kernel)
set_option maxRecDepth 20000 in
theorem gX2_longestChainFrom_X0_size : GoodIn wsX2_longestChainFrom (wsV RX2 46 RX0 yX0_size wsX0_size) := goodIn_app (goodIn_of _ (by decide +kernel)) ggX2_longestChainFrom_X0_size
set_option maxRecDepth 20000 in
theorem ggX2_longestChainFrom_X2_wouldEnvy : GoodIn wsX2_longestChainFrom wsX2_wouldEnvy := goodIn_r _ [17, 1, 18, 19, 20, 21, 22, 23, 24, 25, 26, 27, 10, 28, 29, 30, 31, 32, 33, 12, 34, 35, 36, 16, 37, 38, 39, 40, 41, 42, 43, 44, 45, 46, 49, 50, 51, 47, 48] rfl (by decide +kernel)
set_option maxRecDepth 20000 in
theorem gX2_longestChainFrom_X2_wouldEnvy : GoodIn wsX2_longestChainFrom (wsV RX2 110 RX2 yX2_wouldEnvy wsX2_wouldEnvy) := goodIn_app (goodIn_of _ (by decide +kernel)) ggX2_longestChainFrom_X2_wouldEnvy
theorem dX2_longestChainFrom_0 : decode cX2_longestChainFrom 0 = .ok (.iconst 1, 1) := by decide +kernel
theorem dX2_longestChainFrom_1 : decode cX2_longestChainFrom 1 = .ok (.istore_n 2, 1) := by decide +kernel
theorem dX2_longestChainFrom_2 : decode cX2_longestChainFrom 2 = .ok (.iconst 0, 1) := by decide +kernel
theorem dX2_longestChainFrom_3 : decode cX2_longestChainFrom 3 = .ok (.istore_n 3, 1) := by decide +kernel
theorem dX2_longestChainFrom_4 : decode cX2_longestChainFrom 4 = .ok (.iload_n 3, 1) := by decide +kernel
theorem dX2_longestChainFrom_5 : decode cX2_longestChainFrom 5 = .ok (.aload_n 0, 1) := by decide +kernel
theorem dX2_longestChainFrom_6 : decode cX2_longestChainFrom 6 = .ok (.getfield 10, 3) := by decide +kernel
theorem dX2_longestChainFrom_9 : decode cX2_longestChainFrom 9 = .ok (.invokevirtual 46, 3) := by decide +kernel
theorem dX2_longestChainFrom_12 : decode cX2_longestChainFrom 12 = .ok (.if_icmp .ge 31, 3) := by decide +kernel
theorem dX2_longestChainFrom_15 : decode cX2_longestChainFrom 15 = .ok (.aload_n 0, 1) := by decide +kernel
theorem dX2_longestChainFrom_16 : decode cX2_longestChainFrom 16 = .ok (.iload_n 1, 1) := by decide +kernel
theorem dX2_longestChainFrom_17 : decode cX2_longestChainFrom 17 = .ok (.iload_n 3, 1) := by decide +kernel
theorem dX2_longestChainFrom_18 : decode cX2_longestChainFrom 18 = .ok (.invokevirtual 110, 3) := by decide +kernel
theorem dX2_longestChainFrom_21 : decode cX2_longestChainFrom 21 = .ok (.ifCond .eq 16, 3) := by decide +kernel
theorem dX2_longestChainFrom_24 : decode cX2_longestChainFrom 24 = .ok (.iload_n 2, 1) := by decide +kernel
theorem dX2_longestChainFrom_25 : decode cX2_longestChainFrom 25 = .ok (.aload_n 0, 1) := by decide +kernel
theorem dX2_longestChainFrom_26 : decode cX2_longestChainFrom 26 = .ok (.getfield 33, 3) := by decide +kernel
theorem dX2_longestChainFrom_29 : decode cX2_longestChainFrom 29 = .ok (.iload_n 3, 1) := by decide +kernel
theorem dX2_longestChainFrom_30 : decode cX2_longestChainFrom 30 = .ok (.iaload, 1) := by decide +kernel
theorem dX2_longestChainFrom_31 : decode cX2_longestChainFrom 31 = .ok (.iconst 1, 1) := by decide +kernel
theorem dX2_longestChainFrom_32 : decode cX2_longestChainFrom 32 = .ok (.iadd, 1) := by decide +kernel
theorem dX2_longestChainFrom_33 : decode cX2_longestChainFrom 33 = .ok (.invokestatic 123, 3) := by decide +kernel
theorem dX2_longestChainFrom_36 : decode cX2_longestChainFrom 36 = .ok (.istore_n 2, 1) := by decide +kernel
theorem dX2_longestChainFrom_37 : decode cX2_longestChainFrom 37 = .ok (.iinc 3 1, 3) := by decide +kernel
theorem dX2_longestChainFrom_40 : decode cX2_longestChainFrom 40 = .ok (.goto (-36), 3) := by decide +kernel
theorem dX2_longestChainFrom_43 : decode cX2_longestChainFrom 43 = .ok (.iload_n 2, 1) := by decide +kernel
theorem dX2_longestChainFrom_44 : decode cX2_longestChainFrom 44 = .ok (.ireturn, 1) := by decide +kernel
set_option maxRecDepth 20000 in
theorem ggX2_roomTried_X0_set : GoodIn wsX2_roomTried wsX0_set := goodIn_r _ [7, 8, 9, 10, 11, 6, 12, 13, 58, 59] rfl (by decide +kernel)
set_option maxRecDepth 20000 in
theorem gX2_roomTried_X0_set : GoodIn wsX2_roomTried (wsV RX2 81 RX0 yX0_set wsX0_set) := goodIn_app (goodIn_of _ (by decide +kernel)) ggX2_roomTried_X0_set
set_option maxRecDepth 20000 in
theorem ggX2_roomTried_X1_choose : GoodIn wsX2_roomTried wsX1_choose := goodIn_r _ [18, 19, 20, 21, 22, 23, 24, 6, 25, 13, 26, 27, 28, 17, 29, 30, 31, 32, 33, 34, 35, 36, 37, 38, 39, 40, 8, 9, 10, 11, 12, 41, 42, 43, 44, 60, 61, 62, 58, 59] rfl (by decide +kernel)
set_option maxRecDepth 20000 in
theorem gX2_roomTried_X1_choose : GoodIn wsX2_roomTried (wsV RX2 136 RX1 yX1_choose wsX1_choose) := goodIn_app (goodIn_of _ (by decide +kernel)) ggX2_roomTried_X1_choose
set_option maxRecDepth 20000 in
theorem ggX2_roomTried_X1_roomOf : GoodIn wsX2_roomTried wsX1_roomOf := goodIn_r _ [48, 21, 60, 61, 62] rfl (by decide +kernel)
set_option maxRecDepth 20000 in
theorem gX2_roomTried_X1_roomOf : GoodIn wsX2_roomTried (wsV RX2 92 RX1 yX1_roomOf wsX1_roomOf) := goodIn_app (goodIn_of _ (by decide +kernel)) ggX2_roomTried_X1_roomOf
theorem dX2_roomTried_0 : decode cX2_roomTried 0 = .ok (.aload_n 0, 1) := by decide +kernel
theorem dX2_roomTried_1 : decode cX2_roomTried 1 = .ok (.getfield 23, 3) := by decide +kernel
theorem dX2_roomTried_4 : decode cX2_roomTried 4 = .ok (.iload_n 1, 1) := by decide +kernel
theorem dX2_roomTried_5 : decode cX2_roomTried 5 = .ok (.iload_n 2, 1) := by decide +kernel
theorem dX2_roomTried_6 : decode cX2_roomTried 6 = .ok (.iload_n 3, 1) := by decide +kernel
theorem dX2_roomTried_7 : decode cX2_roomTried 7 = .ok (.invokevirtual 81, 3) := by decide +kernel
theorem dX2_roomTried_10 : decode cX2_roomTried 10 = .ok (.aload_n 0, 1) := by decide +kernel
theorem dX2_roomTried_11 : decode cX2_roomTried 11 = .ok (.getfield 26, 3) := by decide +kernel
theorem dX2_roomTried_14 : decode cX2_roomTried 14 = .ok (.aload_n 0, 1) := by decide +kernel
theorem dX2_roomTried_15 : decode cX2_roomTried 15 = .ok (.getfield 23, 3) := by decide +kernel
theorem dX2_roomTried_18 : decode cX2_roomTried 18 = .ok (.invokevirtual 136, 3) := by decide +kernel
theorem dX2_roomTried_21 : decode cX2_roomTried 21 = .ok (.aload_n 0, 1) := by decide +kernel
theorem dX2_roomTried_22 : decode cX2_roomTried 22 = .ok (.getfield 26, 3) := by decide +kernel
theorem dX2_roomTried_25 : decode cX2_roomTried 25 = .ok (.iload_n 1, 1) := by decide +kernel
theorem dX2_roomTried_26 : decode cX2_roomTried 26 = .ok (.invokevirtual 92, 3) := by decide +kernel
theorem dX2_roomTried_29 : decode cX2_roomTried 29 = .ok (.ireturn, 1) := by decide +kernel
set_option maxRecDepth 20000 in
theorem ggX2_settleAll_X1_choose : GoodIn wsX2_settleAll wsX1_choose := goodIn_r _ [7, 8, 9, 10, 11, 12, 13, 14, 15, 16, 17, 18, 19, 6, 20, 21, 22, 23, 24, 25, 26, 27, 28, 29, 30, 31, 32, 33, 34, 35, 36, 37, 38, 39, 40, 94, 95, 96, 97, 98] rfl (by decide +kernel)
set_option maxRecDepth 20000 in
theorem gX2_settleAll_X1_choose : GoodIn wsX2_settleAll (wsV RX2 136 RX1 yX1_choose wsX1_choose) := goodIn_app (goodIn_of _ (by decide +kernel)) ggX2_settleAll_X1_choose
set_option maxRecDepth 20000 in
theorem ggX2_settleAll_X2_settleFirstRebates : GoodIn wsX2_settleAll wsX2_settleFirstRebates := goodIn_r _ [45, 2, 46, 47, 12, 13, 14, 15, 16, 48, 49, 50, 44, 51, 1, 52, 53, 54, 55, 56, 57, 58, 59, 60, 34, 35, 36, 61, 62, 63, 64, 65, 66, 67, 6, 68, 10, 69, 29, 30, 31, 32, 33, 85, 86, 87, 88, 89, 90, 91, 92, 93, 97, 98, 94, 95, 96] rfl (by decide +kernel)
set_option maxRecDepth 20000 in
theorem gX2_settleAll_X2_settleFirstRebates : GoodIn wsX2_settleAll (wsV RX2 164 RX2 yX2_settleFirstRebates wsX2_settleFirstRebates) := goodIn_app (goodIn_of _ (by decide +kernel)) ggX2_settleAll_X2_settleFirstRebates
set_option maxRecDepth 20000 in
theorem ggX2_settleAll_X2_settleLeftOver : GoodIn wsX2_settleAll wsX2_settleLeftOver := goodIn_r _ [73, 2, 1, 74, 75, 76, 47, 12, 13, 14, 15, 16, 77, 78, 79, 6, 80, 8, 81, 82, 83, 44, 84, 46, 85, 86, 87, 88, 89, 90, 91, 92, 93, 97, 98, 94, 95, 96] rfl (by decide +kernel)
set_option maxRecDepth 20000 in
theorem gX2_settleAll_X2_settleLeftOver : GoodIn wsX2_settleAll (wsV RX2 87 RX2 yX2_settleLeftOver wsX2_settleLeftOver) := goodIn_app (goodIn_of _ (by decide +kernel)) ggX2_settleAll_X2_settleLeftOver
theorem dX2_settleAll_0 : decode cX2_settleAll 0 = .ok (.aload_n 0, 1) := by decide +kernel
theorem dX2_settleAll_1 : decode cX2_settleAll 1 = .ok (.getfield 19, 3) := by decide +kernel
theorem dX2_settleAll_4 : decode cX2_settleAll 4 = .ok (.aload_n 0, 1) := by decide +kernel
theorem dX2_settleAll_5 : decode cX2_settleAll 5 = .ok (.getfield 10, 3) := by decide +kernel
theorem dX2_settleAll_8 : decode cX2_settleAll 8 = .ok (.invokevirtual 136, 3) := by decide +kernel
theorem dX2_settleAll_11 : decode cX2_settleAll 11 = .ok (.aload_n 0, 1) := by decide +kernel
theorem dX2_settleAll_12 : decode cX2_settleAll 12 = .ok (.invokevirtual 164, 3) := by decide +kernel
theorem dX2_settleAll_15 : decode cX2_settleAll 15 = .ok (.aload_n 0, 1) := by decide +kernel
theorem dX2_settleAll_16 : decode cX2_settleAll 16 = .ok (.invokevirtual 87, 3) := by decide +kernel
theorem dX2_settleAll_19 : decode cX2_settleAll 19 = .ok (.return_, 1) := by decide +kernel
set_option maxRecDepth 20000 in
theorem ggX2_settleFirstRebates_X0_size : GoodIn wsX2_settleFirstRebates wsX0_size := goodIn_r _ [7, 8, 52, 53] rfl (by decide +kernel)
set_option maxRecDepth 20000 in
theorem gX2_settleFirstRebates_X0_size : GoodIn wsX2_settleFirstRebates (wsV RX2 46 RX0 yX0_size wsX0_size) := goodIn_app (goodIn_of _ (by decide +kernel)) ggX2_settleFirstRebates_X0_size
set_option maxRecDepth 20000 in
theorem ggX2_settleFirstRebates_X2_bestOfAllRooms : GoodIn wsX2_settleFirstRebates wsX2_bestOfAllRooms := goodIn_r _ [13, 1, 14, 15, 16, 17, 18, 19, 20, 21, 12, 22, 2, 23, 24, 25, 6, 26, 8, 3, 4, 5, 7, 27, 28, 29, 30, 31, 32, 33, 34, 35, 36, 37, 38, 39, 40, 41, 42, 43, 44, 45, 46, 47, 48, 49, 50, 51, 52, 53, 54, 55, 56] rfl (by decide +kernel)
set_option maxRecDepth 20000 in
theorem gX2_settleFirstRebates_X2_bestOfAllRooms : GoodIn wsX2_settleFirstRebates (wsV RX2 167 RX2 yX2_bestOfAllRooms wsX2_bestOfAllRooms) := goodIn_app (goodIn_of _ (by decide +kernel)) ggX2_settleFirstRebates_X2_bestOfAllRooms
theorem dX2_settleFirstRebates_0 : decode cX2_settleFirstRebates 0 = .ok (.aload_n 0, 1) := by decide +kernel
theorem dX2_settleFirstRebates_1 : decode cX2_settleFirstRebates 1 = .ok (.getfield 10, 3) := by decide +kernel
theorem dX2_settleFirstRebates_4 : decode cX2_settleFirstRebates 4 = .ok (.invokevirtual 46, 3) := by decide +kernel
theorem dX2_settleFirstRebates_7 : decode cX2_settleFirstRebates 7 = .ok (.istore_n 1, 1) := by decide +kernel
theorem dX2_settleFirstRebates_8 : decode cX2_settleFirstRebates 8 = .ok (.iconst 0, 1) := by decide +kernel
theorem dX2_settleFirstRebates_9 : decode cX2_settleFirstRebates 9 = .ok (.istore_n 2, 1) := by decide +kernel
theorem dX2_settleFirstRebates_10 : decode cX2_settleFirstRebates 10 = .ok (.iload_n 2, 1) := by decide +kernel
theorem dX2_settleFirstRebates_11 : decode cX2_settleFirstRebates 11 = .ok (.iload_n 1, 1) := by decide +kernel
theorem dX2_settleFirstRebates_12 : decode cX2_settleFirstRebates 12 = .ok (.if_icmp .ge 16, 3) := by decide +kernel
theorem dX2_settleFirstRebates_15 : decode cX2_settleFirstRebates 15 = .ok (.aload_n 0, 1) := by decide +kernel
theorem dX2_settleFirstRebates_16 : decode cX2_settleFirstRebates 16 = .ok (.getfield 29, 3) := by decide +kernel
theorem dX2_settleFirstRebates_19 : decode cX2_settleFirstRebates 19 = .ok (.iload_n 2, 1) := by decide +kernel
theorem dX2_settleFirstRebates_20 : decode cX2_settleFirstRebates 20 = .ok (.iconst 0, 1) := by decide +kernel
theorem dX2_settleFirstRebates_21 : decode cX2_settleFirstRebates 21 = .ok (.iastore, 1) := by decide +kernel
theorem dX2_settleFirstRebates_22 : decode cX2_settleFirstRebates 22 = .ok (.iinc 2 1, 3) := by decide +kernel
theorem dX2_settleFirstRebates_25 : decode cX2_settleFirstRebates 25 = .ok (.goto (-15), 3) := by decide +kernel
theorem dX2_settleFirstRebates_28 : decode cX2_settleFirstRebates 28 = .ok (.iconst 1, 1) := by decide +kernel
theorem dX2_settleFirstRebates_29 : decode cX2_settleFirstRebates 29 = .ok (.istore_n 2, 1) := by decide +kernel
theorem dX2_settleFirstRebates_30 : decode cX2_settleFirstRebates 30 = .ok (.iload_n 2, 1) := by decide +kernel
theorem dX2_settleFirstRebates_31 : decode cX2_settleFirstRebates 31 = .ok (.iload_n 1, 1) := by decide +kernel
theorem dX2_settleFirstRebates_32 : decode cX2_settleFirstRebates 32 = .ok (.if_icmp .ge 33, 3) := by decide +kernel
theorem dX2_settleFirstRebates_35 : decode cX2_settleFirstRebates 35 = .ok (.iconst 0, 1) := by decide +kernel
theorem dX2_settleFirstRebates_36 : decode cX2_settleFirstRebates 36 = .ok (.istore_n 3, 1) := by decide +kernel
theorem dX2_settleFirstRebates_37 : decode cX2_settleFirstRebates 37 = .ok (.iload_n 3, 1) := by decide +kernel
theorem dX2_settleFirstRebates_38 : decode cX2_settleFirstRebates 38 = .ok (.iload_n 1, 1) := by decide +kernel
theorem dX2_settleFirstRebates_39 : decode cX2_settleFirstRebates 39 = .ok (.if_icmp .ge 20, 3) := by decide +kernel
theorem dX2_settleFirstRebates_42 : decode cX2_settleFirstRebates 42 = .ok (.aload_n 0, 1) := by decide +kernel
theorem dX2_settleFirstRebates_43 : decode cX2_settleFirstRebates 43 = .ok (.getfield 29, 3) := by decide +kernel
theorem dX2_settleFirstRebates_46 : decode cX2_settleFirstRebates 46 = .ok (.iload_n 3, 1) := by decide +kernel
theorem dX2_settleFirstRebates_47 : decode cX2_settleFirstRebates 47 = .ok (.aload_n 0, 1) := by decide +kernel
theorem dX2_settleFirstRebates_48 : decode cX2_settleFirstRebates 48 = .ok (.iload_n 3, 1) := by decide +kernel
theorem dX2_settleFirstRebates_49 : decode cX2_settleFirstRebates 49 = .ok (.invokevirtual 167, 3) := by decide +kernel
theorem dX2_settleFirstRebates_52 : decode cX2_settleFirstRebates 52 = .ok (.iastore, 1) := by decide +kernel
theorem dX2_settleFirstRebates_53 : decode cX2_settleFirstRebates 53 = .ok (.iinc 3 1, 3) := by decide +kernel
theorem dX2_settleFirstRebates_56 : decode cX2_settleFirstRebates 56 = .ok (.goto (-19), 3) := by decide +kernel
theorem dX2_settleFirstRebates_59 : decode cX2_settleFirstRebates 59 = .ok (.iinc 2 1, 3) := by decide +kernel
theorem dX2_settleFirstRebates_62 : decode cX2_settleFirstRebates 62 = .ok (.goto (-32), 3) := by decide +kernel
theorem dX2_settleFirstRebates_65 : decode cX2_settleFirstRebates 65 = .ok (.return_, 1) := by decide +kernel
set_option maxRecDepth 20000 in
theorem ggX2_bestOfAllRooms_X2_firstRebateOf : GoodIn wsX2_bestOfAllRooms wsX2_firstRebateOf := goodIn_r _ [11, 1, 12, 13, 14, 15, 16, 17, 18, 39, 40, 41, 42, 43, 44, 45, 46, 47, 48, 49] rfl (by decide +kernel)
set_option maxRecDepth 20000 in
theorem gX2_bestOfAllRooms_X2_firstRebateOf : GoodIn wsX2_bestOfAllRooms (wsV RX2 152 RX2 yX2_firstRebateOf wsX2_firstRebateOf) := goodIn_app (goodIn_of _ (by decide +kernel)) ggX2_bestOfAllRooms_X2_firstRebateOf
set_option maxRecDepth 20000 in
theorem ggX2_bestOfAllRooms_X0_size : GoodIn wsX2_bestOfAllRooms wsX0_size := goodIn_r _ [22, 18, 48, 49] rfl (by decide +kernel)
set_option maxRecDepth 20000 in
theorem gX2_bestOfAllRooms_X0_size : GoodIn wsX2_bestOfAllRooms (wsV RX2 46 RX0 yX0_size wsX0_size) := goodIn_app (goodIn_of _ (by decide +kernel)) ggX2_bestOfAllRooms_X0_size
set_option maxRecDepth 20000 in
theorem ggX2_bestOfAllRooms_X2_ownBidOf : GoodIn wsX2_bestOfAllRooms wsX2_ownBidOf := goodIn_r _ [26, 1, 2, 27, 28, 29, 30, 31, 32, 33, 34, 35, 16, 36, 37, 38, 14, 15, 17, 18, 39, 40, 41, 42, 43, 44, 45, 46, 47, 50, 51, 52, 48, 49] rfl (by decide +kernel)
set_option maxRecDepth 20000 in
theorem gX2_bestOfAllRooms_X2_ownBidOf : GoodIn wsX2_bestOfAllRooms (wsV RX2 149 RX2 yX2_ownBidOf wsX2_ownBidOf) := goodIn_app (goodIn_of _ (by decide +kernel)) ggX2_bestOfAllRooms_X2_ownBidOf
set_option maxRecDepth 20000 in
theorem ggX2_bestOfAllRooms_X1_roomOf : GoodIn wsX2_bestOfAllRooms wsX1_roomOf := goodIn_r _ [31, 32, 50, 51, 52] rfl (by decide +kernel)
set_option maxRecDepth 20000 in
theorem gX2_bestOfAllRooms_X1_roomOf : GoodIn wsX2_bestOfAllRooms (wsV RX2 92 RX1 yX1_roomOf wsX1_roomOf) := goodIn_app (goodIn_of _ (by decide +kernel)) ggX2_bestOfAllRooms_X1_roomOf
set_option maxRecDepth 20000 in
theorem ggX2_bestOfAllRooms_X0_of : GoodIn wsX2_bestOfAllRooms wsX0_of := goodIn_r _ [36, 37, 38, 14, 15, 16, 17, 18, 48, 49] rfl (by decide +kernel)
set_option maxRecDepth 20000 in
theorem gX2_bestOfAllRooms_X0_of : GoodIn wsX2_bestOfAllRooms (wsV RX2 77 RX0 yX0_of wsX0_of) := goodIn_app (goodIn_of _ (by decide +kernel)) ggX2_bestOfAllRooms_X0_of
theorem dX2_bestOfAllRooms_0 : decode cX2_bestOfAllRooms 0 = .ok (.aload_n 0, 1) := by decide +kernel
theorem dX2_bestOfAllRooms_1 : decode cX2_bestOfAllRooms 1 = .ok (.iload_n 1, 1) := by decide +kernel
theorem dX2_bestOfAllRooms_2 : decode cX2_bestOfAllRooms 2 = .ok (.invokevirtual 152, 3) := by decide +kernel
theorem dX2_bestOfAllRooms_5 : decode cX2_bestOfAllRooms 5 = .ok (.istore_n 2, 1) := by decide +kernel
theorem dX2_bestOfAllRooms_6 : decode cX2_bestOfAllRooms 6 = .ok (.iconst 0, 1) := by decide +kernel
theorem dX2_bestOfAllRooms_7 : decode cX2_bestOfAllRooms 7 = .ok (.istore_n 3, 1) := by decide +kernel
theorem dX2_bestOfAllRooms_8 : decode cX2_bestOfAllRooms 8 = .ok (.iload_n 3, 1) := by decide +kernel
theorem dX2_bestOfAllRooms_9 : decode cX2_bestOfAllRooms 9 = .ok (.aload_n 0, 1) := by decide +kernel
theorem dX2_bestOfAllRooms_10 : decode cX2_bestOfAllRooms 10 = .ok (.getfield 10, 3) := by decide +kernel
theorem dX2_bestOfAllRooms_13 : decode cX2_bestOfAllRooms 13 = .ok (.invokevirtual 46, 3) := by decide +kernel
theorem dX2_bestOfAllRooms_16 : decode cX2_bestOfAllRooms 16 = .ok (.if_icmp .ge 46, 3) := by decide +kernel
theorem dX2_bestOfAllRooms_19 : decode cX2_bestOfAllRooms 19 = .ok (.aload_n 0, 1) := by decide +kernel
theorem dX2_bestOfAllRooms_20 : decode cX2_bestOfAllRooms 20 = .ok (.iload_n 3, 1) := by decide +kernel
theorem dX2_bestOfAllRooms_21 : decode cX2_bestOfAllRooms 21 = .ok (.invokevirtual 149, 3) := by decide +kernel
theorem dX2_bestOfAllRooms_24 : decode cX2_bestOfAllRooms 24 = .ok (.aload_n 0, 1) := by decide +kernel
theorem dX2_bestOfAllRooms_25 : decode cX2_bestOfAllRooms 25 = .ok (.iload_n 3, 1) := by decide +kernel
theorem dX2_bestOfAllRooms_26 : decode cX2_bestOfAllRooms 26 = .ok (.invokevirtual 152, 3) := by decide +kernel
theorem dX2_bestOfAllRooms_29 : decode cX2_bestOfAllRooms 29 = .ok (.isub, 1) := by decide +kernel
theorem dX2_bestOfAllRooms_30 : decode cX2_bestOfAllRooms 30 = .ok (.istore 4, 2) := by decide +kernel
theorem dX2_bestOfAllRooms_32 : decode cX2_bestOfAllRooms 32 = .ok (.iload_n 2, 1) := by decide +kernel
theorem dX2_bestOfAllRooms_33 : decode cX2_bestOfAllRooms 33 = .ok (.aload_n 0, 1) := by decide +kernel
theorem dX2_bestOfAllRooms_34 : decode cX2_bestOfAllRooms 34 = .ok (.getfield 10, 3) := by decide +kernel
theorem dX2_bestOfAllRooms_37 : decode cX2_bestOfAllRooms 37 = .ok (.iload_n 1, 1) := by decide +kernel
theorem dX2_bestOfAllRooms_38 : decode cX2_bestOfAllRooms 38 = .ok (.aload_n 0, 1) := by decide +kernel
theorem dX2_bestOfAllRooms_39 : decode cX2_bestOfAllRooms 39 = .ok (.getfield 19, 3) := by decide +kernel
theorem dX2_bestOfAllRooms_42 : decode cX2_bestOfAllRooms 42 = .ok (.iload_n 3, 1) := by decide +kernel
theorem dX2_bestOfAllRooms_43 : decode cX2_bestOfAllRooms 43 = .ok (.invokevirtual 92, 3) := by decide +kernel
theorem dX2_bestOfAllRooms_46 : decode cX2_bestOfAllRooms 46 = .ok (.invokevirtual 77, 3) := by decide +kernel
theorem dX2_bestOfAllRooms_49 : decode cX2_bestOfAllRooms 49 = .ok (.iload 4, 2) := by decide +kernel
theorem dX2_bestOfAllRooms_51 : decode cX2_bestOfAllRooms 51 = .ok (.isub, 1) := by decide +kernel
theorem dX2_bestOfAllRooms_52 : decode cX2_bestOfAllRooms 52 = .ok (.invokestatic 123, 3) := by decide +kernel
theorem dX2_bestOfAllRooms_55 : decode cX2_bestOfAllRooms 55 = .ok (.istore_n 2, 1) := by decide +kernel
theorem dX2_bestOfAllRooms_56 : decode cX2_bestOfAllRooms 56 = .ok (.iinc 3 1, 3) := by decide +kernel
theorem dX2_bestOfAllRooms_59 : decode cX2_bestOfAllRooms 59 = .ok (.goto (-51), 3) := by decide +kernel
theorem dX2_bestOfAllRooms_62 : decode cX2_bestOfAllRooms 62 = .ok (.iload_n 2, 1) := by decide +kernel
theorem dX2_bestOfAllRooms_63 : decode cX2_bestOfAllRooms 63 = .ok (.ireturn, 1) := by decide +kernel
set_option maxRecDepth 20000 in
theorem ggX2_settleLeftOver_X0_size : GoodIn wsX2_settleLeftOver wsX0_size := goodIn_r _ [10, 11, 33, 34] rfl (by decide +kernel)
set_option maxRecDepth 20000 in
theorem gX2_settleLeftOver_X0_size : GoodIn wsX2_settleLeftOver (wsV RX2 46 RX0 yX0_size wsX0_size) := goodIn_app (goodIn_of _ (by decide +kernel)) ggX2_settleLeftOver_X0_size
set_option maxRecDepth 20000 in
theorem ggX2_settleLeftOver_X1_worth : GoodIn wsX2_settleLeftOver wsX1_worth := goodIn_r _ [16, 17, 35, 36, 37] rfl (by decide +kernel)
set_option maxRecDepth 20000 in
theorem gX2_settleLeftOver_X1_worth : GoodIn wsX2_settleLeftOver (wsV RX2 139 RX1 yX1_worth wsX1_worth) := goodIn_app (goodIn_of _ (by decide +kernel)) ggX2_settleLeftOver_X1_worth
set_option maxRecDepth 20000 in
theorem ggX2_settleLeftOver_X2_allFirstRebates : GoodIn wsX2_settleLeftOver wsX2_allFirstRebates := goodIn_r _ [22, 1, 23, 6, 7, 8, 9, 10, 11, 24, 25, 26, 27, 28, 29, 30, 31, 32, 33, 34] rfl (by decide +kernel)
set_option maxRecDepth 20000 in
theorem gX2_settleLeftOver_X2_allFirstRebates : GoodIn wsX2_settleLeftOver (wsV RX2 158 RX2 yX2_allFirstRebates wsX2_allFirstRebates) := goodIn_app (goodIn_of _ (by decide +kernel)) ggX2_settleLeftOver_X2_allFirstRebates
theorem dX2_settleLeftOver_0 : decode cX2_settleLeftOver 0 = .ok (.aload_n 0, 1) := by decide +kernel
theorem dX2_settleLeftOver_1 : decode cX2_settleLeftOver 1 = .ok (.getfield 10, 3) := by decide +kernel
theorem dX2_settleLeftOver_4 : decode cX2_settleLeftOver 4 = .ok (.invokevirtual 46, 3) := by decide +kernel
theorem dX2_settleLeftOver_7 : decode cX2_settleLeftOver 7 = .ok (.istore_n 1, 1) := by decide +kernel
theorem dX2_settleLeftOver_8 : decode cX2_settleLeftOver 8 = .ok (.aload_n 0, 1) := by decide +kernel
theorem dX2_settleLeftOver_9 : decode cX2_settleLeftOver 9 = .ok (.getfield 19, 3) := by decide +kernel
theorem dX2_settleLeftOver_12 : decode cX2_settleLeftOver 12 = .ok (.invokevirtual 139, 3) := by decide +kernel
theorem dX2_settleLeftOver_15 : decode cX2_settleLeftOver 15 = .ok (.aload_n 0, 1) := by decide +kernel
theorem dX2_settleLeftOver_16 : decode cX2_settleLeftOver 16 = .ok (.getfield 36, 3) := by decide +kernel
theorem dX2_settleLeftOver_19 : decode cX2_settleLeftOver 19 = .ok (.isub, 1) := by decide +kernel
theorem dX2_settleLeftOver_20 : decode cX2_settleLeftOver 20 = .ok (.aload_n 0, 1) := by decide +kernel
theorem dX2_settleLeftOver_21 : decode cX2_settleLeftOver 21 = .ok (.invokevirtual 158, 3) := by decide +kernel
theorem dX2_settleLeftOver_24 : decode cX2_settleLeftOver 24 = .ok (.isub, 1) := by decide +kernel
theorem dX2_settleLeftOver_25 : decode cX2_settleLeftOver 25 = .ok (.istore_n 2, 1) := by decide +kernel
theorem dX2_settleLeftOver_26 : decode cX2_settleLeftOver 26 = .ok (.aload_n 0, 1) := by decide +kernel
theorem dX2_settleLeftOver_27 : decode cX2_settleLeftOver 27 = .ok (.iload_n 2, 1) := by decide +kernel
theorem dX2_settleLeftOver_28 : decode cX2_settleLeftOver 28 = .ok (.ifCond .le 13, 3) := by decide +kernel
theorem dX2_settleLeftOver_31 : decode cX2_settleLeftOver 31 = .ok (.iload_n 1, 1) := by decide +kernel
theorem dX2_settleLeftOver_32 : decode cX2_settleLeftOver 32 = .ok (.ifCond .le 9, 3) := by decide +kernel
theorem dX2_settleLeftOver_35 : decode cX2_settleLeftOver 35 = .ok (.iload_n 2, 1) := by decide +kernel
theorem dX2_settleLeftOver_36 : decode cX2_settleLeftOver 36 = .ok (.iload_n 1, 1) := by decide +kernel
theorem dX2_settleLeftOver_37 : decode cX2_settleLeftOver 37 = .ok (.idiv, 1) := by decide +kernel
theorem dX2_settleLeftOver_38 : decode cX2_settleLeftOver 38 = .ok (.goto 4, 3) := by decide +kernel
theorem dX2_settleLeftOver_41 : decode cX2_settleLeftOver 41 = .ok (.iconst 0, 1) := by decide +kernel
theorem dX2_settleLeftOver_42 : decode cX2_settleLeftOver 42 = .ok (.putfield 40, 3) := by decide +kernel
theorem dX2_settleLeftOver_45 : decode cX2_settleLeftOver 45 = .ok (.aload_n 0, 1) := by decide +kernel
theorem dX2_settleLeftOver_46 : decode cX2_settleLeftOver 46 = .ok (.iload_n 2, 1) := by decide +kernel
theorem dX2_settleLeftOver_47 : decode cX2_settleLeftOver 47 = .ok (.aload_n 0, 1) := by decide +kernel
theorem dX2_settleLeftOver_48 : decode cX2_settleLeftOver 48 = .ok (.getfield 40, 3) := by decide +kernel
theorem dX2_settleLeftOver_51 : decode cX2_settleLeftOver 51 = .ok (.iload_n 1, 1) := by decide +kernel
theorem dX2_settleLeftOver_52 : decode cX2_settleLeftOver 52 = .ok (.imul, 1) := by decide +kernel
theorem dX2_settleLeftOver_53 : decode cX2_settleLeftOver 53 = .ok (.isub, 1) := by decide +kernel
theorem dX2_settleLeftOver_54 : decode cX2_settleLeftOver 54 = .ok (.putfield 43, 3) := by decide +kernel
theorem dX2_settleLeftOver_57 : decode cX2_settleLeftOver 57 = .ok (.return_, 1) := by decide +kernel
end
section
theorem dX3_init_0 : decode cX3_init 0 = .ok (.aload_n 0, 1) := by decide +kernel
theorem dX3_init_1 : decode cX3_init 1 = .ok (.invokespecial 1, 3) := by decide +kernel
theorem dX3_init_4 : decode cX3_init 4 = .ok (.aload_n 0, 1) := by decide +kernel
theorem dX3_init_5 : decode cX3_init 5 = .ok (.bipush 36, 2) := by decide +kernel
theorem dX3_init_7 : decode cX3_init 7 = .ok (.newarray .int, 2) := by decide +kernel
theorem dX3_init_9 : decode cX3_init 9 = .ok (.putfield 9, 3) := by decide +kernel
theorem dX3_init_12 : decode cX3_init 12 = .ok (.aload_n 0, 1) := by decide +kernel
theorem dX3_init_13 : decode cX3_init 13 = .ok (.bipush 6, 2) := by decide +kernel
theorem dX3_init_15 : decode cX3_init 15 = .ok (.newarray .int, 2) := by decide +kernel
theorem dX3_init_17 : decode cX3_init 17 = .ok (.putfield 13, 3) := by decide +kernel
theorem dX3_init_20 : decode cX3_init 20 = .ok (.aload_n 0, 1) := by decide +kernel
theorem dX3_init_21 : decode cX3_init 21 = .ok (.bipush 6, 2) := by decide +kernel
theorem dX3_init_23 : decode cX3_init 23 = .ok (.newarray .int, 2) := by decide +kernel
theorem dX3_init_25 : decode cX3_init 25 = .ok (.putfield 16, 3) := by decide +kernel
theorem dX3_init_28 : decode cX3_init 28 = .ok (.aload_n 0, 1) := by decide +kernel
theorem dX3_init_29 : decode cX3_init 29 = .ok (.bipush 6, 2) := by decide +kernel
theorem dX3_init_31 : decode cX3_init 31 = .ok (.newarray .int, 2) := by decide +kernel
theorem dX3_init_33 : decode cX3_init 33 = .ok (.putfield 19, 3) := by decide +kernel
theorem dX3_init_36 : decode cX3_init 36 = .ok (.aload_n 0, 1) := by decide +kernel
theorem dX3_init_37 : decode cX3_init 37 = .ok (.bipush 6, 2) := by decide +kernel
theorem dX3_init_39 : decode cX3_init 39 = .ok (.newarray .int, 2) := by decide +kernel
theorem dX3_init_41 : decode cX3_init 41 = .ok (.putfield 22, 3) := by decide +kernel
theorem dX3_init_44 : decode cX3_init 44 = .ok (.aload_n 0, 1) := by decide +kernel
theorem dX3_init_45 : decode cX3_init 45 = .ok (.iconst (-1), 1) := by decide +kernel
theorem dX3_init_46 : decode cX3_init 46 = .ok (.putfield 25, 3) := by decide +kernel
theorem dX3_init_49 : decode cX3_init 49 = .ok (.aload_n 0, 1) := by decide +kernel
theorem dX3_init_50 : decode cX3_init 50 = .ok (.iconst (-1), 1) := by decide +kernel
theorem dX3_init_51 : decode cX3_init 51 = .ok (.putfield 29, 3) := by decide +kernel
theorem dX3_init_54 : decode cX3_init 54 = .ok (.aload_n 0, 1) := by decide +kernel
theorem dX3_init_55 : decode cX3_init 55 = .ok (.iconst (-1), 1) := by decide +kernel
theorem dX3_init_56 : decode cX3_init 56 = .ok (.putfield 32, 3) := by decide +kernel
theorem dX3_init_59 : decode cX3_init 59 = .ok (.return_, 1) := by decide +kernel
theorem dX3_thrown_0 : decode cX3_thrown 0 = .ok (.aload_n 0, 1) := by decide +kernel
theorem dX3_thrown_1 : decode cX3_thrown 1 = .ok (.getfield 35, 3) := by decide +kernel
theorem dX3_thrown_4 : decode cX3_thrown 4 = .ok (.ireturn, 1) := by decide +kernel
theorem dX3_fail_0 : decode cX3_fail 0 = .ok (.aload_n 0, 1) := by decide +kernel
theorem dX3_fail_1 : decode cX3_fail 1 = .ok (.iload_n 1, 1) := by decide +kernel
theorem dX3_fail_2 : decode cX3_fail 2 = .ok (.putfield 35, 3) := by decide +kernel
theorem dX3_fail_5 : decode cX3_fail 5 = .ok (.iconst 0, 1) := by decide +kernel
theorem dX3_fail_6 : decode cX3_fail 6 = .ok (.ireturn, 1) := by decide +kernel
theorem dX3_isIn_0 : decode cX3_isIn 0 = .ok (.iload_n 0, 1) := by decide +kernel
theorem dX3_isIn_1 : decode cX3_isIn 1 = .ok (.iload_n 1, 1) := by decide +kernel
theorem dX3_isIn_2 : decode cX3_isIn 2 = .ok (.if_icmp .lt 12, 3) := by decide +kernel
theorem dX3_isIn_5 : decode cX3_isIn 5 = .ok (.iload_n 0, 1) := by decide +kernel
theorem dX3_isIn_6 : decode cX3_isIn 6 = .ok (.iload_n 2, 1) := by decide +kernel
theorem dX3_isIn_7 : decode cX3_isIn 7 = .ok (.if_icmp .gt 7, 3) := by decide +kernel
theorem dX3_isIn_10 : decode cX3_isIn 10 = .ok (.iconst 1, 1) := by decide +kernel
theorem dX3_isIn_11 : decode cX3_isIn 11 = .ok (.goto 4, 3) := by decide +kernel
theorem dX3_isIn_14 : decode cX3_isIn 14 = .ok (.iconst 0, 1) := by decide +kernel
theorem dX3_isIn_15 : decode cX3_isIn 15 = .ok (.ireturn, 1) := by decide +kernel
set_option maxRecDepth 20000 in
theorem ggX3_isOne_X3_isIn : GoodIn wsX3_isOne wsX3_isIn := goodIn_r _ [5] rfl (by decide +kernel)
set_option maxRecDepth 20000 in
theorem gX3_isOne_X3_isIn : GoodIn wsX3_isOne (va_wsS RX3 41 yX3_isIn wsX3_isIn) := goodIn_app (goodIn_of _ (by decide +kernel)) ggX3_isOne_X3_isIn
theorem dX3_isOne_0 : decode cX3_isOne 0 = .ok (.iload_n 1, 1) := by decide +kernel
theorem dX3_isOne_1 : decode cX3_isOne 1 = .ok (.iconst 0, 1) := by decide +kernel
theorem dX3_isOne_2 : decode cX3_isOne 2 = .ok (.aload_n 0, 1) := by decide +kernel
theorem dX3_isOne_3 : decode cX3_isOne 3 = .ok (.getfield 38, 3) := by decide +kernel
theorem dX3_isOne_6 : decode cX3_isOne 6 = .ok (.iconst 1, 1) := by decide +kernel
theorem dX3_isOne_7 : decode cX3_isOne 7 = .ok (.isub, 1) := by decide +kernel
theorem dX3_isOne_8 : decode cX3_isOne 8 = .ok (.invokestatic 41, 3) := by decide +kernel
theorem dX3_isOne_11 : decode cX3_isOne 11 = .ok (.ireturn, 1) := by decide +kernel
theorem dX3_bi_0 : decode cX3_bi 0 = .ok (.aload_n 0, 1) := by decide +kernel
theorem dX3_bi_1 : decode cX3_bi 1 = .ok (.getfield 9, 3) := by decide +kernel
theorem dX3_bi_4 : decode cX3_bi 4 = .ok (.bipush 6, 2) := by decide +kernel
theorem dX3_bi_6 : decode cX3_bi 6 = .ok (.iload_n 1, 1) := by decide +kernel
theorem dX3_bi_7 : decode cX3_bi 7 = .ok (.imul, 1) := by decide +kernel
theorem dX3_bi_8 : decode cX3_bi 8 = .ok (.iload_n 2, 1) := by decide +kernel
theorem dX3_bi_9 : decode cX3_bi 9 = .ok (.iadd, 1) := by decide +kernel
theorem dX3_bi_10 : decode cX3_bi 10 = .ok (.iaload, 1) := by decide +kernel
theorem dX3_bi_11 : decode cX3_bi 11 = .ok (.ireturn, 1) := by decide +kernel
set_option maxRecDepth 20000 in
theorem ggX3_come_X3_fail : GoodIn wsX3_come wsX3_fail := goodIn_r _ [8, 1, 9, 10, 11, 12, 13, 14, 15, 16, 17, 18, 19, 20, 21, 22, 23] rfl (by decide +kernel)
set_option maxRecDepth 20000 in
theorem gX3_come_X3_fail : GoodIn wsX3_come (wsV RX3 45 RX3 yX3_fail wsX3_fail) := goodIn_app (goodIn_of _ (by decide +kernel)) ggX3_come_X3_fail
theorem dX3_come_0 : decode cX3_come 0 = .ok (.aload_n 0, 1) := by decide +kernel
theorem dX3_come_1 : decode cX3_come 1 = .ok (.iconst 0, 1) := by decide +kernel
theorem dX3_come_2 : decode cX3_come 2 = .ok (.putfield 35, 3) := by decide +kernel
theorem dX3_come_5 : decode cX3_come 5 = .ok (.aload_n 0, 1) := by decide +kernel
theorem dX3_come_6 : decode cX3_come 6 = .ok (.getfield 38, 3) := by decide +kernel
theorem dX3_come_9 : decode cX3_come 9 = .ok (.bipush 6, 2) := by decide +kernel
theorem dX3_come_11 : decode cX3_come 11 = .ok (.if_icmp .ne 9, 3) := by decide +kernel
theorem dX3_come_14 : decode cX3_come 14 = .ok (.aload_n 0, 1) := by decide +kernel
theorem dX3_come_15 : decode cX3_come 15 = .ok (.iconst 1, 1) := by decide +kernel
theorem dX3_come_16 : decode cX3_come 16 = .ok (.invokevirtual 45, 3) := by decide +kernel
theorem dX3_come_19 : decode cX3_come 19 = .ok (.ireturn, 1) := by decide +kernel
theorem dX3_come_20 : decode cX3_come 20 = .ok (.iconst 0, 1) := by decide +kernel
theorem dX3_come_21 : decode cX3_come 21 = .ok (.istore_n 1, 1) := by decide +kernel
theorem dX3_come_22 : decode cX3_come 22 = .ok (.iload_n 1, 1) := by decide +kernel
theorem dX3_come_23 : decode cX3_come 23 = .ok (.aload_n 0, 1) := by decide +kernel
theorem dX3_come_24 : decode cX3_come 24 = .ok (.getfield 38, 3) := by decide +kernel
theorem dX3_come_27 : decode cX3_come 27 = .ok (.if_icmp .gt 39, 3) := by decide +kernel
theorem dX3_come_30 : decode cX3_come 30 = .ok (.aload_n 0, 1) := by decide +kernel
theorem dX3_come_31 : decode cX3_come 31 = .ok (.getfield 9, 3) := by decide +kernel
theorem dX3_come_34 : decode cX3_come 34 = .ok (.bipush 6, 2) := by decide +kernel
theorem dX3_come_36 : decode cX3_come 36 = .ok (.iload_n 1, 1) := by decide +kernel
theorem dX3_come_37 : decode cX3_come 37 = .ok (.imul, 1) := by decide +kernel
theorem dX3_come_38 : decode cX3_come 38 = .ok (.aload_n 0, 1) := by decide +kernel
theorem dX3_come_39 : decode cX3_come 39 = .ok (.getfield 38, 3) := by decide +kernel
theorem dX3_come_42 : decode cX3_come 42 = .ok (.iadd, 1) := by decide +kernel
theorem dX3_come_43 : decode cX3_come 43 = .ok (.iconst 0, 1) := by decide +kernel
theorem dX3_come_44 : decode cX3_come 44 = .ok (.iastore, 1) := by decide +kernel
theorem dX3_come_45 : decode cX3_come 45 = .ok (.aload_n 0, 1) := by decide +kernel
theorem dX3_come_46 : decode cX3_come 46 = .ok (.getfield 9, 3) := by decide +kernel
theorem dX3_come_49 : decode cX3_come 49 = .ok (.bipush 6, 2) := by decide +kernel
theorem dX3_come_51 : decode cX3_come 51 = .ok (.aload_n 0, 1) := by decide +kernel
theorem dX3_come_52 : decode cX3_come 52 = .ok (.getfield 38, 3) := by decide +kernel
theorem dX3_come_55 : decode cX3_come 55 = .ok (.imul, 1) := by decide +kernel
theorem dX3_come_56 : decode cX3_come 56 = .ok (.iload_n 1, 1) := by decide +kernel
theorem dX3_come_57 : decode cX3_come 57 = .ok (.iadd, 1) := by decide +kernel
theorem dX3_come_58 : decode cX3_come 58 = .ok (.iconst 0, 1) := by decide +kernel
theorem dX3_come_59 : decode cX3_come 59 = .ok (.iastore, 1) := by decide +kernel
theorem dX3_come_60 : decode cX3_come 60 = .ok (.iinc 1 1, 3) := by decide +kernel
theorem dX3_come_63 : decode cX3_come 63 = .ok (.goto (-41), 3) := by decide +kernel
theorem dX3_come_66 : decode cX3_come 66 = .ok (.aload_n 0, 1) := by decide +kernel
theorem dX3_come_67 : decode cX3_come 67 = .ok (.dup, 1) := by decide +kernel
theorem dX3_come_68 : decode cX3_come 68 = .ok (.getfield 38, 3) := by decide +kernel
theorem dX3_come_71 : decode cX3_come 71 = .ok (.iconst 1, 1) := by decide +kernel
theorem dX3_come_72 : decode cX3_come 72 = .ok (.iadd, 1) := by decide +kernel
theorem dX3_come_73 : decode cX3_come 73 = .ok (.putfield 38, 3) := by decide +kernel
theorem dX3_come_76 : decode cX3_come 76 = .ok (.aload_n 0, 1) := by decide +kernel
theorem dX3_come_77 : decode cX3_come 77 = .ok (.getfield 38, 3) := by decide +kernel
theorem dX3_come_80 : decode cX3_come 80 = .ok (.iconst 1, 1) := by decide +kernel
theorem dX3_come_81 : decode cX3_come 81 = .ok (.isub, 1) := by decide +kernel
theorem dX3_come_82 : decode cX3_come 82 = .ok (.ireturn, 1) := by decide +kernel
set_option maxRecDepth 20000 in
theorem ggX3_bid_X3_isOne : GoodIn wsX3_bid wsX3_isOne := goodIn_r _ [7, 8, 9, 10, 6, 11, 20, 21, 22, 23, 24, 25, 26, 27, 28, 29, 30, 31, 32, 33, 34] rfl (by decide +kernel)
set_option maxRecDepth 20000 in
theorem gX3_bid_X3_isOne : GoodIn wsX3_bid (wsV RX3 49 RX3 yX3_isOne wsX3_isOne) := goodIn_app (goodIn_of _ (by decide +kernel)) ggX3_bid_X3_isOne
set_option maxRecDepth 20000 in
theorem ggX3_bid_X3_fail : GoodIn wsX3_bid wsX3_fail := goodIn_r _ [15, 1, 20, 21, 22, 23, 24, 25, 26, 27, 28, 29, 30, 31, 32, 33, 34] rfl (by decide +kernel)
set_option maxRecDepth 20000 in
theorem gX3_bid_X3_fail : GoodIn wsX3_bid (wsV RX3 45 RX3 yX3_fail wsX3_fail) := goodIn_app (goodIn_of _ (by decide +kernel)) ggX3_bid_X3_fail
set_option maxRecDepth 20000 in
theorem ggX3_bid_X3_isIn : GoodIn wsX3_bid wsX3_isIn := goodIn_r _ [11] rfl (by decide +kernel)
set_option maxRecDepth 20000 in
theorem gX3_bid_X3_isIn : GoodIn wsX3_bid (va_wsS RX3 41 yX3_isIn wsX3_isIn) := goodIn_app (goodIn_of _ (by decide +kernel)) ggX3_bid_X3_isIn
set_option maxRecDepth 20000 in
theorem ggX3_bid_X3_bi : GoodIn wsX3_bid wsX3_bi := goodIn_r _ [19, 2, 20, 21, 22, 23, 24, 25, 26, 27, 28, 29, 30, 31, 32, 33, 34] rfl (by decide +kernel)
set_option maxRecDepth 20000 in
theorem gX3_bid_X3_bi : GoodIn wsX3_bid (wsV RX3 53 RX3 yX3_bi wsX3_bi) := goodIn_app (goodIn_of _ (by decide +kernel)) ggX3_bid_X3_bi
theorem dX3_bid_0 : decode cX3_bid 0 = .ok (.aload_n 0, 1) := by decide +kernel
theorem dX3_bid_1 : decode cX3_bid 1 = .ok (.iconst 0, 1) := by decide +kernel
theorem dX3_bid_2 : decode cX3_bid 2 = .ok (.putfield 35, 3) := by decide +kernel
theorem dX3_bid_5 : decode cX3_bid 5 = .ok (.aload_n 0, 1) := by decide +kernel
theorem dX3_bid_6 : decode cX3_bid 6 = .ok (.iload_n 1, 1) := by decide +kernel
theorem dX3_bid_7 : decode cX3_bid 7 = .ok (.invokevirtual 49, 3) := by decide +kernel
theorem dX3_bid_10 : decode cX3_bid 10 = .ok (.ifCond .eq 11, 3) := by decide +kernel
theorem dX3_bid_13 : decode cX3_bid 13 = .ok (.aload_n 0, 1) := by decide +kernel
theorem dX3_bid_14 : decode cX3_bid 14 = .ok (.iload_n 2, 1) := by decide +kernel
theorem dX3_bid_15 : decode cX3_bid 15 = .ok (.invokevirtual 49, 3) := by decide +kernel
theorem dX3_bid_18 : decode cX3_bid 18 = .ok (.ifCond .ne 9, 3) := by decide +kernel
theorem dX3_bid_21 : decode cX3_bid 21 = .ok (.aload_n 0, 1) := by decide +kernel
theorem dX3_bid_22 : decode cX3_bid 22 = .ok (.iconst 1, 1) := by decide +kernel
theorem dX3_bid_23 : decode cX3_bid 23 = .ok (.invokevirtual 45, 3) := by decide +kernel
theorem dX3_bid_26 : decode cX3_bid 26 = .ok (.ireturn, 1) := by decide +kernel
theorem dX3_bid_27 : decode cX3_bid 27 = .ok (.iload_n 3, 1) := by decide +kernel
theorem dX3_bid_28 : decode cX3_bid 28 = .ok (.iconst 0, 1) := by decide +kernel
theorem dX3_bid_29 : decode cX3_bid 29 = .ok (.sipush 999, 3) := by decide +kernel
theorem dX3_bid_32 : decode cX3_bid 32 = .ok (.invokestatic 41, 3) := by decide +kernel
theorem dX3_bid_35 : decode cX3_bid 35 = .ok (.ifCond .ne 9, 3) := by decide +kernel
theorem dX3_bid_38 : decode cX3_bid 38 = .ok (.aload_n 0, 1) := by decide +kernel
theorem dX3_bid_39 : decode cX3_bid 39 = .ok (.iconst 2, 1) := by decide +kernel
theorem dX3_bid_40 : decode cX3_bid 40 = .ok (.invokevirtual 45, 3) := by decide +kernel
theorem dX3_bid_43 : decode cX3_bid 43 = .ok (.ireturn, 1) := by decide +kernel
theorem dX3_bid_44 : decode cX3_bid 44 = .ok (.aload_n 0, 1) := by decide +kernel
theorem dX3_bid_45 : decode cX3_bid 45 = .ok (.iload_n 1, 1) := by decide +kernel
theorem dX3_bid_46 : decode cX3_bid 46 = .ok (.iload_n 2, 1) := by decide +kernel
theorem dX3_bid_47 : decode cX3_bid 47 = .ok (.invokevirtual 53, 3) := by decide +kernel
theorem dX3_bid_50 : decode cX3_bid 50 = .ok (.istore 4, 2) := by decide +kernel
theorem dX3_bid_52 : decode cX3_bid 52 = .ok (.aload_n 0, 1) := by decide +kernel
theorem dX3_bid_53 : decode cX3_bid 53 = .ok (.getfield 9, 3) := by decide +kernel
theorem dX3_bid_56 : decode cX3_bid 56 = .ok (.bipush 6, 2) := by decide +kernel
theorem dX3_bid_58 : decode cX3_bid 58 = .ok (.iload_n 1, 1) := by decide +kernel
theorem dX3_bid_59 : decode cX3_bid 59 = .ok (.imul, 1) := by decide +kernel
theorem dX3_bid_60 : decode cX3_bid 60 = .ok (.iload_n 2, 1) := by decide +kernel
theorem dX3_bid_61 : decode cX3_bid 61 = .ok (.iadd, 1) := by decide +kernel
theorem dX3_bid_62 : decode cX3_bid 62 = .ok (.iload_n 3, 1) := by decide +kernel
theorem dX3_bid_63 : decode cX3_bid 63 = .ok (.iastore, 1) := by decide +kernel
theorem dX3_bid_64 : decode cX3_bid 64 = .ok (.iload 4, 2) := by decide +kernel
theorem dX3_bid_66 : decode cX3_bid 66 = .ok (.ireturn, 1) := by decide +kernel
set_option maxRecDepth 20000 in
theorem ggX3_rent_X3_isIn : GoodIn wsX3_rent wsX3_isIn := goodIn_r _ [6] rfl (by decide +kernel)
set_option maxRecDepth 20000 in
theorem gX3_rent_X3_isIn : GoodIn wsX3_rent (va_wsS RX3 41 yX3_isIn wsX3_isIn) := goodIn_app (goodIn_of _ (by decide +kernel)) ggX3_rent_X3_isIn
set_option maxRecDepth 20000 in
theorem ggX3_rent_X3_fail : GoodIn wsX3_rent wsX3_fail := goodIn_r _ [10, 1, 11, 12, 13, 14, 15, 16, 17, 18, 19, 20, 21, 22, 23, 24, 25] rfl (by decide +kernel)
set_option maxRecDepth 20000 in
theorem gX3_rent_X3_fail : GoodIn wsX3_rent (wsV RX3 45 RX3 yX3_fail wsX3_fail) := goodIn_app (goodIn_of _ (by decide +kernel)) ggX3_rent_X3_fail
theorem dX3_rent_0 : decode cX3_rent 0 = .ok (.aload_n 0, 1) := by decide +kernel
theorem dX3_rent_1 : decode cX3_rent 1 = .ok (.iconst 0, 1) := by decide +kernel
theorem dX3_rent_2 : decode cX3_rent 2 = .ok (.putfield 35, 3) := by decide +kernel
theorem dX3_rent_5 : decode cX3_rent 5 = .ok (.iload_n 1, 1) := by decide +kernel
theorem dX3_rent_6 : decode cX3_rent 6 = .ok (.iconst 0, 1) := by decide +kernel
theorem dX3_rent_7 : decode cX3_rent 7 = .ok (.sipush 5999, 3) := by decide +kernel
theorem dX3_rent_10 : decode cX3_rent 10 = .ok (.invokestatic 41, 3) := by decide +kernel
theorem dX3_rent_13 : decode cX3_rent 13 = .ok (.ifCond .ne 9, 3) := by decide +kernel
theorem dX3_rent_16 : decode cX3_rent 16 = .ok (.aload_n 0, 1) := by decide +kernel
theorem dX3_rent_17 : decode cX3_rent 17 = .ok (.iconst 1, 1) := by decide +kernel
theorem dX3_rent_18 : decode cX3_rent 18 = .ok (.invokevirtual 45, 3) := by decide +kernel
theorem dX3_rent_21 : decode cX3_rent 21 = .ok (.ireturn, 1) := by decide +kernel
theorem dX3_rent_22 : decode cX3_rent 22 = .ok (.aload_n 0, 1) := by decide +kernel
theorem dX3_rent_23 : decode cX3_rent 23 = .ok (.getfield 57, 3) := by decide +kernel
theorem dX3_rent_26 : decode cX3_rent 26 = .ok (.istore_n 2, 1) := by decide +kernel
theorem dX3_rent_27 : decode cX3_rent 27 = .ok (.aload_n 0, 1) := by decide +kernel
theorem dX3_rent_28 : decode cX3_rent 28 = .ok (.iload_n 1, 1) := by decide +kernel
theorem dX3_rent_29 : decode cX3_rent 29 = .ok (.putfield 57, 3) := by decide +kernel
theorem dX3_rent_32 : decode cX3_rent 32 = .ok (.iload_n 2, 1) := by decide +kernel
theorem dX3_rent_33 : decode cX3_rent 33 = .ok (.ireturn, 1) := by decide +kernel
theorem dX3_isTaken_0 : decode cX3_isTaken 0 = .ok (.iconst 0, 1) := by decide +kernel
theorem dX3_isTaken_1 : decode cX3_isTaken 1 = .ok (.istore_n 3, 1) := by decide +kernel
theorem dX3_isTaken_2 : decode cX3_isTaken 2 = .ok (.iload_n 3, 1) := by decide +kernel
theorem dX3_isTaken_3 : decode cX3_isTaken 3 = .ok (.iload_n 1, 1) := by decide +kernel
theorem dX3_isTaken_4 : decode cX3_isTaken 4 = .ok (.if_icmp .ge 21, 3) := by decide +kernel
theorem dX3_isTaken_7 : decode cX3_isTaken 7 = .ok (.aload_n 0, 1) := by decide +kernel
theorem dX3_isTaken_8 : decode cX3_isTaken 8 = .ok (.getfield 22, 3) := by decide +kernel
theorem dX3_isTaken_11 : decode cX3_isTaken 11 = .ok (.iload_n 3, 1) := by decide +kernel
theorem dX3_isTaken_12 : decode cX3_isTaken 12 = .ok (.iaload, 1) := by decide +kernel
theorem dX3_isTaken_13 : decode cX3_isTaken 13 = .ok (.iload_n 2, 1) := by decide +kernel
theorem dX3_isTaken_14 : decode cX3_isTaken 14 = .ok (.if_icmp .ne 5, 3) := by decide +kernel
theorem dX3_isTaken_17 : decode cX3_isTaken 17 = .ok (.iconst 1, 1) := by decide +kernel
theorem dX3_isTaken_18 : decode cX3_isTaken 18 = .ok (.ireturn, 1) := by decide +kernel
theorem dX3_isTaken_19 : decode cX3_isTaken 19 = .ok (.iinc 3 1, 3) := by decide +kernel
theorem dX3_isTaken_22 : decode cX3_isTaken 22 = .ok (.goto (-20), 3) := by decide +kernel
theorem dX3_isTaken_25 : decode cX3_isTaken 25 = .ok (.iload_n 1, 1) := by decide +kernel
theorem dX3_isTaken_26 : decode cX3_isTaken 26 = .ok (.aload_n 0, 1) := by decide +kernel
theorem dX3_isTaken_27 : decode cX3_isTaken 27 = .ok (.getfield 29, 3) := by decide +kernel
theorem dX3_isTaken_30 : decode cX3_isTaken 30 = .ok (.if_icmp .ne 27, 3) := by decide +kernel
theorem dX3_isTaken_33 : decode cX3_isTaken 33 = .ok (.aload_n 0, 1) := by decide +kernel
theorem dX3_isTaken_34 : decode cX3_isTaken 34 = .ok (.getfield 60, 3) := by decide +kernel
theorem dX3_isTaken_37 : decode cX3_isTaken 37 = .ok (.iload_n 2, 1) := by decide +kernel
theorem dX3_isTaken_38 : decode cX3_isTaken 38 = .ok (.aload_n 0, 1) := by decide +kernel
theorem dX3_isTaken_39 : decode cX3_isTaken 39 = .ok (.getfield 32, 3) := by decide +kernel
theorem dX3_isTaken_42 : decode cX3_isTaken 42 = .ok (.if_icmp .ne 7, 3) := by decide +kernel
theorem dX3_isTaken_45 : decode cX3_isTaken 45 = .ok (.iconst 1, 1) := by decide +kernel
theorem dX3_isTaken_46 : decode cX3_isTaken 46 = .ok (.goto 4, 3) := by decide +kernel
theorem dX3_isTaken_49 : decode cX3_isTaken 49 = .ok (.iconst 0, 1) := by decide +kernel
theorem dX3_isTaken_50 : decode cX3_isTaken 50 = .ok (.if_icmp .eq 7, 3) := by decide +kernel
theorem dX3_isTaken_53 : decode cX3_isTaken 53 = .ok (.iconst 1, 1) := by decide +kernel
theorem dX3_isTaken_54 : decode cX3_isTaken 54 = .ok (.goto 4, 3) := by decide +kernel
theorem dX3_isTaken_57 : decode cX3_isTaken 57 = .ok (.iconst 0, 1) := by decide +kernel
theorem dX3_isTaken_58 : decode cX3_isTaken 58 = .ok (.ireturn, 1) := by decide +kernel
set_option maxRecDepth 20000 in
theorem ggX3_tryFrom_X3_isTaken : GoodIn wsX3_tryFrom wsX3_isTaken := goodIn_r _ [15, 4, 16, 17, 18, 27, 28, 29, 30, 31, 32, 33, 34, 35, 36, 37, 38, 39, 40, 41] rfl (by decide +kernel)
set_option maxRecDepth 20000 in
theorem gX3_tryFrom_X3_isTaken : GoodIn wsX3_tryFrom (wsV RX3 76 RX3 yX3_isTaken wsX3_isTaken) := goodIn_app (goodIn_of _ (by decide +kernel)) ggX3_tryFrom_X3_isTaken
set_option maxRecDepth 20000 in
theorem ggX3_tryFrom_X3_bi : GoodIn wsX3_tryFrom wsX3_bi := goodIn_r _ [22, 23, 27, 28, 29, 30, 31, 32, 33, 34, 35, 36, 37, 38, 39, 40, 41] rfl (by decide +kernel)
set_option maxRecDepth 20000 in
theorem gX3_tryFrom_X3_bi : GoodIn wsX3_tryFrom (wsV RX3 53 RX3 yX3_bi wsX3_bi) := goodIn_app (goodIn_of _ (by decide +kernel)) ggX3_tryFrom_X3_bi
set_option maxRecDepth 20000 in
theorem ggX3_tryFrom_X3_tryFrom : GoodIn wsX3_tryFrom wsX3_tryFrom := goodIn_r _ [0, 1, 2, 3, 4, 5, 6, 7, 8, 9, 10, 11, 12, 13, 14, 15, 16, 17, 18, 19, 20, 21, 22, 23, 24, 25, 26, 27, 28, 29, 30, 31, 32, 33, 34, 35, 36, 37, 38, 39, 40, 41] rfl (by decide +kernel)
set_option maxRecDepth 20000 in
theorem gX3_tryFrom_X3_tryFrom : GoodIn wsX3_tryFrom (wsV RX3 80 RX3 yX3_tryFrom wsX3_tryFrom) := goodIn_app (goodIn_of _ (by decide +kernel)) ggX3_tryFrom_X3_tryFrom
theorem dX3_tryFrom_0 : decode cX3_tryFrom 0 = .ok (.iload_n 1, 1) := by decide +kernel
theorem dX3_tryFrom_1 : decode cX3_tryFrom 1 = .ok (.aload_n 0, 1) := by decide +kernel
theorem dX3_tryFrom_2 : decode cX3_tryFrom 2 = .ok (.getfield 38, 3) := by decide +kernel
theorem dX3_tryFrom_5 : decode cX3_tryFrom 5 = .ok (.if_icmp .ne 72, 3) := by decide +kernel
theorem dX3_tryFrom_8 : decode cX3_tryFrom 8 = .ok (.aload_n 0, 1) := by decide +kernel
theorem dX3_tryFrom_9 : decode cX3_tryFrom 9 = .ok (.iload_n 2, 1) := by decide +kernel
theorem dX3_tryFrom_10 : decode cX3_tryFrom 10 = .ok (.aload_n 0, 1) := by decide +kernel
theorem dX3_tryFrom_11 : decode cX3_tryFrom 11 = .ok (.getfield 64, 3) := by decide +kernel
theorem dX3_tryFrom_14 : decode cX3_tryFrom 14 = .ok (.if_icmp .le 7, 3) := by decide +kernel
theorem dX3_tryFrom_17 : decode cX3_tryFrom 17 = .ok (.iconst 1, 1) := by decide +kernel
theorem dX3_tryFrom_18 : decode cX3_tryFrom 18 = .ok (.goto 24, 3) := by decide +kernel
theorem dX3_tryFrom_21 : decode cX3_tryFrom 21 = .ok (.iload_n 2, 1) := by decide +kernel
theorem dX3_tryFrom_22 : decode cX3_tryFrom 22 = .ok (.aload_n 0, 1) := by decide +kernel
theorem dX3_tryFrom_23 : decode cX3_tryFrom 23 = .ok (.getfield 64, 3) := by decide +kernel
theorem dX3_tryFrom_26 : decode cX3_tryFrom 26 = .ok (.if_icmp .ne 12, 3) := by decide +kernel
theorem dX3_tryFrom_29 : decode cX3_tryFrom 29 = .ok (.aload_n 0, 1) := by decide +kernel
theorem dX3_tryFrom_30 : decode cX3_tryFrom 30 = .ok (.getfield 67, 3) := by decide +kernel
theorem dX3_tryFrom_33 : decode cX3_tryFrom 33 = .ok (.iconst 1, 1) := by decide +kernel
theorem dX3_tryFrom_34 : decode cX3_tryFrom 34 = .ok (.iadd, 1) := by decide +kernel
theorem dX3_tryFrom_35 : decode cX3_tryFrom 35 = .ok (.goto 7, 3) := by decide +kernel
theorem dX3_tryFrom_38 : decode cX3_tryFrom 38 = .ok (.aload_n 0, 1) := by decide +kernel
theorem dX3_tryFrom_39 : decode cX3_tryFrom 39 = .ok (.getfield 67, 3) := by decide +kernel
theorem dX3_tryFrom_42 : decode cX3_tryFrom 42 = .ok (.putfield 67, 3) := by decide +kernel
theorem dX3_tryFrom_45 : decode cX3_tryFrom 45 = .ok (.iload_n 2, 1) := by decide +kernel
theorem dX3_tryFrom_46 : decode cX3_tryFrom 46 = .ok (.aload_n 0, 1) := by decide +kernel
theorem dX3_tryFrom_47 : decode cX3_tryFrom 47 = .ok (.getfield 64, 3) := by decide +kernel
theorem dX3_tryFrom_50 : decode cX3_tryFrom 50 = .ok (.if_icmp .gt 4, 3) := by decide +kernel
theorem dX3_tryFrom_53 : decode cX3_tryFrom 53 = .ok (.return_, 1) := by decide +kernel
theorem dX3_tryFrom_54 : decode cX3_tryFrom 54 = .ok (.aload_n 0, 1) := by decide +kernel
theorem dX3_tryFrom_55 : decode cX3_tryFrom 55 = .ok (.iload_n 2, 1) := by decide +kernel
theorem dX3_tryFrom_56 : decode cX3_tryFrom 56 = .ok (.putfield 64, 3) := by decide +kernel
theorem dX3_tryFrom_59 : decode cX3_tryFrom 59 = .ok (.aload_n 0, 1) := by decide +kernel
theorem dX3_tryFrom_60 : decode cX3_tryFrom 60 = .ok (.getfield 22, 3) := by decide +kernel
theorem dX3_tryFrom_63 : decode cX3_tryFrom 63 = .ok (.iconst 0, 1) := by decide +kernel
theorem dX3_tryFrom_64 : decode cX3_tryFrom 64 = .ok (.aload_n 0, 1) := by decide +kernel
theorem dX3_tryFrom_65 : decode cX3_tryFrom 65 = .ok (.getfield 13, 3) := by decide +kernel
theorem dX3_tryFrom_68 : decode cX3_tryFrom 68 = .ok (.iconst 0, 1) := by decide +kernel
theorem dX3_tryFrom_69 : decode cX3_tryFrom 69 = .ok (.aload_n 0, 1) := by decide +kernel
theorem dX3_tryFrom_70 : decode cX3_tryFrom 70 = .ok (.getfield 38, 3) := by decide +kernel
theorem dX3_tryFrom_73 : decode cX3_tryFrom 73 = .ok (.invokestatic 70, 3) := by decide +kernel
theorem dX3_tryFrom_76 : decode cX3_tryFrom 76 = .ok (.return_, 1) := by decide +kernel
theorem dX3_tryFrom_77 : decode cX3_tryFrom 77 = .ok (.iconst 0, 1) := by decide +kernel
theorem dX3_tryFrom_78 : decode cX3_tryFrom 78 = .ok (.istore_n 3, 1) := by decide +kernel
theorem dX3_tryFrom_79 : decode cX3_tryFrom 79 = .ok (.iload_n 3, 1) := by decide +kernel
theorem dX3_tryFrom_80 : decode cX3_tryFrom 80 = .ok (.aload_n 0, 1) := by decide +kernel
theorem dX3_tryFrom_81 : decode cX3_tryFrom 81 = .ok (.getfield 38, 3) := by decide +kernel
theorem dX3_tryFrom_84 : decode cX3_tryFrom 84 = .ok (.if_icmp .ge 55, 3) := by decide +kernel
theorem dX3_tryFrom_87 : decode cX3_tryFrom 87 = .ok (.aload_n 0, 1) := by decide +kernel
theorem dX3_tryFrom_88 : decode cX3_tryFrom 88 = .ok (.iload_n 1, 1) := by decide +kernel
theorem dX3_tryFrom_89 : decode cX3_tryFrom 89 = .ok (.iload_n 3, 1) := by decide +kernel
theorem dX3_tryFrom_90 : decode cX3_tryFrom 90 = .ok (.invokevirtual 76, 3) := by decide +kernel
theorem dX3_tryFrom_93 : decode cX3_tryFrom 93 = .ok (.ifCond .eq 6, 3) := by decide +kernel
theorem dX3_tryFrom_96 : decode cX3_tryFrom 96 = .ok (.goto 37, 3) := by decide +kernel
theorem dX3_tryFrom_99 : decode cX3_tryFrom 99 = .ok (.aload_n 0, 1) := by decide +kernel
theorem dX3_tryFrom_100 : decode cX3_tryFrom 100 = .ok (.getfield 22, 3) := by decide +kernel
theorem dX3_tryFrom_103 : decode cX3_tryFrom 103 = .ok (.iload_n 1, 1) := by decide +kernel
theorem dX3_tryFrom_104 : decode cX3_tryFrom 104 = .ok (.iload_n 3, 1) := by decide +kernel
theorem dX3_tryFrom_105 : decode cX3_tryFrom 105 = .ok (.iastore, 1) := by decide +kernel
theorem dX3_tryFrom_106 : decode cX3_tryFrom 106 = .ok (.aload_n 0, 1) := by decide +kernel
theorem dX3_tryFrom_107 : decode cX3_tryFrom 107 = .ok (.iload_n 1, 1) := by decide +kernel
theorem dX3_tryFrom_108 : decode cX3_tryFrom 108 = .ok (.iconst 1, 1) := by decide +kernel
theorem dX3_tryFrom_109 : decode cX3_tryFrom 109 = .ok (.iadd, 1) := by decide +kernel
theorem dX3_tryFrom_110 : decode cX3_tryFrom 110 = .ok (.iload_n 2, 1) := by decide +kernel
theorem dX3_tryFrom_111 : decode cX3_tryFrom 111 = .ok (.iload_n 1, 1) := by decide +kernel
theorem dX3_tryFrom_112 : decode cX3_tryFrom 112 = .ok (.aload_n 0, 1) := by decide +kernel
theorem dX3_tryFrom_113 : decode cX3_tryFrom 113 = .ok (.getfield 25, 3) := by decide +kernel
theorem dX3_tryFrom_116 : decode cX3_tryFrom 116 = .ok (.if_icmp .ne 7, 3) := by decide +kernel
theorem dX3_tryFrom_119 : decode cX3_tryFrom 119 = .ok (.iconst 0, 1) := by decide +kernel
theorem dX3_tryFrom_120 : decode cX3_tryFrom 120 = .ok (.goto 9, 3) := by decide +kernel
theorem dX3_tryFrom_123 : decode cX3_tryFrom 123 = .ok (.aload_n 0, 1) := by decide +kernel
theorem dX3_tryFrom_124 : decode cX3_tryFrom 124 = .ok (.iload_n 1, 1) := by decide +kernel
theorem dX3_tryFrom_125 : decode cX3_tryFrom 125 = .ok (.iload_n 3, 1) := by decide +kernel
theorem dX3_tryFrom_126 : decode cX3_tryFrom 126 = .ok (.invokevirtual 53, 3) := by decide +kernel
theorem dX3_tryFrom_129 : decode cX3_tryFrom 129 = .ok (.iadd, 1) := by decide +kernel
theorem dX3_tryFrom_130 : decode cX3_tryFrom 130 = .ok (.invokevirtual 80, 3) := by decide +kernel
theorem dX3_tryFrom_133 : decode cX3_tryFrom 133 = .ok (.iinc 3 1, 3) := by decide +kernel
theorem dX3_tryFrom_136 : decode cX3_tryFrom 136 = .ok (.goto (-57), 3) := by decide +kernel
theorem dX3_tryFrom_139 : decode cX3_tryFrom 139 = .ok (.return_, 1) := by decide +kernel
set_option maxRecDepth 20000 in
theorem ggX3_give_X3_tryFrom : GoodIn wsX3_give wsX3_tryFrom := goodIn_r _ [7, 8, 1, 2, 9, 10, 11, 12, 13, 14, 15, 16, 17, 18, 6, 19, 20, 21, 22, 23, 24, 25, 26, 27, 3, 4, 5, 28, 29, 30, 31, 32, 33, 34, 35, 36, 37, 38, 39, 40, 41, 42] rfl (by decide +kernel)
set_option maxRecDepth 20000 in
theorem gX3_give_X3_tryFrom : GoodIn wsX3_give (wsV RX3 80 RX3 yX3_tryFrom wsX3_tryFrom) := goodIn_app (goodIn_of _ (by decide +kernel)) ggX3_give_X3_tryFrom
theorem dX3_give_0 : decode cX3_give 0 = .ok (.aload_n 0, 1) := by decide +kernel
theorem dX3_give_1 : decode cX3_give 1 = .ok (.iconst (-1), 1) := by decide +kernel
theorem dX3_give_2 : decode cX3_give 2 = .ok (.putfield 64, 3) := by decide +kernel
theorem dX3_give_5 : decode cX3_give 5 = .ok (.aload_n 0, 1) := by decide +kernel
theorem dX3_give_6 : decode cX3_give 6 = .ok (.iconst 0, 1) := by decide +kernel
theorem dX3_give_7 : decode cX3_give 7 = .ok (.putfield 67, 3) := by decide +kernel
theorem dX3_give_10 : decode cX3_give 10 = .ok (.aload_n 0, 1) := by decide +kernel
theorem dX3_give_11 : decode cX3_give 11 = .ok (.iconst 0, 1) := by decide +kernel
theorem dX3_give_12 : decode cX3_give 12 = .ok (.iconst 0, 1) := by decide +kernel
theorem dX3_give_13 : decode cX3_give 13 = .ok (.invokevirtual 80, 3) := by decide +kernel
theorem dX3_give_16 : decode cX3_give 16 = .ok (.aload_n 0, 1) := by decide +kernel
theorem dX3_give_17 : decode cX3_give 17 = .ok (.getfield 64, 3) := by decide +kernel
theorem dX3_give_20 : decode cX3_give 20 = .ok (.ireturn, 1) := by decide +kernel
set_option maxRecDepth 20000 in
theorem ggX3_of_X3_bi : GoodIn wsX3_of wsX3_bi := goodIn_r _ [7, 8, 9, 10, 11, 12, 13, 14, 15, 16, 17, 18, 19, 20, 21, 22, 23] rfl (by decide +kernel)
set_option maxRecDepth 20000 in
theorem gX3_of_X3_bi : GoodIn wsX3_of (wsV RX3 53 RX3 yX3_bi wsX3_bi) := goodIn_app (goodIn_of _ (by decide +kernel)) ggX3_of_X3_bi
theorem dX3_of_0 : decode cX3_of 0 = .ok (.aload_n 0, 1) := by decide +kernel
theorem dX3_of_1 : decode cX3_of 1 = .ok (.iload_n 1, 1) := by decide +kernel
theorem dX3_of_2 : decode cX3_of 2 = .ok (.aload_n 0, 1) := by decide +kernel
theorem dX3_of_3 : decode cX3_of 3 = .ok (.getfield 13, 3) := by decide +kernel
theorem dX3_of_6 : decode cX3_of 6 = .ok (.iload_n 2, 1) := by decide +kernel
theorem dX3_of_7 : decode cX3_of 7 = .ok (.iaload, 1) := by decide +kernel
theorem dX3_of_8 : decode cX3_of 8 = .ok (.invokevirtual 53, 3) := by decide +kernel
theorem dX3_of_11 : decode cX3_of 11 = .ok (.aload_n 0, 1) := by decide +kernel
theorem dX3_of_12 : decode cX3_of 12 = .ok (.iload_n 2, 1) := by decide +kernel
theorem dX3_of_13 : decode cX3_of 13 = .ok (.aload_n 0, 1) := by decide +kernel
theorem dX3_of_14 : decode cX3_of 14 = .ok (.getfield 13, 3) := by decide +kernel
theorem dX3_of_17 : decode cX3_of 17 = .ok (.iload_n 2, 1) := by decide +kernel
theorem dX3_of_18 : decode cX3_of 18 = .ok (.iaload, 1) := by decide +kernel
theorem dX3_of_19 : decode cX3_of 19 = .ok (.invokevirtual 53, 3) := by decide +kernel
theorem dX3_of_22 : decode cX3_of 22 = .ok (.isub, 1) := by decide +kernel
theorem dX3_of_23 : decode cX3_of 23 = .ok (.aload_n 0, 1) := by decide +kernel
theorem dX3_of_24 : decode cX3_of 24 = .ok (.getfield 16, 3) := by decide +kernel
theorem dX3_of_27 : decode cX3_of 27 = .ok (.iload_n 2, 1) := by decide +kernel
theorem dX3_of_28 : decode cX3_of 28 = .ok (.iaload, 1) := by decide +kernel
theorem dX3_of_29 : decode cX3_of 29 = .ok (.iadd, 1) := by decide +kernel
theorem dX3_of_30 : decode cX3_of 30 = .ok (.ireturn, 1) := by decide +kernel
set_option maxRecDepth 20000 in
theorem ggX3_isRaised_X3_of : GoodIn wsX3_isRaised wsX3_of := goodIn_r _ [7, 8, 2, 9, 10, 11, 6, 12, 13, 14, 15, 16, 17, 18, 19, 20, 21, 22, 23, 24, 25, 26, 27, 28] rfl (by decide +kernel)
set_option maxRecDepth 20000 in
theorem gX3_isRaised_X3_of : GoodIn wsX3_isRaised (wsV RX3 84 RX3 yX3_of wsX3_of) := goodIn_app (goodIn_of _ (by decide +kernel)) ggX3_isRaised_X3_of
theorem dX3_isRaised_0 : decode cX3_isRaised 0 = .ok (.iconst 0, 1) := by decide +kernel
theorem dX3_isRaised_1 : decode cX3_isRaised 1 = .ok (.istore_n 1, 1) := by decide +kernel
theorem dX3_isRaised_2 : decode cX3_isRaised 2 = .ok (.iconst 0, 1) := by decide +kernel
theorem dX3_isRaised_3 : decode cX3_isRaised 3 = .ok (.istore_n 2, 1) := by decide +kernel
theorem dX3_isRaised_4 : decode cX3_isRaised 4 = .ok (.iload_n 2, 1) := by decide +kernel
theorem dX3_isRaised_5 : decode cX3_isRaised 5 = .ok (.aload_n 0, 1) := by decide +kernel
theorem dX3_isRaised_6 : decode cX3_isRaised 6 = .ok (.getfield 38, 3) := by decide +kernel
theorem dX3_isRaised_9 : decode cX3_isRaised 9 = .ok (.if_icmp .ge 57, 3) := by decide +kernel
theorem dX3_isRaised_12 : decode cX3_isRaised 12 = .ok (.iconst 0, 1) := by decide +kernel
theorem dX3_isRaised_13 : decode cX3_isRaised 13 = .ok (.istore_n 3, 1) := by decide +kernel
theorem dX3_isRaised_14 : decode cX3_isRaised 14 = .ok (.iload_n 3, 1) := by decide +kernel
theorem dX3_isRaised_15 : decode cX3_isRaised 15 = .ok (.aload_n 0, 1) := by decide +kernel
theorem dX3_isRaised_16 : decode cX3_isRaised 16 = .ok (.getfield 38, 3) := by decide +kernel
theorem dX3_isRaised_19 : decode cX3_isRaised 19 = .ok (.if_icmp .ge 41, 3) := by decide +kernel
theorem dX3_isRaised_22 : decode cX3_isRaised 22 = .ok (.aload_n 0, 1) := by decide +kernel
theorem dX3_isRaised_23 : decode cX3_isRaised 23 = .ok (.iload_n 2, 1) := by decide +kernel
theorem dX3_isRaised_24 : decode cX3_isRaised 24 = .ok (.iload_n 3, 1) := by decide +kernel
theorem dX3_isRaised_25 : decode cX3_isRaised 25 = .ok (.invokevirtual 84, 3) := by decide +kernel
theorem dX3_isRaised_28 : decode cX3_isRaised 28 = .ok (.aload_n 0, 1) := by decide +kernel
theorem dX3_isRaised_29 : decode cX3_isRaised 29 = .ok (.getfield 16, 3) := by decide +kernel
theorem dX3_isRaised_32 : decode cX3_isRaised 32 = .ok (.iload_n 2, 1) := by decide +kernel
theorem dX3_isRaised_33 : decode cX3_isRaised 33 = .ok (.iaload, 1) := by decide +kernel
theorem dX3_isRaised_34 : decode cX3_isRaised 34 = .ok (.if_icmp .gt 6, 3) := by decide +kernel
theorem dX3_isRaised_37 : decode cX3_isRaised 37 = .ok (.goto 17, 3) := by decide +kernel
theorem dX3_isRaised_40 : decode cX3_isRaised 40 = .ok (.aload_n 0, 1) := by decide +kernel
theorem dX3_isRaised_41 : decode cX3_isRaised 41 = .ok (.getfield 16, 3) := by decide +kernel
theorem dX3_isRaised_44 : decode cX3_isRaised 44 = .ok (.iload_n 2, 1) := by decide +kernel
theorem dX3_isRaised_45 : decode cX3_isRaised 45 = .ok (.aload_n 0, 1) := by decide +kernel
theorem dX3_isRaised_46 : decode cX3_isRaised 46 = .ok (.iload_n 2, 1) := by decide +kernel
theorem dX3_isRaised_47 : decode cX3_isRaised 47 = .ok (.iload_n 3, 1) := by decide +kernel
theorem dX3_isRaised_48 : decode cX3_isRaised 48 = .ok (.invokevirtual 84, 3) := by decide +kernel
theorem dX3_isRaised_51 : decode cX3_isRaised 51 = .ok (.iastore, 1) := by decide +kernel
theorem dX3_isRaised_52 : decode cX3_isRaised 52 = .ok (.iconst 1, 1) := by decide +kernel
theorem dX3_isRaised_53 : decode cX3_isRaised 53 = .ok (.istore_n 1, 1) := by decide +kernel
theorem dX3_isRaised_54 : decode cX3_isRaised 54 = .ok (.iinc 3 1, 3) := by decide +kernel
theorem dX3_isRaised_57 : decode cX3_isRaised 57 = .ok (.goto (-43), 3) := by decide +kernel
theorem dX3_isRaised_60 : decode cX3_isRaised 60 = .ok (.iinc 2 1, 3) := by decide +kernel
theorem dX3_isRaised_63 : decode cX3_isRaised 63 = .ok (.goto (-59), 3) := by decide +kernel
theorem dX3_isRaised_66 : decode cX3_isRaised 66 = .ok (.iload_n 1, 1) := by decide +kernel
theorem dX3_isRaised_67 : decode cX3_isRaised 67 = .ok (.ireturn, 1) := by decide +kernel
set_option maxRecDepth 20000 in
theorem ggX3_settle_X3_give : GoodIn wsX3_settle wsX3_give := goodIn_r _ [11, 1, 12, 13, 14, 15, 10, 16, 3, 17, 18, 19, 20, 21, 22, 23, 24, 25, 26, 27, 28, 29, 30, 31, 32, 33, 34, 35, 44, 45, 46, 47, 48, 49, 50, 51, 52, 53, 54, 55, 56, 57, 58] rfl (by decide +kernel)
set_option maxRecDepth 20000 in
theorem gX3_settle_X3_give : GoodIn wsX3_settle (wsV RX3 87 RX3 yX3_give wsX3_give) := goodIn_app (goodIn_of _ (by decide +kernel)) ggX3_settle_X3_give
set_option maxRecDepth 20000 in
theorem ggX3_settle_X3_isRaised : GoodIn wsX3_settle wsX3_isRaised := goodIn_r _ [39, 3, 4, 40, 41, 42, 10, 43, 18, 31, 32, 33, 34, 35, 44, 45, 46, 47, 48, 49, 50, 51, 52, 53, 54, 55, 56, 57, 58] rfl (by decide +kernel)
set_option maxRecDepth 20000 in
theorem gX3_settle_X3_isRaised : GoodIn wsX3_settle (wsV RX3 91 RX3 yX3_isRaised wsX3_isRaised) := goodIn_app (goodIn_of _ (by decide +kernel)) ggX3_settle_X3_isRaised
theorem dX3_settle_0 : decode cX3_settle 0 = .ok (.aload_n 0, 1) := by decide +kernel
theorem dX3_settle_1 : decode cX3_settle 1 = .ok (.invokevirtual 87, 3) := by decide +kernel
theorem dX3_settle_4 : decode cX3_settle 4 = .ok (.pop, 1) := by decide +kernel
theorem dX3_settle_5 : decode cX3_settle 5 = .ok (.aload_n 0, 1) := by decide +kernel
theorem dX3_settle_6 : decode cX3_settle 6 = .ok (.getfield 64, 3) := by decide +kernel
theorem dX3_settle_9 : decode cX3_settle 9 = .ok (.aload_n 0, 1) := by decide +kernel
theorem dX3_settle_10 : decode cX3_settle 10 = .ok (.getfield 57, 3) := by decide +kernel
theorem dX3_settle_13 : decode cX3_settle 13 = .ok (.isub, 1) := by decide +kernel
theorem dX3_settle_14 : decode cX3_settle 14 = .ok (.istore_n 1, 1) := by decide +kernel
theorem dX3_settle_15 : decode cX3_settle 15 = .ok (.iconst 0, 1) := by decide +kernel
theorem dX3_settle_16 : decode cX3_settle 16 = .ok (.istore_n 2, 1) := by decide +kernel
theorem dX3_settle_17 : decode cX3_settle 17 = .ok (.iload_n 2, 1) := by decide +kernel
theorem dX3_settle_18 : decode cX3_settle 18 = .ok (.aload_n 0, 1) := by decide +kernel
theorem dX3_settle_19 : decode cX3_settle 19 = .ok (.getfield 38, 3) := by decide +kernel
theorem dX3_settle_22 : decode cX3_settle 22 = .ok (.if_icmp .ge 16, 3) := by decide +kernel
theorem dX3_settle_25 : decode cX3_settle 25 = .ok (.aload_n 0, 1) := by decide +kernel
theorem dX3_settle_26 : decode cX3_settle 26 = .ok (.getfield 16, 3) := by decide +kernel
theorem dX3_settle_29 : decode cX3_settle 29 = .ok (.iload_n 2, 1) := by decide +kernel
theorem dX3_settle_30 : decode cX3_settle 30 = .ok (.iconst 0, 1) := by decide +kernel
theorem dX3_settle_31 : decode cX3_settle 31 = .ok (.iastore, 1) := by decide +kernel
theorem dX3_settle_32 : decode cX3_settle 32 = .ok (.iinc 2 1, 3) := by decide +kernel
theorem dX3_settle_35 : decode cX3_settle 35 = .ok (.goto (-18), 3) := by decide +kernel
theorem dX3_settle_38 : decode cX3_settle 38 = .ok (.aload_n 0, 1) := by decide +kernel
theorem dX3_settle_39 : decode cX3_settle 39 = .ok (.invokevirtual 91, 3) := by decide +kernel
theorem dX3_settle_42 : decode cX3_settle 42 = .ok (.ifCond .eq 6, 3) := by decide +kernel
theorem dX3_settle_45 : decode cX3_settle 45 = .ok (.goto (-7), 3) := by decide +kernel
theorem dX3_settle_48 : decode cX3_settle 48 = .ok (.iconst 0, 1) := by decide +kernel
theorem dX3_settle_49 : decode cX3_settle 49 = .ok (.istore_n 2, 1) := by decide +kernel
theorem dX3_settle_50 : decode cX3_settle 50 = .ok (.iload_n 2, 1) := by decide +kernel
theorem dX3_settle_51 : decode cX3_settle 51 = .ok (.aload_n 0, 1) := by decide +kernel
theorem dX3_settle_52 : decode cX3_settle 52 = .ok (.getfield 38, 3) := by decide +kernel
theorem dX3_settle_55 : decode cX3_settle 55 = .ok (.if_icmp .ge 18, 3) := by decide +kernel
theorem dX3_settle_58 : decode cX3_settle 58 = .ok (.iload_n 1, 1) := by decide +kernel
theorem dX3_settle_59 : decode cX3_settle 59 = .ok (.aload_n 0, 1) := by decide +kernel
theorem dX3_settle_60 : decode cX3_settle 60 = .ok (.getfield 16, 3) := by decide +kernel
theorem dX3_settle_63 : decode cX3_settle 63 = .ok (.iload_n 2, 1) := by decide +kernel
theorem dX3_settle_64 : decode cX3_settle 64 = .ok (.iaload, 1) := by decide +kernel
theorem dX3_settle_65 : decode cX3_settle 65 = .ok (.isub, 1) := by decide +kernel
theorem dX3_settle_66 : decode cX3_settle 66 = .ok (.istore_n 1, 1) := by decide +kernel
theorem dX3_settle_67 : decode cX3_settle 67 = .ok (.iinc 2 1, 3) := by decide +kernel
theorem dX3_settle_70 : decode cX3_settle 70 = .ok (.goto (-20), 3) := by decide +kernel
theorem dX3_settle_73 : decode cX3_settle 73 = .ok (.aload_n 0, 1) := by decide +kernel
theorem dX3_settle_74 : decode cX3_settle 74 = .ok (.getfield 38, 3) := by decide +kernel
theorem dX3_settle_77 : decode cX3_settle 77 = .ok (.ifCond .le 16, 3) := by decide +kernel
theorem dX3_settle_80 : decode cX3_settle 80 = .ok (.iload_n 1, 1) := by decide +kernel
theorem dX3_settle_81 : decode cX3_settle 81 = .ok (.ifCond .le 12, 3) := by decide +kernel
theorem dX3_settle_84 : decode cX3_settle 84 = .ok (.iload_n 1, 1) := by decide +kernel
theorem dX3_settle_85 : decode cX3_settle 85 = .ok (.aload_n 0, 1) := by decide +kernel
theorem dX3_settle_86 : decode cX3_settle 86 = .ok (.getfield 38, 3) := by decide +kernel
theorem dX3_settle_89 : decode cX3_settle 89 = .ok (.idiv, 1) := by decide +kernel
theorem dX3_settle_90 : decode cX3_settle 90 = .ok (.goto 4, 3) := by decide +kernel
theorem dX3_settle_93 : decode cX3_settle 93 = .ok (.iconst 0, 1) := by decide +kernel
theorem dX3_settle_94 : decode cX3_settle 94 = .ok (.istore_n 2, 1) := by decide +kernel
theorem dX3_settle_95 : decode cX3_settle 95 = .ok (.iconst 0, 1) := by decide +kernel
theorem dX3_settle_96 : decode cX3_settle 96 = .ok (.istore_n 3, 1) := by decide +kernel
theorem dX3_settle_97 : decode cX3_settle 97 = .ok (.iload_n 3, 1) := by decide +kernel
theorem dX3_settle_98 : decode cX3_settle 98 = .ok (.aload_n 0, 1) := by decide +kernel
theorem dX3_settle_99 : decode cX3_settle 99 = .ok (.getfield 38, 3) := by decide +kernel
theorem dX3_settle_102 : decode cX3_settle 102 = .ok (.if_icmp .ge 23, 3) := by decide +kernel
theorem dX3_settle_105 : decode cX3_settle 105 = .ok (.aload_n 0, 1) := by decide +kernel
theorem dX3_settle_106 : decode cX3_settle 106 = .ok (.getfield 19, 3) := by decide +kernel
theorem dX3_settle_109 : decode cX3_settle 109 = .ok (.iload_n 3, 1) := by decide +kernel
theorem dX3_settle_110 : decode cX3_settle 110 = .ok (.aload_n 0, 1) := by decide +kernel
theorem dX3_settle_111 : decode cX3_settle 111 = .ok (.getfield 16, 3) := by decide +kernel
theorem dX3_settle_114 : decode cX3_settle 114 = .ok (.iload_n 3, 1) := by decide +kernel
theorem dX3_settle_115 : decode cX3_settle 115 = .ok (.iaload, 1) := by decide +kernel
theorem dX3_settle_116 : decode cX3_settle 116 = .ok (.iload_n 2, 1) := by decide +kernel
theorem dX3_settle_117 : decode cX3_settle 117 = .ok (.iadd, 1) := by decide +kernel
theorem dX3_settle_118 : decode cX3_settle 118 = .ok (.iastore, 1) := by decide +kernel
theorem dX3_settle_119 : decode cX3_settle 119 = .ok (.iinc 3 1, 3) := by decide +kernel
theorem dX3_settle_122 : decode cX3_settle 122 = .ok (.goto (-25), 3) := by decide +kernel
theorem dX3_settle_125 : decode cX3_settle 125 = .ok (.aload_n 0, 1) := by decide +kernel
theorem dX3_settle_126 : decode cX3_settle 126 = .ok (.iload_n 1, 1) := by decide +kernel
theorem dX3_settle_127 : decode cX3_settle 127 = .ok (.iload_n 2, 1) := by decide +kernel
theorem dX3_settle_128 : decode cX3_settle 128 = .ok (.aload_n 0, 1) := by decide +kernel
theorem dX3_settle_129 : decode cX3_settle 129 = .ok (.getfield 38, 3) := by decide +kernel
theorem dX3_settle_132 : decode cX3_settle 132 = .ok (.imul, 1) := by decide +kernel
theorem dX3_settle_133 : decode cX3_settle 133 = .ok (.isub, 1) := by decide +kernel
theorem dX3_settle_134 : decode cX3_settle 134 = .ok (.putfield 95, 3) := by decide +kernel
theorem dX3_settle_137 : decode cX3_settle 137 = .ok (.return_, 1) := by decide +kernel
set_option maxRecDepth 20000 in
theorem ggX3_pays_X3_bi : GoodIn wsX3_pays wsX3_bi := goodIn_r _ [7, 8, 9, 10, 11, 12, 13, 14, 15, 16, 17, 18, 19, 20, 21, 22, 23] rfl (by decide +kernel)
set_option maxRecDepth 20000 in
theorem gX3_pays_X3_bi : GoodIn wsX3_pays (wsV RX3 53 RX3 yX3_bi wsX3_bi) := goodIn_app (goodIn_of _ (by decide +kernel)) ggX3_pays_X3_bi
theorem dX3_pays_0 : decode cX3_pays 0 = .ok (.aload_n 0, 1) := by decide +kernel
theorem dX3_pays_1 : decode cX3_pays 1 = .ok (.iload_n 1, 1) := by decide +kernel
theorem dX3_pays_2 : decode cX3_pays 2 = .ok (.aload_n 0, 1) := by decide +kernel
theorem dX3_pays_3 : decode cX3_pays 3 = .ok (.getfield 13, 3) := by decide +kernel
theorem dX3_pays_6 : decode cX3_pays 6 = .ok (.iload_n 1, 1) := by decide +kernel
theorem dX3_pays_7 : decode cX3_pays 7 = .ok (.iaload, 1) := by decide +kernel
theorem dX3_pays_8 : decode cX3_pays 8 = .ok (.invokevirtual 53, 3) := by decide +kernel
theorem dX3_pays_11 : decode cX3_pays 11 = .ok (.aload_n 0, 1) := by decide +kernel
theorem dX3_pays_12 : decode cX3_pays 12 = .ok (.getfield 19, 3) := by decide +kernel
theorem dX3_pays_15 : decode cX3_pays 15 = .ok (.iload_n 1, 1) := by decide +kernel
theorem dX3_pays_16 : decode cX3_pays 16 = .ok (.iaload, 1) := by decide +kernel
theorem dX3_pays_17 : decode cX3_pays 17 = .ok (.isub, 1) := by decide +kernel
theorem dX3_pays_18 : decode cX3_pays 18 = .ok (.ireturn, 1) := by decide +kernel
set_option maxRecDepth 20000 in
theorem ggX3_isEnvy_X3_bi : GoodIn wsX3_isEnvy wsX3_bi := goodIn_r _ [6, 7, 8, 9, 10, 11, 12, 13, 14, 15, 16, 17, 18, 19, 20, 21, 22] rfl (by decide +kernel)
set_option maxRecDepth 20000 in
theorem gX3_isEnvy_X3_bi : GoodIn wsX3_isEnvy (wsV RX3 53 RX3 yX3_bi wsX3_bi) := goodIn_app (goodIn_of _ (by decide +kernel)) ggX3_isEnvy_X3_bi
theorem dX3_isEnvy_0 : decode cX3_isEnvy 0 = .ok (.aload_n 0, 1) := by decide +kernel
theorem dX3_isEnvy_1 : decode cX3_isEnvy 1 = .ok (.iload_n 1, 1) := by decide +kernel
theorem dX3_isEnvy_2 : decode cX3_isEnvy 2 = .ok (.aload_n 0, 1) := by decide +kernel
theorem dX3_isEnvy_3 : decode cX3_isEnvy 3 = .ok (.getfield 13, 3) := by decide +kernel
theorem dX3_isEnvy_6 : decode cX3_isEnvy 6 = .ok (.iload_n 2, 1) := by decide +kernel
theorem dX3_isEnvy_7 : decode cX3_isEnvy 7 = .ok (.iaload, 1) := by decide +kernel
theorem dX3_isEnvy_8 : decode cX3_isEnvy 8 = .ok (.invokevirtual 53, 3) := by decide +kernel
theorem dX3_isEnvy_11 : decode cX3_isEnvy 11 = .ok (.aload_n 0, 1) := by decide +kernel
theorem dX3_isEnvy_12 : decode cX3_isEnvy 12 = .ok (.iload_n 1, 1) := by decide +kernel
theorem dX3_isEnvy_13 : decode cX3_isEnvy 13 = .ok (.aload_n 0, 1) := by decide +kernel
theorem dX3_isEnvy_14 : decode cX3_isEnvy 14 = .ok (.getfield 13, 3) := by decide +kernel
theorem dX3_isEnvy_17 : decode cX3_isEnvy 17 = .ok (.iload_n 1, 1) := by decide +kernel
theorem dX3_isEnvy_18 : decode cX3_isEnvy 18 = .ok (.iaload, 1) := by decide +kernel
theorem dX3_isEnvy_19 : decode cX3_isEnvy 19 = .ok (.invokevirtual 53, 3) := by decide +kernel
theorem dX3_isEnvy_22 : decode cX3_isEnvy 22 = .ok (.if_icmp .le 7, 3) := by decide +kernel
theorem dX3_isEnvy_25 : decode cX3_isEnvy 25 = .ok (.iconst 1, 1) := by decide +kernel
theorem dX3_isEnvy_26 : decode cX3_isEnvy 26 = .ok (.goto 4, 3) := by decide +kernel
theorem dX3_isEnvy_29 : decode cX3_isEnvy 29 = .ok (.iconst 0, 1) := by decide +kernel
theorem dX3_isEnvy_30 : decode cX3_isEnvy 30 = .ok (.ireturn, 1) := by decide +kernel
set_option maxRecDepth 20000 in
theorem ggX3_leave_X3_isOne : GoodIn wsX3_leave wsX3_isOne := goodIn_r _ [9, 3, 10, 11, 8, 12, 60, 61, 62, 63, 64, 65, 66, 67, 68, 69, 70, 71, 72, 73, 74] rfl (by decide +kernel)
set_option maxRecDepth 20000 in
theorem gX3_leave_X3_isOne : GoodIn wsX3_leave (wsV RX3 49 RX3 yX3_isOne wsX3_isOne) := goodIn_app (goodIn_of _ (by decide +kernel)) ggX3_leave_X3_isOne
set_option maxRecDepth 20000 in
theorem ggX3_leave_X3_fail : GoodIn wsX3_leave wsX3_fail := goodIn_r _ [16, 1, 60, 61, 62, 63, 64, 65, 66, 67, 68, 69, 70, 71, 72, 73, 74] rfl (by decide +kernel)
set_option maxRecDepth 20000 in
theorem gX3_leave_X3_fail : GoodIn wsX3_leave (wsV RX3 45 RX3 yX3_fail wsX3_fail) := goodIn_app (goodIn_of _ (by decide +kernel)) ggX3_leave_X3_fail
set_option maxRecDepth 20000 in
theorem ggX3_leave_X3_settle : GoodIn wsX3_leave wsX3_settle := goodIn_r _ [20, 21, 22, 3, 23, 24, 25, 26, 27, 28, 8, 29, 30, 31, 32, 33, 34, 35, 2, 36, 37, 38, 39, 40, 41, 42, 43, 44, 45, 46, 47, 48, 49, 50, 51, 4, 52, 53, 54, 55, 56, 57, 58, 59, 60, 61, 62, 63, 64, 65, 66, 67, 68, 69, 70, 71, 72, 73, 74] rfl (by decide +kernel)
set_option maxRecDepth 20000 in
theorem gX3_leave_X3_settle : GoodIn wsX3_leave (wsV RX3 98 RX3 yX3_settle wsX3_settle) := goodIn_app (goodIn_of _ (by decide +kernel)) ggX3_leave_X3_settle
set_option maxRecDepth 20000 in
theorem ggX3_leave_X3_bi : GoodIn wsX3_leave wsX3_bi := goodIn_r _ [51, 4, 60, 61, 62, 63, 64, 65, 66, 67, 68, 69, 70, 71, 72, 73, 74] rfl (by decide +kernel)
set_option maxRecDepth 20000 in
theorem gX3_leave_X3_bi : GoodIn wsX3_leave (wsV RX3 53 RX3 yX3_bi wsX3_bi) := goodIn_app (goodIn_of _ (by decide +kernel)) ggX3_leave_X3_bi
theorem dX3_leave_0 : decode cX3_leave 0 = .ok (.aload_n 0, 1) := by decide +kernel
theorem dX3_leave_1 : decode cX3_leave 1 = .ok (.iconst 0, 1) := by decide +kernel
theorem dX3_leave_2 : decode cX3_leave 2 = .ok (.putfield 35, 3) := by decide +kernel
theorem dX3_leave_5 : decode cX3_leave 5 = .ok (.aload_n 0, 1) := by decide +kernel
theorem dX3_leave_6 : decode cX3_leave 6 = .ok (.iload_n 1, 1) := by decide +kernel
theorem dX3_leave_7 : decode cX3_leave 7 = .ok (.invokevirtual 49, 3) := by decide +kernel
theorem dX3_leave_10 : decode cX3_leave 10 = .ok (.ifCond .ne 9, 3) := by decide +kernel
theorem dX3_leave_13 : decode cX3_leave 13 = .ok (.aload_n 0, 1) := by decide +kernel
theorem dX3_leave_14 : decode cX3_leave 14 = .ok (.iconst 1, 1) := by decide +kernel
theorem dX3_leave_15 : decode cX3_leave 15 = .ok (.invokevirtual 45, 3) := by decide +kernel
theorem dX3_leave_18 : decode cX3_leave 18 = .ok (.ireturn, 1) := by decide +kernel
theorem dX3_leave_19 : decode cX3_leave 19 = .ok (.aload_n 0, 1) := by decide +kernel
theorem dX3_leave_20 : decode cX3_leave 20 = .ok (.invokevirtual 98, 3) := by decide +kernel
theorem dX3_leave_23 : decode cX3_leave 23 = .ok (.aload_n 0, 1) := by decide +kernel
theorem dX3_leave_24 : decode cX3_leave 24 = .ok (.getfield 13, 3) := by decide +kernel
theorem dX3_leave_27 : decode cX3_leave 27 = .ok (.iload_n 1, 1) := by decide +kernel
theorem dX3_leave_28 : decode cX3_leave 28 = .ok (.iaload, 1) := by decide +kernel
theorem dX3_leave_29 : decode cX3_leave 29 = .ok (.istore_n 2, 1) := by decide +kernel
theorem dX3_leave_30 : decode cX3_leave 30 = .ok (.iconst 0, 1) := by decide +kernel
theorem dX3_leave_31 : decode cX3_leave 31 = .ok (.istore_n 3, 1) := by decide +kernel
theorem dX3_leave_32 : decode cX3_leave 32 = .ok (.iload_n 3, 1) := by decide +kernel
theorem dX3_leave_33 : decode cX3_leave 33 = .ok (.aload_n 0, 1) := by decide +kernel
theorem dX3_leave_34 : decode cX3_leave 34 = .ok (.getfield 38, 3) := by decide +kernel
theorem dX3_leave_37 : decode cX3_leave 37 = .ok (.iconst 1, 1) := by decide +kernel
theorem dX3_leave_38 : decode cX3_leave 38 = .ok (.isub, 1) := by decide +kernel
theorem dX3_leave_39 : decode cX3_leave 39 = .ok (.if_icmp .ge 72, 3) := by decide +kernel
theorem dX3_leave_42 : decode cX3_leave 42 = .ok (.iconst 0, 1) := by decide +kernel
theorem dX3_leave_43 : decode cX3_leave 43 = .ok (.istore 4, 2) := by decide +kernel
theorem dX3_leave_45 : decode cX3_leave 45 = .ok (.iload 4, 2) := by decide +kernel
theorem dX3_leave_47 : decode cX3_leave 47 = .ok (.aload_n 0, 1) := by decide +kernel
theorem dX3_leave_48 : decode cX3_leave 48 = .ok (.getfield 38, 3) := by decide +kernel
theorem dX3_leave_51 : decode cX3_leave 51 = .ok (.iconst 1, 1) := by decide +kernel
theorem dX3_leave_52 : decode cX3_leave 52 = .ok (.isub, 1) := by decide +kernel
theorem dX3_leave_53 : decode cX3_leave 53 = .ok (.if_icmp .ge 52, 3) := by decide +kernel
theorem dX3_leave_56 : decode cX3_leave 56 = .ok (.aload_n 0, 1) := by decide +kernel
theorem dX3_leave_57 : decode cX3_leave 57 = .ok (.getfield 9, 3) := by decide +kernel
theorem dX3_leave_60 : decode cX3_leave 60 = .ok (.bipush 6, 2) := by decide +kernel
theorem dX3_leave_62 : decode cX3_leave 62 = .ok (.iload_n 3, 1) := by decide +kernel
theorem dX3_leave_63 : decode cX3_leave 63 = .ok (.imul, 1) := by decide +kernel
theorem dX3_leave_64 : decode cX3_leave 64 = .ok (.iload 4, 2) := by decide +kernel
theorem dX3_leave_66 : decode cX3_leave 66 = .ok (.iadd, 1) := by decide +kernel
theorem dX3_leave_67 : decode cX3_leave 67 = .ok (.aload_n 0, 1) := by decide +kernel
theorem dX3_leave_68 : decode cX3_leave 68 = .ok (.iload_n 3, 1) := by decide +kernel
theorem dX3_leave_69 : decode cX3_leave 69 = .ok (.iload_n 1, 1) := by decide +kernel
theorem dX3_leave_70 : decode cX3_leave 70 = .ok (.if_icmp .ge 7, 3) := by decide +kernel
theorem dX3_leave_73 : decode cX3_leave 73 = .ok (.iload_n 3, 1) := by decide +kernel
theorem dX3_leave_74 : decode cX3_leave 74 = .ok (.goto 6, 3) := by decide +kernel
theorem dX3_leave_77 : decode cX3_leave 77 = .ok (.iload_n 3, 1) := by decide +kernel
theorem dX3_leave_78 : decode cX3_leave 78 = .ok (.iconst 1, 1) := by decide +kernel
theorem dX3_leave_79 : decode cX3_leave 79 = .ok (.iadd, 1) := by decide +kernel
theorem dX3_leave_80 : decode cX3_leave 80 = .ok (.iload 4, 2) := by decide +kernel
theorem dX3_leave_82 : decode cX3_leave 82 = .ok (.iload_n 2, 1) := by decide +kernel
theorem dX3_leave_83 : decode cX3_leave 83 = .ok (.if_icmp .ge 8, 3) := by decide +kernel
theorem dX3_leave_86 : decode cX3_leave 86 = .ok (.iload 4, 2) := by decide +kernel
theorem dX3_leave_88 : decode cX3_leave 88 = .ok (.goto 7, 3) := by decide +kernel
theorem dX3_leave_91 : decode cX3_leave 91 = .ok (.iload 4, 2) := by decide +kernel
theorem dX3_leave_93 : decode cX3_leave 93 = .ok (.iconst 1, 1) := by decide +kernel
theorem dX3_leave_94 : decode cX3_leave 94 = .ok (.iadd, 1) := by decide +kernel
theorem dX3_leave_95 : decode cX3_leave 95 = .ok (.invokevirtual 53, 3) := by decide +kernel
theorem dX3_leave_98 : decode cX3_leave 98 = .ok (.iastore, 1) := by decide +kernel
theorem dX3_leave_99 : decode cX3_leave 99 = .ok (.iinc 4 1, 3) := by decide +kernel
theorem dX3_leave_102 : decode cX3_leave 102 = .ok (.goto (-57), 3) := by decide +kernel
theorem dX3_leave_105 : decode cX3_leave 105 = .ok (.iinc 3 1, 3) := by decide +kernel
theorem dX3_leave_108 : decode cX3_leave 108 = .ok (.goto (-76), 3) := by decide +kernel
theorem dX3_leave_111 : decode cX3_leave 111 = .ok (.aload_n 0, 1) := by decide +kernel
theorem dX3_leave_112 : decode cX3_leave 112 = .ok (.dup, 1) := by decide +kernel
theorem dX3_leave_113 : decode cX3_leave 113 = .ok (.getfield 38, 3) := by decide +kernel
theorem dX3_leave_116 : decode cX3_leave 116 = .ok (.iconst 1, 1) := by decide +kernel
theorem dX3_leave_117 : decode cX3_leave 117 = .ok (.isub, 1) := by decide +kernel
theorem dX3_leave_118 : decode cX3_leave 118 = .ok (.putfield 38, 3) := by decide +kernel
theorem dX3_leave_121 : decode cX3_leave 121 = .ok (.iload_n 2, 1) := by decide +kernel
theorem dX3_leave_122 : decode cX3_leave 122 = .ok (.ireturn, 1) := by decide +kernel
set_option maxRecDepth 20000 in
theorem ggX3_toldOf_X3_bi : GoodIn wsX3_toldOf wsX3_bi := goodIn_r _ [9, 10, 19, 20, 21, 22, 23, 24, 25, 26, 27, 28, 29, 30, 31, 32, 33] rfl (by decide +kernel)
set_option maxRecDepth 20000 in
theorem gX3_toldOf_X3_bi : GoodIn wsX3_toldOf (wsV RX3 53 RX3 yX3_bi wsX3_bi) := goodIn_app (goodIn_of _ (by decide +kernel)) ggX3_toldOf_X3_bi
set_option maxRecDepth 20000 in
theorem ggX3_toldOf_X3_pays : GoodIn wsX3_toldOf wsX3_pays := goodIn_r _ [14, 1, 2, 5, 6, 7, 8, 9, 10, 19, 20, 21, 22, 23, 24, 25, 26, 27, 28, 29, 30, 31, 32, 33] rfl (by decide +kernel)
set_option maxRecDepth 20000 in
theorem gX3_toldOf_X3_pays : GoodIn wsX3_toldOf (wsV RX3 101 RX3 yX3_pays wsX3_pays) := goodIn_app (goodIn_of _ (by decide +kernel)) ggX3_toldOf_X3_pays
set_option maxRecDepth 20000 in
theorem ggX3_toldOf_X3_isEnvy : GoodIn wsX3_toldOf wsX3_isEnvy := goodIn_r _ [18, 1, 5, 6, 7, 8, 9, 10, 19, 20, 21, 22, 23, 24, 25, 26, 27, 28, 29, 30, 31, 32, 33] rfl (by decide +kernel)
set_option maxRecDepth 20000 in
theorem gX3_toldOf_X3_isEnvy : GoodIn wsX3_toldOf (wsV RX3 104 RX3 yX3_isEnvy wsX3_isEnvy) := goodIn_app (goodIn_of _ (by decide +kernel)) ggX3_toldOf_X3_isEnvy
theorem dX3_toldOf_0 : decode cX3_toldOf 0 = .ok (.iload_n 2, 1) := by decide +kernel
theorem dX3_toldOf_1 : decode cX3_toldOf 1 = .ok (.tableswitch 74 0 4 #[35, 42, 54, 61, 67], 35) := by decide +kernel
theorem dX3_toldOf_36 : decode cX3_toldOf 36 = .ok (.aload_n 0, 1) := by decide +kernel
theorem dX3_toldOf_37 : decode cX3_toldOf 37 = .ok (.getfield 13, 3) := by decide +kernel
theorem dX3_toldOf_40 : decode cX3_toldOf 40 = .ok (.iload_n 1, 1) := by decide +kernel
theorem dX3_toldOf_41 : decode cX3_toldOf 41 = .ok (.iaload, 1) := by decide +kernel
theorem dX3_toldOf_42 : decode cX3_toldOf 42 = .ok (.ireturn, 1) := by decide +kernel
theorem dX3_toldOf_43 : decode cX3_toldOf 43 = .ok (.aload_n 0, 1) := by decide +kernel
theorem dX3_toldOf_44 : decode cX3_toldOf 44 = .ok (.iload_n 1, 1) := by decide +kernel
theorem dX3_toldOf_45 : decode cX3_toldOf 45 = .ok (.aload_n 0, 1) := by decide +kernel
theorem dX3_toldOf_46 : decode cX3_toldOf 46 = .ok (.getfield 13, 3) := by decide +kernel
theorem dX3_toldOf_49 : decode cX3_toldOf 49 = .ok (.iload_n 1, 1) := by decide +kernel
theorem dX3_toldOf_50 : decode cX3_toldOf 50 = .ok (.iaload, 1) := by decide +kernel
theorem dX3_toldOf_51 : decode cX3_toldOf 51 = .ok (.invokevirtual 53, 3) := by decide +kernel
theorem dX3_toldOf_54 : decode cX3_toldOf 54 = .ok (.ireturn, 1) := by decide +kernel
theorem dX3_toldOf_55 : decode cX3_toldOf 55 = .ok (.aload_n 0, 1) := by decide +kernel
theorem dX3_toldOf_56 : decode cX3_toldOf 56 = .ok (.getfield 19, 3) := by decide +kernel
theorem dX3_toldOf_59 : decode cX3_toldOf 59 = .ok (.iload_n 1, 1) := by decide +kernel
theorem dX3_toldOf_60 : decode cX3_toldOf 60 = .ok (.iaload, 1) := by decide +kernel
theorem dX3_toldOf_61 : decode cX3_toldOf 61 = .ok (.ireturn, 1) := by decide +kernel
theorem dX3_toldOf_62 : decode cX3_toldOf 62 = .ok (.aload_n 0, 1) := by decide +kernel
theorem dX3_toldOf_63 : decode cX3_toldOf 63 = .ok (.iload_n 1, 1) := by decide +kernel
theorem dX3_toldOf_64 : decode cX3_toldOf 64 = .ok (.invokevirtual 101, 3) := by decide +kernel
theorem dX3_toldOf_67 : decode cX3_toldOf 67 = .ok (.ireturn, 1) := by decide +kernel
theorem dX3_toldOf_68 : decode cX3_toldOf 68 = .ok (.aload_n 0, 1) := by decide +kernel
theorem dX3_toldOf_69 : decode cX3_toldOf 69 = .ok (.getfield 16, 3) := by decide +kernel
theorem dX3_toldOf_72 : decode cX3_toldOf 72 = .ok (.iload_n 1, 1) := by decide +kernel
theorem dX3_toldOf_73 : decode cX3_toldOf 73 = .ok (.iaload, 1) := by decide +kernel
theorem dX3_toldOf_74 : decode cX3_toldOf 74 = .ok (.ireturn, 1) := by decide +kernel
theorem dX3_toldOf_75 : decode cX3_toldOf 75 = .ok (.iconst 0, 1) := by decide +kernel
theorem dX3_toldOf_76 : decode cX3_toldOf 76 = .ok (.istore_n 3, 1) := by decide +kernel
theorem dX3_toldOf_77 : decode cX3_toldOf 77 = .ok (.iconst 0, 1) := by decide +kernel
theorem dX3_toldOf_78 : decode cX3_toldOf 78 = .ok (.istore 4, 2) := by decide +kernel
theorem dX3_toldOf_80 : decode cX3_toldOf 80 = .ok (.iload 4, 2) := by decide +kernel
theorem dX3_toldOf_82 : decode cX3_toldOf 82 = .ok (.aload_n 0, 1) := by decide +kernel
theorem dX3_toldOf_83 : decode cX3_toldOf 83 = .ok (.getfield 38, 3) := by decide +kernel
theorem dX3_toldOf_86 : decode cX3_toldOf 86 = .ok (.if_icmp .ge 27, 3) := by decide +kernel
theorem dX3_toldOf_89 : decode cX3_toldOf 89 = .ok (.iload_n 3, 1) := by decide +kernel
theorem dX3_toldOf_90 : decode cX3_toldOf 90 = .ok (.aload_n 0, 1) := by decide +kernel
theorem dX3_toldOf_91 : decode cX3_toldOf 91 = .ok (.iload_n 1, 1) := by decide +kernel
theorem dX3_toldOf_92 : decode cX3_toldOf 92 = .ok (.iload 4, 2) := by decide +kernel
theorem dX3_toldOf_94 : decode cX3_toldOf 94 = .ok (.invokevirtual 104, 3) := by decide +kernel
theorem dX3_toldOf_97 : decode cX3_toldOf 97 = .ok (.ifCond .eq 7, 3) := by decide +kernel
theorem dX3_toldOf_100 : decode cX3_toldOf 100 = .ok (.iconst 1, 1) := by decide +kernel
theorem dX3_toldOf_101 : decode cX3_toldOf 101 = .ok (.goto 4, 3) := by decide +kernel
theorem dX3_toldOf_104 : decode cX3_toldOf 104 = .ok (.iconst 0, 1) := by decide +kernel
theorem dX3_toldOf_105 : decode cX3_toldOf 105 = .ok (.iadd, 1) := by decide +kernel
theorem dX3_toldOf_106 : decode cX3_toldOf 106 = .ok (.istore_n 3, 1) := by decide +kernel
theorem dX3_toldOf_107 : decode cX3_toldOf 107 = .ok (.iinc 4 1, 3) := by decide +kernel
theorem dX3_toldOf_110 : decode cX3_toldOf 110 = .ok (.goto (-30), 3) := by decide +kernel
theorem dX3_toldOf_113 : decode cX3_toldOf 113 = .ok (.iload_n 3, 1) := by decide +kernel
theorem dX3_toldOf_114 : decode cX3_toldOf 114 = .ok (.ireturn, 1) := by decide +kernel
set_option maxRecDepth 20000 in
theorem ggX3_told_X3_isOne : GoodIn wsX3_told wsX3_isOne := goodIn_r _ [6, 7, 8, 9, 5, 10, 72, 73, 74, 75, 76, 77, 78, 79, 80, 81, 82, 83, 84, 85, 86] rfl (by decide +kernel)
set_option maxRecDepth 20000 in
theorem gX3_told_X3_isOne : GoodIn wsX3_told (wsV RX3 49 RX3 yX3_isOne wsX3_isOne) := goodIn_app (goodIn_of _ (by decide +kernel)) ggX3_told_X3_isOne
set_option maxRecDepth 20000 in
theorem ggX3_told_X3_isIn : GoodIn wsX3_told wsX3_isIn := goodIn_r _ [10] rfl (by decide +kernel)
set_option maxRecDepth 20000 in
theorem gX3_told_X3_isIn : GoodIn wsX3_told (va_wsS RX3 41 yX3_isIn wsX3_isIn) := goodIn_app (goodIn_of _ (by decide +kernel)) ggX3_told_X3_isIn
set_option maxRecDepth 20000 in
theorem ggX3_told_X3_fail : GoodIn wsX3_told wsX3_fail := goodIn_r _ [14, 1, 72, 73, 74, 75, 76, 77, 78, 79, 80, 81, 82, 83, 84, 85, 86] rfl (by decide +kernel)
set_option maxRecDepth 20000 in
theorem gX3_told_X3_fail : GoodIn wsX3_told (wsV RX3 45 RX3 yX3_fail wsX3_fail) := goodIn_app (goodIn_of _ (by decide +kernel)) ggX3_told_X3_fail
set_option maxRecDepth 20000 in
theorem ggX3_told_X3_settle : GoodIn wsX3_told wsX3_settle := goodIn_r _ [18, 19, 20, 7, 21, 22, 23, 24, 25, 26, 5, 27, 28, 29, 30, 31, 32, 33, 34, 35, 36, 37, 38, 39, 40, 41, 42, 43, 44, 45, 46, 47, 48, 49, 50, 51, 52, 53, 54, 55, 56, 57, 58, 59, 72, 73, 74, 75, 76, 77, 78, 79, 80, 81, 82, 83, 84, 85, 86] rfl (by decide +kernel)
set_option maxRecDepth 20000 in
theorem gX3_told_X3_settle : GoodIn wsX3_told (wsV RX3 98 RX3 yX3_settle wsX3_settle) := goodIn_app (goodIn_of _ (by decide +kernel)) ggX3_told_X3_settle
set_option maxRecDepth 20000 in
theorem ggX3_told_X3_toldOf : GoodIn wsX3_told wsX3_toldOf := goodIn_r _ [63, 34, 22, 21, 7, 47, 48, 49, 5, 50, 51, 64, 65, 66, 67, 68, 69, 70, 71, 72, 73, 74, 75, 76, 77, 78, 79, 80, 81, 82, 83, 84, 85, 86] rfl (by decide +kernel)
set_option maxRecDepth 20000 in
theorem gX3_told_X3_toldOf : GoodIn wsX3_told (wsV RX3 107 RX3 yX3_toldOf wsX3_toldOf) := goodIn_app (goodIn_of _ (by decide +kernel)) ggX3_told_X3_toldOf
theorem dX3_told_0 : decode cX3_told 0 = .ok (.aload_n 0, 1) := by decide +kernel
theorem dX3_told_1 : decode cX3_told 1 = .ok (.iconst 0, 1) := by decide +kernel
theorem dX3_told_2 : decode cX3_told 2 = .ok (.putfield 35, 3) := by decide +kernel
theorem dX3_told_5 : decode cX3_told 5 = .ok (.aload_n 0, 1) := by decide +kernel
theorem dX3_told_6 : decode cX3_told 6 = .ok (.iload_n 1, 1) := by decide +kernel
theorem dX3_told_7 : decode cX3_told 7 = .ok (.invokevirtual 49, 3) := by decide +kernel
theorem dX3_told_10 : decode cX3_told 10 = .ok (.ifCond .eq 12, 3) := by decide +kernel
theorem dX3_told_13 : decode cX3_told 13 = .ok (.iload_n 2, 1) := by decide +kernel
theorem dX3_told_14 : decode cX3_told 14 = .ok (.iconst 0, 1) := by decide +kernel
theorem dX3_told_15 : decode cX3_told 15 = .ok (.iconst 5, 1) := by decide +kernel
theorem dX3_told_16 : decode cX3_told 16 = .ok (.invokestatic 41, 3) := by decide +kernel
theorem dX3_told_19 : decode cX3_told 19 = .ok (.ifCond .ne 9, 3) := by decide +kernel
theorem dX3_told_22 : decode cX3_told 22 = .ok (.aload_n 0, 1) := by decide +kernel
theorem dX3_told_23 : decode cX3_told 23 = .ok (.iconst 1, 1) := by decide +kernel
theorem dX3_told_24 : decode cX3_told 24 = .ok (.invokevirtual 45, 3) := by decide +kernel
theorem dX3_told_27 : decode cX3_told 27 = .ok (.ireturn, 1) := by decide +kernel
theorem dX3_told_28 : decode cX3_told 28 = .ok (.aload_n 0, 1) := by decide +kernel
theorem dX3_told_29 : decode cX3_told 29 = .ok (.invokevirtual 98, 3) := by decide +kernel
theorem dX3_told_32 : decode cX3_told 32 = .ok (.aload_n 0, 1) := by decide +kernel
theorem dX3_told_33 : decode cX3_told 33 = .ok (.iload_n 1, 1) := by decide +kernel
theorem dX3_told_34 : decode cX3_told 34 = .ok (.iload_n 2, 1) := by decide +kernel
theorem dX3_told_35 : decode cX3_told 35 = .ok (.invokevirtual 107, 3) := by decide +kernel
theorem dX3_told_38 : decode cX3_told 38 = .ok (.ireturn, 1) := by decide +kernel
set_option maxRecDepth 20000 in
theorem ggX3_offer_X3_isOne : GoodIn wsX3_offer wsX3_isOne := goodIn_r _ [6, 7, 8, 9, 5, 10, 20, 21, 22, 23, 24, 25, 26, 27, 28, 29, 30, 31, 32, 33, 34] rfl (by decide +kernel)
set_option maxRecDepth 20000 in
theorem gX3_offer_X3_isOne : GoodIn wsX3_offer (wsV RX3 49 RX3 yX3_isOne wsX3_isOne) := goodIn_app (goodIn_of _ (by decide +kernel)) ggX3_offer_X3_isOne
set_option maxRecDepth 20000 in
theorem ggX3_offer_X3_bi : GoodIn wsX3_offer wsX3_bi := goodIn_r _ [14, 15, 20, 21, 22, 23, 24, 25, 26, 27, 28, 29, 30, 31, 32, 33, 34] rfl (by decide +kernel)
set_option maxRecDepth 20000 in
theorem gX3_offer_X3_bi : GoodIn wsX3_offer (wsV RX3 53 RX3 yX3_bi wsX3_bi) := goodIn_app (goodIn_of _ (by decide +kernel)) ggX3_offer_X3_bi
set_option maxRecDepth 20000 in
theorem ggX3_offer_X3_fail : GoodIn wsX3_offer wsX3_fail := goodIn_r _ [19, 1, 20, 21, 22, 23, 24, 25, 26, 27, 28, 29, 30, 31, 32, 33, 34] rfl (by decide +kernel)
set_option maxRecDepth 20000 in
theorem gX3_offer_X3_fail : GoodIn wsX3_offer (wsV RX3 45 RX3 yX3_fail wsX3_fail) := goodIn_app (goodIn_of _ (by decide +kernel)) ggX3_offer_X3_fail
theorem dX3_offer_0 : decode cX3_offer 0 = .ok (.aload_n 0, 1) := by decide +kernel
theorem dX3_offer_1 : decode cX3_offer 1 = .ok (.iconst 0, 1) := by decide +kernel
theorem dX3_offer_2 : decode cX3_offer 2 = .ok (.putfield 35, 3) := by decide +kernel
theorem dX3_offer_5 : decode cX3_offer 5 = .ok (.aload_n 0, 1) := by decide +kernel
theorem dX3_offer_6 : decode cX3_offer 6 = .ok (.iload_n 1, 1) := by decide +kernel
theorem dX3_offer_7 : decode cX3_offer 7 = .ok (.invokevirtual 49, 3) := by decide +kernel
theorem dX3_offer_10 : decode cX3_offer 10 = .ok (.ifCond .eq 20, 3) := by decide +kernel
theorem dX3_offer_13 : decode cX3_offer 13 = .ok (.aload_n 0, 1) := by decide +kernel
theorem dX3_offer_14 : decode cX3_offer 14 = .ok (.iload_n 2, 1) := by decide +kernel
theorem dX3_offer_15 : decode cX3_offer 15 = .ok (.invokevirtual 49, 3) := by decide +kernel
theorem dX3_offer_18 : decode cX3_offer 18 = .ok (.ifCond .eq 12, 3) := by decide +kernel
theorem dX3_offer_21 : decode cX3_offer 21 = .ok (.aload_n 0, 1) := by decide +kernel
theorem dX3_offer_22 : decode cX3_offer 22 = .ok (.iload_n 1, 1) := by decide +kernel
theorem dX3_offer_23 : decode cX3_offer 23 = .ok (.iload_n 2, 1) := by decide +kernel
theorem dX3_offer_24 : decode cX3_offer 24 = .ok (.invokevirtual 53, 3) := by decide +kernel
theorem dX3_offer_27 : decode cX3_offer 27 = .ok (.goto 8, 3) := by decide +kernel
theorem dX3_offer_30 : decode cX3_offer 30 = .ok (.aload_n 0, 1) := by decide +kernel
theorem dX3_offer_31 : decode cX3_offer 31 = .ok (.iconst 1, 1) := by decide +kernel
theorem dX3_offer_32 : decode cX3_offer 32 = .ok (.invokevirtual 45, 3) := by decide +kernel
theorem dX3_offer_35 : decode cX3_offer 35 = .ok (.ireturn, 1) := by decide +kernel
set_option maxRecDepth 20000 in
theorem ggX3_counted_X3_settle : GoodIn wsX3_counted wsX3_settle := goodIn_r _ [11, 3, 2, 1, 12, 4, 5, 13, 14, 15, 10, 16, 6, 17, 18, 19, 20, 21, 22, 23, 24, 25, 26, 27, 28, 29, 30, 31, 32, 33, 34, 35, 36, 37, 38, 39, 40, 41, 42, 43, 44, 45, 46, 47, 52, 53, 54, 55, 56, 57, 58, 59, 60, 61, 62, 63, 64, 65, 66] rfl (by decide +kernel)
set_option maxRecDepth 20000 in
theorem gX3_counted_X3_settle : GoodIn wsX3_counted (wsV RX3 98 RX3 yX3_settle wsX3_settle) := goodIn_app (goodIn_of _ (by decide +kernel)) ggX3_counted_X3_settle
set_option maxRecDepth 20000 in
theorem ggX3_counted_X3_pays : GoodIn wsX3_counted wsX3_pays := goodIn_r _ [51, 22, 4, 35, 36, 37, 10, 38, 39, 52, 53, 54, 55, 56, 57, 58, 59, 60, 61, 62, 63, 64, 65, 66] rfl (by decide +kernel)
set_option maxRecDepth 20000 in
theorem gX3_counted_X3_pays : GoodIn wsX3_counted (wsV RX3 101 RX3 yX3_pays wsX3_pays) := goodIn_app (goodIn_of _ (by decide +kernel)) ggX3_counted_X3_pays
theorem dX3_counted_0 : decode cX3_counted 0 = .ok (.aload_n 0, 1) := by decide +kernel
theorem dX3_counted_1 : decode cX3_counted 1 = .ok (.invokevirtual 98, 3) := by decide +kernel
theorem dX3_counted_4 : decode cX3_counted 4 = .ok (.iconst 0, 1) := by decide +kernel
theorem dX3_counted_5 : decode cX3_counted 5 = .ok (.istore_n 2, 1) := by decide +kernel
theorem dX3_counted_6 : decode cX3_counted 6 = .ok (.iload_n 1, 1) := by decide +kernel
theorem dX3_counted_7 : decode cX3_counted 7 = .ok (.tableswitch 89 0 5 #[37, 42, 47, 52, 79, 84], 37) := by decide +kernel
theorem dX3_counted_44 : decode cX3_counted 44 = .ok (.aload_n 0, 1) := by decide +kernel
theorem dX3_counted_45 : decode cX3_counted 45 = .ok (.getfield 38, 3) := by decide +kernel
theorem dX3_counted_48 : decode cX3_counted 48 = .ok (.ireturn, 1) := by decide +kernel
theorem dX3_counted_49 : decode cX3_counted 49 = .ok (.aload_n 0, 1) := by decide +kernel
theorem dX3_counted_50 : decode cX3_counted 50 = .ok (.getfield 57, 3) := by decide +kernel
theorem dX3_counted_53 : decode cX3_counted 53 = .ok (.ireturn, 1) := by decide +kernel
theorem dX3_counted_54 : decode cX3_counted 54 = .ok (.aload_n 0, 1) := by decide +kernel
theorem dX3_counted_55 : decode cX3_counted 55 = .ok (.getfield 64, 3) := by decide +kernel
theorem dX3_counted_58 : decode cX3_counted 58 = .ok (.ireturn, 1) := by decide +kernel
theorem dX3_counted_59 : decode cX3_counted 59 = .ok (.iconst 0, 1) := by decide +kernel
theorem dX3_counted_60 : decode cX3_counted 60 = .ok (.istore_n 3, 1) := by decide +kernel
theorem dX3_counted_61 : decode cX3_counted 61 = .ok (.iload_n 3, 1) := by decide +kernel
theorem dX3_counted_62 : decode cX3_counted 62 = .ok (.aload_n 0, 1) := by decide +kernel
theorem dX3_counted_63 : decode cX3_counted 63 = .ok (.getfield 38, 3) := by decide +kernel
theorem dX3_counted_66 : decode cX3_counted 66 = .ok (.if_icmp .ge 18, 3) := by decide +kernel
theorem dX3_counted_69 : decode cX3_counted 69 = .ok (.iload_n 2, 1) := by decide +kernel
theorem dX3_counted_70 : decode cX3_counted 70 = .ok (.aload_n 0, 1) := by decide +kernel
theorem dX3_counted_71 : decode cX3_counted 71 = .ok (.getfield 19, 3) := by decide +kernel
theorem dX3_counted_74 : decode cX3_counted 74 = .ok (.iload_n 3, 1) := by decide +kernel
theorem dX3_counted_75 : decode cX3_counted 75 = .ok (.iaload, 1) := by decide +kernel
theorem dX3_counted_76 : decode cX3_counted 76 = .ok (.iadd, 1) := by decide +kernel
theorem dX3_counted_77 : decode cX3_counted 77 = .ok (.istore_n 2, 1) := by decide +kernel
theorem dX3_counted_78 : decode cX3_counted 78 = .ok (.iinc 3 1, 3) := by decide +kernel
theorem dX3_counted_81 : decode cX3_counted 81 = .ok (.goto (-20), 3) := by decide +kernel
theorem dX3_counted_84 : decode cX3_counted 84 = .ok (.iload_n 2, 1) := by decide +kernel
theorem dX3_counted_85 : decode cX3_counted 85 = .ok (.ireturn, 1) := by decide +kernel
theorem dX3_counted_86 : decode cX3_counted 86 = .ok (.aload_n 0, 1) := by decide +kernel
theorem dX3_counted_87 : decode cX3_counted 87 = .ok (.getfield 95, 3) := by decide +kernel
theorem dX3_counted_90 : decode cX3_counted 90 = .ok (.ireturn, 1) := by decide +kernel
theorem dX3_counted_91 : decode cX3_counted 91 = .ok (.aload_n 0, 1) := by decide +kernel
theorem dX3_counted_92 : decode cX3_counted 92 = .ok (.getfield 67, 3) := by decide +kernel
theorem dX3_counted_95 : decode cX3_counted 95 = .ok (.ireturn, 1) := by decide +kernel
theorem dX3_counted_96 : decode cX3_counted 96 = .ok (.iconst 0, 1) := by decide +kernel
theorem dX3_counted_97 : decode cX3_counted 97 = .ok (.istore_n 3, 1) := by decide +kernel
theorem dX3_counted_98 : decode cX3_counted 98 = .ok (.iload_n 3, 1) := by decide +kernel
theorem dX3_counted_99 : decode cX3_counted 99 = .ok (.aload_n 0, 1) := by decide +kernel
theorem dX3_counted_100 : decode cX3_counted 100 = .ok (.getfield 38, 3) := by decide +kernel
theorem dX3_counted_103 : decode cX3_counted 103 = .ok (.if_icmp .ge 17, 3) := by decide +kernel
theorem dX3_counted_106 : decode cX3_counted 106 = .ok (.iload_n 2, 1) := by decide +kernel
theorem dX3_counted_107 : decode cX3_counted 107 = .ok (.aload_n 0, 1) := by decide +kernel
theorem dX3_counted_108 : decode cX3_counted 108 = .ok (.iload_n 3, 1) := by decide +kernel
theorem dX3_counted_109 : decode cX3_counted 109 = .ok (.invokevirtual 101, 3) := by decide +kernel
theorem dX3_counted_112 : decode cX3_counted 112 = .ok (.iadd, 1) := by decide +kernel
theorem dX3_counted_113 : decode cX3_counted 113 = .ok (.istore_n 2, 1) := by decide +kernel
theorem dX3_counted_114 : decode cX3_counted 114 = .ok (.iinc 3 1, 3) := by decide +kernel
theorem dX3_counted_117 : decode cX3_counted 117 = .ok (.goto (-19), 3) := by decide +kernel
theorem dX3_counted_120 : decode cX3_counted 120 = .ok (.iload_n 2, 1) := by decide +kernel
theorem dX3_counted_121 : decode cX3_counted 121 = .ok (.ireturn, 1) := by decide +kernel
set_option maxRecDepth 20000 in
theorem ggX3_count_X3_isIn : GoodIn wsX3_count wsX3_isIn := goodIn_r _ [5] rfl (by decide +kernel)
set_option maxRecDepth 20000 in
theorem gX3_count_X3_isIn : GoodIn wsX3_count (va_wsS RX3 41 yX3_isIn wsX3_isIn) := goodIn_app (goodIn_of _ (by decide +kernel)) ggX3_count_X3_isIn
set_option maxRecDepth 20000 in
theorem ggX3_count_X3_counted : GoodIn wsX3_count wsX3_counted := goodIn_r _ [9, 10, 11, 12, 13, 14, 15, 16, 17, 18, 4, 19, 20, 21, 22, 23, 24, 25, 26, 27, 28, 29, 30, 31, 32, 33, 34, 35, 36, 37, 38, 39, 40, 41, 42, 43, 44, 45, 46, 47, 48, 49, 50, 51, 52, 53, 54, 55, 56, 57, 58, 59, 64, 65, 66, 67, 68, 69, 70, 71, 72, 73, 74, 75, 76, 77, 78] rfl (by decide +kernel)
set_option maxRecDepth 20000 in
theorem gX3_count_X3_counted : GoodIn wsX3_count (wsV RX3 110 RX3 yX3_counted wsX3_counted) := goodIn_app (goodIn_of _ (by decide +kernel)) ggX3_count_X3_counted
set_option maxRecDepth 20000 in
theorem ggX3_count_X3_fail : GoodIn wsX3_count wsX3_fail := goodIn_r _ [63, 1, 64, 65, 66, 67, 68, 69, 70, 71, 72, 73, 74, 75, 76, 77, 78] rfl (by decide +kernel)
set_option maxRecDepth 20000 in
theorem gX3_count_X3_fail : GoodIn wsX3_count (wsV RX3 45 RX3 yX3_fail wsX3_fail) := goodIn_app (goodIn_of _ (by decide +kernel)) ggX3_count_X3_fail
theorem dX3_count_0 : decode cX3_count 0 = .ok (.aload_n 0, 1) := by decide +kernel
theorem dX3_count_1 : decode cX3_count 1 = .ok (.iconst 0, 1) := by decide +kernel
theorem dX3_count_2 : decode cX3_count 2 = .ok (.putfield 35, 3) := by decide +kernel
theorem dX3_count_5 : decode cX3_count 5 = .ok (.iload_n 1, 1) := by decide +kernel
theorem dX3_count_6 : decode cX3_count 6 = .ok (.iconst 0, 1) := by decide +kernel
theorem dX3_count_7 : decode cX3_count 7 = .ok (.bipush 6, 2) := by decide +kernel
theorem dX3_count_9 : decode cX3_count 9 = .ok (.invokestatic 41, 3) := by decide +kernel
theorem dX3_count_12 : decode cX3_count 12 = .ok (.ifCond .eq 11, 3) := by decide +kernel
theorem dX3_count_15 : decode cX3_count 15 = .ok (.aload_n 0, 1) := by decide +kernel
theorem dX3_count_16 : decode cX3_count 16 = .ok (.iload_n 1, 1) := by decide +kernel
theorem dX3_count_17 : decode cX3_count 17 = .ok (.invokevirtual 110, 3) := by decide +kernel
theorem dX3_count_20 : decode cX3_count 20 = .ok (.goto 8, 3) := by decide +kernel
theorem dX3_count_23 : decode cX3_count 23 = .ok (.aload_n 0, 1) := by decide +kernel
theorem dX3_count_24 : decode cX3_count 24 = .ok (.iconst 1, 1) := by decide +kernel
theorem dX3_count_25 : decode cX3_count 25 = .ok (.invokevirtual 45, 3) := by decide +kernel
theorem dX3_count_28 : decode cX3_count 28 = .ok (.ireturn, 1) := by decide +kernel
set_option maxRecDepth 20000 in
theorem ggX3_envies_X3_isOne : GoodIn wsX3_envies wsX3_isOne := goodIn_r _ [6, 7, 8, 9, 5, 10, 44, 45, 46, 47, 48, 49, 50, 51, 52, 53, 54, 55, 56, 57, 58] rfl (by decide +kernel)
set_option maxRecDepth 20000 in
theorem gX3_envies_X3_isOne : GoodIn wsX3_envies (wsV RX3 49 RX3 yX3_isOne wsX3_isOne) := goodIn_app (goodIn_of _ (by decide +kernel)) ggX3_envies_X3_isOne
set_option maxRecDepth 20000 in
theorem ggX3_envies_X3_give : GoodIn wsX3_envies wsX3_give := goodIn_r _ [14, 15, 16, 17, 18, 19, 5, 20, 7, 21, 22, 23, 24, 25, 26, 27, 28, 29, 30, 31, 32, 33, 34, 35, 36, 37, 38, 39, 44, 45, 46, 47, 48, 49, 50, 51, 52, 53, 54, 55, 56, 57, 58] rfl (by decide +kernel)
set_option maxRecDepth 20000 in
theorem gX3_envies_X3_give : GoodIn wsX3_envies (wsV RX3 87 RX3 yX3_give wsX3_give) := goodIn_app (goodIn_of _ (by decide +kernel)) ggX3_envies_X3_give
set_option maxRecDepth 20000 in
theorem ggX3_envies_X3_isEnvy : GoodIn wsX3_envies wsX3_isEnvy := goodIn_r _ [43, 22, 35, 36, 37, 5, 38, 39, 44, 45, 46, 47, 48, 49, 50, 51, 52, 53, 54, 55, 56, 57, 58] rfl (by decide +kernel)
set_option maxRecDepth 20000 in
theorem gX3_envies_X3_isEnvy : GoodIn wsX3_envies (wsV RX3 104 RX3 yX3_isEnvy wsX3_isEnvy) := goodIn_app (goodIn_of _ (by decide +kernel)) ggX3_envies_X3_isEnvy
theorem dX3_envies_0 : decode cX3_envies 0 = .ok (.aload_n 0, 1) := by decide +kernel
theorem dX3_envies_1 : decode cX3_envies 1 = .ok (.aload_n 0, 1) := by decide +kernel
theorem dX3_envies_2 : decode cX3_envies 2 = .ok (.iload_n 1, 1) := by decide +kernel
theorem dX3_envies_3 : decode cX3_envies 3 = .ok (.invokevirtual 49, 3) := by decide +kernel
theorem dX3_envies_6 : decode cX3_envies 6 = .ok (.ifCond .eq 15, 3) := by decide +kernel
theorem dX3_envies_9 : decode cX3_envies 9 = .ok (.aload_n 0, 1) := by decide +kernel
theorem dX3_envies_10 : decode cX3_envies 10 = .ok (.iload_n 2, 1) := by decide +kernel
theorem dX3_envies_11 : decode cX3_envies 11 = .ok (.invokevirtual 49, 3) := by decide +kernel
theorem dX3_envies_14 : decode cX3_envies 14 = .ok (.ifCond .eq 7, 3) := by decide +kernel
theorem dX3_envies_17 : decode cX3_envies 17 = .ok (.iconst 0, 1) := by decide +kernel
theorem dX3_envies_18 : decode cX3_envies 18 = .ok (.goto 4, 3) := by decide +kernel
theorem dX3_envies_21 : decode cX3_envies 21 = .ok (.iconst 1, 1) := by decide +kernel
theorem dX3_envies_22 : decode cX3_envies 22 = .ok (.putfield 35, 3) := by decide +kernel
theorem dX3_envies_25 : decode cX3_envies 25 = .ok (.aload_n 0, 1) := by decide +kernel
theorem dX3_envies_26 : decode cX3_envies 26 = .ok (.getfield 35, 3) := by decide +kernel
theorem dX3_envies_29 : decode cX3_envies 29 = .ok (.ifCond .eq 5, 3) := by decide +kernel
theorem dX3_envies_32 : decode cX3_envies 32 = .ok (.iconst 0, 1) := by decide +kernel
theorem dX3_envies_33 : decode cX3_envies 33 = .ok (.ireturn, 1) := by decide +kernel
theorem dX3_envies_34 : decode cX3_envies 34 = .ok (.aload_n 0, 1) := by decide +kernel
theorem dX3_envies_35 : decode cX3_envies 35 = .ok (.invokevirtual 87, 3) := by decide +kernel
theorem dX3_envies_38 : decode cX3_envies 38 = .ok (.pop, 1) := by decide +kernel
theorem dX3_envies_39 : decode cX3_envies 39 = .ok (.aload_n 0, 1) := by decide +kernel
theorem dX3_envies_40 : decode cX3_envies 40 = .ok (.iload_n 1, 1) := by decide +kernel
theorem dX3_envies_41 : decode cX3_envies 41 = .ok (.iload_n 2, 1) := by decide +kernel
theorem dX3_envies_42 : decode cX3_envies 42 = .ok (.invokevirtual 104, 3) := by decide +kernel
theorem dX3_envies_45 : decode cX3_envies 45 = .ok (.ireturn, 1) := by decide +kernel
set_option maxRecDepth 20000 in
theorem ggX3_gap_X3_isOne : GoodIn wsX3_gap wsX3_isOne := goodIn_r _ [8, 9, 10, 11, 7, 12, 64, 65, 66, 67, 68, 69, 70, 71, 72, 73, 74, 75, 76, 77, 78] rfl (by decide +kernel)
set_option maxRecDepth 20000 in
theorem gX3_gap_X3_isOne : GoodIn wsX3_gap (wsV RX3 49 RX3 yX3_isOne wsX3_isOne) := goodIn_app (goodIn_of _ (by decide +kernel)) ggX3_gap_X3_isOne
set_option maxRecDepth 20000 in
theorem ggX3_gap_X3_fail : GoodIn wsX3_gap wsX3_fail := goodIn_r _ [16, 1, 64, 65, 66, 67, 68, 69, 70, 71, 72, 73, 74, 75, 76, 77, 78] rfl (by decide +kernel)
set_option maxRecDepth 20000 in
theorem gX3_gap_X3_fail : GoodIn wsX3_gap (wsV RX3 45 RX3 yX3_fail wsX3_fail) := goodIn_app (goodIn_of _ (by decide +kernel)) ggX3_gap_X3_fail
set_option maxRecDepth 20000 in
theorem ggX3_gap_X3_settle : GoodIn wsX3_gap wsX3_settle := goodIn_r _ [20, 21, 22, 9, 23, 2, 24, 25, 26, 27, 7, 28, 29, 30, 31, 32, 33, 34, 3, 35, 36, 37, 38, 39, 40, 41, 42, 43, 44, 45, 46, 47, 48, 49, 50, 51, 52, 53, 54, 55, 56, 57, 58, 59, 64, 65, 66, 67, 68, 69, 70, 71, 72, 73, 74, 75, 76, 77, 78] rfl (by decide +kernel)
set_option maxRecDepth 20000 in
theorem gX3_gap_X3_settle : GoodIn wsX3_gap (wsV RX3 98 RX3 yX3_settle wsX3_settle) := goodIn_app (goodIn_of _ (by decide +kernel)) ggX3_gap_X3_settle
set_option maxRecDepth 20000 in
theorem ggX3_gap_X3_bi : GoodIn wsX3_gap wsX3_bi := goodIn_r _ [50, 51, 64, 65, 66, 67, 68, 69, 70, 71, 72, 73, 74, 75, 76, 77, 78] rfl (by decide +kernel)
set_option maxRecDepth 20000 in
theorem gX3_gap_X3_bi : GoodIn wsX3_gap (wsV RX3 53 RX3 yX3_bi wsX3_bi) := goodIn_app (goodIn_of _ (by decide +kernel)) ggX3_gap_X3_bi
set_option maxRecDepth 20000 in
theorem ggX3_gap_X3_pays : GoodIn wsX3_gap wsX3_pays := goodIn_r _ [63, 3, 2, 47, 48, 49, 7, 50, 51, 64, 65, 66, 67, 68, 69, 70, 71, 72, 73, 74, 75, 76, 77, 78] rfl (by decide +kernel)
set_option maxRecDepth 20000 in
theorem gX3_gap_X3_pays : GoodIn wsX3_gap (wsV RX3 101 RX3 yX3_pays wsX3_pays) := goodIn_app (goodIn_of _ (by decide +kernel)) ggX3_gap_X3_pays
theorem dX3_gap_0 : decode cX3_gap 0 = .ok (.aload_n 0, 1) := by decide +kernel
theorem dX3_gap_1 : decode cX3_gap 1 = .ok (.iconst 0, 1) := by decide +kernel
theorem dX3_gap_2 : decode cX3_gap 2 = .ok (.putfield 35, 3) := by decide +kernel
theorem dX3_gap_5 : decode cX3_gap 5 = .ok (.aload_n 0, 1) := by decide +kernel
theorem dX3_gap_6 : decode cX3_gap 6 = .ok (.iload_n 1, 1) := by decide +kernel
theorem dX3_gap_7 : decode cX3_gap 7 = .ok (.invokevirtual 49, 3) := by decide +kernel
theorem dX3_gap_10 : decode cX3_gap 10 = .ok (.ifCond .eq 11, 3) := by decide +kernel
theorem dX3_gap_13 : decode cX3_gap 13 = .ok (.aload_n 0, 1) := by decide +kernel
theorem dX3_gap_14 : decode cX3_gap 14 = .ok (.iload_n 2, 1) := by decide +kernel
theorem dX3_gap_15 : decode cX3_gap 15 = .ok (.invokevirtual 49, 3) := by decide +kernel
theorem dX3_gap_18 : decode cX3_gap 18 = .ok (.ifCond .ne 9, 3) := by decide +kernel
theorem dX3_gap_21 : decode cX3_gap 21 = .ok (.aload_n 0, 1) := by decide +kernel
theorem dX3_gap_22 : decode cX3_gap 22 = .ok (.iconst 1, 1) := by decide +kernel
theorem dX3_gap_23 : decode cX3_gap 23 = .ok (.invokevirtual 45, 3) := by decide +kernel
theorem dX3_gap_26 : decode cX3_gap 26 = .ok (.ireturn, 1) := by decide +kernel
theorem dX3_gap_27 : decode cX3_gap 27 = .ok (.aload_n 0, 1) := by decide +kernel
theorem dX3_gap_28 : decode cX3_gap 28 = .ok (.invokevirtual 98, 3) := by decide +kernel
theorem dX3_gap_31 : decode cX3_gap 31 = .ok (.aload_n 0, 1) := by decide +kernel
theorem dX3_gap_32 : decode cX3_gap 32 = .ok (.getfield 19, 3) := by decide +kernel
theorem dX3_gap_35 : decode cX3_gap 35 = .ok (.iload_n 1, 1) := by decide +kernel
theorem dX3_gap_36 : decode cX3_gap 36 = .ok (.iaload, 1) := by decide +kernel
theorem dX3_gap_37 : decode cX3_gap 37 = .ok (.aload_n 0, 1) := by decide +kernel
theorem dX3_gap_38 : decode cX3_gap 38 = .ok (.iload_n 1, 1) := by decide +kernel
theorem dX3_gap_39 : decode cX3_gap 39 = .ok (.aload_n 0, 1) := by decide +kernel
theorem dX3_gap_40 : decode cX3_gap 40 = .ok (.getfield 13, 3) := by decide +kernel
theorem dX3_gap_43 : decode cX3_gap 43 = .ok (.iload_n 2, 1) := by decide +kernel
theorem dX3_gap_44 : decode cX3_gap 44 = .ok (.iaload, 1) := by decide +kernel
theorem dX3_gap_45 : decode cX3_gap 45 = .ok (.invokevirtual 53, 3) := by decide +kernel
theorem dX3_gap_48 : decode cX3_gap 48 = .ok (.aload_n 0, 1) := by decide +kernel
theorem dX3_gap_49 : decode cX3_gap 49 = .ok (.iload_n 2, 1) := by decide +kernel
theorem dX3_gap_50 : decode cX3_gap 50 = .ok (.invokevirtual 101, 3) := by decide +kernel
theorem dX3_gap_53 : decode cX3_gap 53 = .ok (.isub, 1) := by decide +kernel
theorem dX3_gap_54 : decode cX3_gap 54 = .ok (.isub, 1) := by decide +kernel
theorem dX3_gap_55 : decode cX3_gap 55 = .ok (.ireturn, 1) := by decide +kernel
set_option maxRecDepth 20000 in
theorem ggX3_chainFrom_X3_isEnvy : GoodIn wsX3_chainFrom wsX3_isEnvy := goodIn_r _ [10, 11, 12, 13, 14, 9, 15, 16, 20, 21, 22, 23, 24, 25, 26, 27, 28, 29, 30, 31, 32, 33, 34] rfl (by decide +kernel)
set_option maxRecDepth 20000 in
theorem gX3_chainFrom_X3_isEnvy : GoodIn wsX3_chainFrom (wsV RX3 104 RX3 yX3_isEnvy wsX3_isEnvy) := goodIn_app (goodIn_of _ (by decide +kernel)) ggX3_chainFrom_X3_isEnvy
set_option maxRecDepth 20000 in
theorem ggX3_chainFrom_X3_chainFrom : GoodIn wsX3_chainFrom wsX3_chainFrom := goodIn_r _ [0, 1, 2, 3, 4, 5, 6, 7, 8, 9, 10, 11, 12, 13, 14, 15, 16, 17, 18, 19, 20, 21, 22, 23, 24, 25, 26, 27, 28, 29, 30, 31, 32, 33, 34] rfl (by decide +kernel)
set_option maxRecDepth 20000 in
theorem gX3_chainFrom_X3_chainFrom : GoodIn wsX3_chainFrom (wsV RX3 113 RX3 yX3_chainFrom wsX3_chainFrom) := goodIn_app (goodIn_of _ (by decide +kernel)) ggX3_chainFrom_X3_chainFrom
theorem dX3_chainFrom_0 : decode cX3_chainFrom 0 = .ok (.iconst 0, 1) := by decide +kernel
theorem dX3_chainFrom_1 : decode cX3_chainFrom 1 = .ok (.istore_n 2, 1) := by decide +kernel
theorem dX3_chainFrom_2 : decode cX3_chainFrom 2 = .ok (.iconst 0, 1) := by decide +kernel
theorem dX3_chainFrom_3 : decode cX3_chainFrom 3 = .ok (.istore_n 3, 1) := by decide +kernel
theorem dX3_chainFrom_4 : decode cX3_chainFrom 4 = .ok (.iload_n 3, 1) := by decide +kernel
theorem dX3_chainFrom_5 : decode cX3_chainFrom 5 = .ok (.aload_n 0, 1) := by decide +kernel
theorem dX3_chainFrom_6 : decode cX3_chainFrom 6 = .ok (.getfield 38, 3) := by decide +kernel
theorem dX3_chainFrom_9 : decode cX3_chainFrom 9 = .ok (.if_icmp .ge 28, 3) := by decide +kernel
theorem dX3_chainFrom_12 : decode cX3_chainFrom 12 = .ok (.aload_n 0, 1) := by decide +kernel
theorem dX3_chainFrom_13 : decode cX3_chainFrom 13 = .ok (.iload_n 1, 1) := by decide +kernel
theorem dX3_chainFrom_14 : decode cX3_chainFrom 14 = .ok (.iload_n 3, 1) := by decide +kernel
theorem dX3_chainFrom_15 : decode cX3_chainFrom 15 = .ok (.invokevirtual 104, 3) := by decide +kernel
theorem dX3_chainFrom_18 : decode cX3_chainFrom 18 = .ok (.ifCond .eq 13, 3) := by decide +kernel
theorem dX3_chainFrom_21 : decode cX3_chainFrom 21 = .ok (.iload_n 2, 1) := by decide +kernel
theorem dX3_chainFrom_22 : decode cX3_chainFrom 22 = .ok (.aload_n 0, 1) := by decide +kernel
theorem dX3_chainFrom_23 : decode cX3_chainFrom 23 = .ok (.iload_n 3, 1) := by decide +kernel
theorem dX3_chainFrom_24 : decode cX3_chainFrom 24 = .ok (.invokevirtual 113, 3) := by decide +kernel
theorem dX3_chainFrom_27 : decode cX3_chainFrom 27 = .ok (.invokestatic 116, 3) := by decide +kernel
theorem dX3_chainFrom_30 : decode cX3_chainFrom 30 = .ok (.istore_n 2, 1) := by decide +kernel
theorem dX3_chainFrom_31 : decode cX3_chainFrom 31 = .ok (.iinc 3 1, 3) := by decide +kernel
theorem dX3_chainFrom_34 : decode cX3_chainFrom 34 = .ok (.goto (-30), 3) := by decide +kernel
theorem dX3_chainFrom_37 : decode cX3_chainFrom 37 = .ok (.iload_n 2, 1) := by decide +kernel
theorem dX3_chainFrom_38 : decode cX3_chainFrom 38 = .ok (.iconst 1, 1) := by decide +kernel
theorem dX3_chainFrom_39 : decode cX3_chainFrom 39 = .ok (.iadd, 1) := by decide +kernel
theorem dX3_chainFrom_40 : decode cX3_chainFrom 40 = .ok (.ireturn, 1) := by decide +kernel
set_option maxRecDepth 20000 in
theorem ggX3_chain_X3_give : GoodIn wsX3_chain wsX3_give := goodIn_r _ [11, 12, 13, 14, 15, 16, 10, 17, 2, 18, 19, 20, 21, 22, 23, 24, 25, 26, 27, 28, 29, 30, 31, 32, 33, 34, 35, 36, 45, 46, 47, 48, 49, 50, 51, 52, 53, 54, 55, 56, 57, 58, 59] rfl (by decide +kernel)
set_option maxRecDepth 20000 in
theorem gX3_chain_X3_give : GoodIn wsX3_chain (wsV RX3 87 RX3 yX3_give wsX3_give) := goodIn_app (goodIn_of _ (by decide +kernel)) ggX3_chain_X3_give
set_option maxRecDepth 20000 in
theorem ggX3_chain_X3_chainFrom : GoodIn wsX3_chain wsX3_chainFrom := goodIn_r _ [40, 2, 3, 4, 5, 6, 41, 42, 43, 10, 44, 19, 32, 33, 34, 35, 36, 37, 38, 39, 45, 46, 47, 48, 49, 50, 51, 52, 53, 54, 55, 56, 57, 58, 59] rfl (by decide +kernel)
set_option maxRecDepth 20000 in
theorem gX3_chain_X3_chainFrom : GoodIn wsX3_chain (wsV RX3 113 RX3 yX3_chainFrom wsX3_chainFrom) := goodIn_app (goodIn_of _ (by decide +kernel)) ggX3_chain_X3_chainFrom
theorem dX3_chain_0 : decode cX3_chain 0 = .ok (.aload_n 0, 1) := by decide +kernel
theorem dX3_chain_1 : decode cX3_chain 1 = .ok (.iconst 0, 1) := by decide +kernel
theorem dX3_chain_2 : decode cX3_chain 2 = .ok (.putfield 35, 3) := by decide +kernel
theorem dX3_chain_5 : decode cX3_chain 5 = .ok (.aload_n 0, 1) := by decide +kernel
theorem dX3_chain_6 : decode cX3_chain 6 = .ok (.invokevirtual 87, 3) := by decide +kernel
theorem dX3_chain_9 : decode cX3_chain 9 = .ok (.pop, 1) := by decide +kernel
theorem dX3_chain_10 : decode cX3_chain 10 = .ok (.iconst 0, 1) := by decide +kernel
theorem dX3_chain_11 : decode cX3_chain 11 = .ok (.istore_n 1, 1) := by decide +kernel
theorem dX3_chain_12 : decode cX3_chain 12 = .ok (.iconst 0, 1) := by decide +kernel
theorem dX3_chain_13 : decode cX3_chain 13 = .ok (.istore_n 2, 1) := by decide +kernel
theorem dX3_chain_14 : decode cX3_chain 14 = .ok (.iload_n 2, 1) := by decide +kernel
theorem dX3_chain_15 : decode cX3_chain 15 = .ok (.aload_n 0, 1) := by decide +kernel
theorem dX3_chain_16 : decode cX3_chain 16 = .ok (.getfield 38, 3) := by decide +kernel
theorem dX3_chain_19 : decode cX3_chain 19 = .ok (.if_icmp .ge 19, 3) := by decide +kernel
theorem dX3_chain_22 : decode cX3_chain 22 = .ok (.iload_n 1, 1) := by decide +kernel
theorem dX3_chain_23 : decode cX3_chain 23 = .ok (.aload_n 0, 1) := by decide +kernel
theorem dX3_chain_24 : decode cX3_chain 24 = .ok (.iload_n 2, 1) := by decide +kernel
theorem dX3_chain_25 : decode cX3_chain 25 = .ok (.invokevirtual 113, 3) := by decide +kernel
theorem dX3_chain_28 : decode cX3_chain 28 = .ok (.invokestatic 116, 3) := by decide +kernel
theorem dX3_chain_31 : decode cX3_chain 31 = .ok (.istore_n 1, 1) := by decide +kernel
theorem dX3_chain_32 : decode cX3_chain 32 = .ok (.iinc 2 1, 3) := by decide +kernel
theorem dX3_chain_35 : decode cX3_chain 35 = .ok (.goto (-21), 3) := by decide +kernel
theorem dX3_chain_38 : decode cX3_chain 38 = .ok (.iload_n 1, 1) := by decide +kernel
theorem dX3_chain_39 : decode cX3_chain 39 = .ok (.ireturn, 1) := by decide +kernel
set_option maxRecDepth 20000 in
theorem ggX3_roomWith_X3_bi : GoodIn wsX3_roomWith wsX3_bi := goodIn_r _ [7, 1, 32, 33, 34, 35, 36, 37, 38, 39, 40, 41, 42, 43, 44, 45, 46] rfl (by decide +kernel)
set_option maxRecDepth 20000 in
theorem gX3_roomWith_X3_bi : GoodIn wsX3_roomWith (wsV RX3 53 RX3 yX3_bi wsX3_bi) := goodIn_app (goodIn_of _ (by decide +kernel)) ggX3_roomWith_X3_bi
set_option maxRecDepth 20000 in
theorem ggX3_roomWith_X3_give : GoodIn wsX3_roomWith wsX3_give := goodIn_r _ [11, 12, 13, 14, 15, 16, 6, 17, 18, 19, 2, 20, 21, 22, 23, 24, 25, 26, 27, 28, 29, 30, 31, 3, 4, 5, 7, 1, 32, 33, 34, 35, 36, 37, 38, 39, 40, 41, 42, 43, 44, 45, 46] rfl (by decide +kernel)
set_option maxRecDepth 20000 in
theorem gX3_roomWith_X3_give : GoodIn wsX3_roomWith (wsV RX3 87 RX3 yX3_give wsX3_give) := goodIn_app (goodIn_of _ (by decide +kernel)) ggX3_roomWith_X3_give
theorem dX3_roomWith_0 : decode cX3_roomWith 0 = .ok (.aload_n 0, 1) := by decide +kernel
theorem dX3_roomWith_1 : decode cX3_roomWith 1 = .ok (.iload_n 1, 1) := by decide +kernel
theorem dX3_roomWith_2 : decode cX3_roomWith 2 = .ok (.iload_n 2, 1) := by decide +kernel
theorem dX3_roomWith_3 : decode cX3_roomWith 3 = .ok (.invokevirtual 53, 3) := by decide +kernel
theorem dX3_roomWith_6 : decode cX3_roomWith 6 = .ok (.istore 4, 2) := by decide +kernel
theorem dX3_roomWith_8 : decode cX3_roomWith 8 = .ok (.aload_n 0, 1) := by decide +kernel
theorem dX3_roomWith_9 : decode cX3_roomWith 9 = .ok (.getfield 9, 3) := by decide +kernel
theorem dX3_roomWith_12 : decode cX3_roomWith 12 = .ok (.bipush 6, 2) := by decide +kernel
theorem dX3_roomWith_14 : decode cX3_roomWith 14 = .ok (.iload_n 1, 1) := by decide +kernel
theorem dX3_roomWith_15 : decode cX3_roomWith 15 = .ok (.imul, 1) := by decide +kernel
theorem dX3_roomWith_16 : decode cX3_roomWith 16 = .ok (.iload_n 2, 1) := by decide +kernel
theorem dX3_roomWith_17 : decode cX3_roomWith 17 = .ok (.iadd, 1) := by decide +kernel
theorem dX3_roomWith_18 : decode cX3_roomWith 18 = .ok (.iload_n 3, 1) := by decide +kernel
theorem dX3_roomWith_19 : decode cX3_roomWith 19 = .ok (.iastore, 1) := by decide +kernel
theorem dX3_roomWith_20 : decode cX3_roomWith 20 = .ok (.aload_n 0, 1) := by decide +kernel
theorem dX3_roomWith_21 : decode cX3_roomWith 21 = .ok (.invokevirtual 87, 3) := by decide +kernel
theorem dX3_roomWith_24 : decode cX3_roomWith 24 = .ok (.pop, 1) := by decide +kernel
theorem dX3_roomWith_25 : decode cX3_roomWith 25 = .ok (.aload_n 0, 1) := by decide +kernel
theorem dX3_roomWith_26 : decode cX3_roomWith 26 = .ok (.getfield 9, 3) := by decide +kernel
theorem dX3_roomWith_29 : decode cX3_roomWith 29 = .ok (.bipush 6, 2) := by decide +kernel
theorem dX3_roomWith_31 : decode cX3_roomWith 31 = .ok (.iload_n 1, 1) := by decide +kernel
theorem dX3_roomWith_32 : decode cX3_roomWith 32 = .ok (.imul, 1) := by decide +kernel
theorem dX3_roomWith_33 : decode cX3_roomWith 33 = .ok (.iload_n 2, 1) := by decide +kernel
theorem dX3_roomWith_34 : decode cX3_roomWith 34 = .ok (.iadd, 1) := by decide +kernel
theorem dX3_roomWith_35 : decode cX3_roomWith 35 = .ok (.iload 4, 2) := by decide +kernel
theorem dX3_roomWith_37 : decode cX3_roomWith 37 = .ok (.iastore, 1) := by decide +kernel
theorem dX3_roomWith_38 : decode cX3_roomWith 38 = .ok (.aload_n 0, 1) := by decide +kernel
theorem dX3_roomWith_39 : decode cX3_roomWith 39 = .ok (.getfield 13, 3) := by decide +kernel
theorem dX3_roomWith_42 : decode cX3_roomWith 42 = .ok (.iload_n 1, 1) := by decide +kernel
theorem dX3_roomWith_43 : decode cX3_roomWith 43 = .ok (.iaload, 1) := by decide +kernel
theorem dX3_roomWith_44 : decode cX3_roomWith 44 = .ok (.ireturn, 1) := by decide +kernel
set_option maxRecDepth 20000 in
theorem ggX3_would_X3_isOne : GoodIn wsX3_would wsX3_isOne := goodIn_r _ [6, 7, 8, 9, 5, 10, 48, 49, 50, 51, 52, 53, 54, 55, 56, 57, 58, 59, 60, 61, 62] rfl (by decide +kernel)
set_option maxRecDepth 20000 in
theorem gX3_would_X3_isOne : GoodIn wsX3_would (wsV RX3 49 RX3 yX3_isOne wsX3_isOne) := goodIn_app (goodIn_of _ (by decide +kernel)) ggX3_would_X3_isOne
set_option maxRecDepth 20000 in
theorem ggX3_would_X3_fail : GoodIn wsX3_would wsX3_fail := goodIn_r _ [14, 1, 48, 49, 50, 51, 52, 53, 54, 55, 56, 57, 58, 59, 60, 61, 62] rfl (by decide +kernel)
set_option maxRecDepth 20000 in
theorem gX3_would_X3_fail : GoodIn wsX3_would (wsV RX3 45 RX3 yX3_fail wsX3_fail) := goodIn_app (goodIn_of _ (by decide +kernel)) ggX3_would_X3_fail
set_option maxRecDepth 20000 in
theorem ggX3_would_X3_isIn : GoodIn wsX3_would wsX3_isIn := goodIn_r _ [10] rfl (by decide +kernel)
set_option maxRecDepth 20000 in
theorem gX3_would_X3_isIn : GoodIn wsX3_would (va_wsS RX3 41 yX3_isIn wsX3_isIn) := goodIn_app (goodIn_of _ (by decide +kernel)) ggX3_would_X3_isIn
set_option maxRecDepth 20000 in
theorem ggX3_would_X3_roomWith : GoodIn wsX3_would wsX3_roomWith := goodIn_r _ [18, 19, 20, 21, 22, 23, 5, 24, 25, 26, 27, 28, 29, 30, 31, 32, 33, 34, 7, 35, 36, 37, 38, 39, 40, 41, 42, 43, 44, 45, 46, 47, 48, 49, 50, 51, 52, 53, 54, 55, 56, 57, 58, 59, 60, 61, 62] rfl (by decide +kernel)
set_option maxRecDepth 20000 in
theorem gX3_would_X3_roomWith : GoodIn wsX3_would (wsV RX3 121 RX3 yX3_roomWith wsX3_roomWith) := goodIn_app (goodIn_of _ (by decide +kernel)) ggX3_would_X3_roomWith
theorem dX3_would_0 : decode cX3_would 0 = .ok (.aload_n 0, 1) := by decide +kernel
theorem dX3_would_1 : decode cX3_would 1 = .ok (.iconst 0, 1) := by decide +kernel
theorem dX3_would_2 : decode cX3_would 2 = .ok (.putfield 35, 3) := by decide +kernel
theorem dX3_would_5 : decode cX3_would 5 = .ok (.aload_n 0, 1) := by decide +kernel
theorem dX3_would_6 : decode cX3_would 6 = .ok (.iload_n 1, 1) := by decide +kernel
theorem dX3_would_7 : decode cX3_would 7 = .ok (.invokevirtual 49, 3) := by decide +kernel
theorem dX3_would_10 : decode cX3_would 10 = .ok (.ifCond .eq 11, 3) := by decide +kernel
theorem dX3_would_13 : decode cX3_would 13 = .ok (.aload_n 0, 1) := by decide +kernel
theorem dX3_would_14 : decode cX3_would 14 = .ok (.iload_n 2, 1) := by decide +kernel
theorem dX3_would_15 : decode cX3_would 15 = .ok (.invokevirtual 49, 3) := by decide +kernel
theorem dX3_would_18 : decode cX3_would 18 = .ok (.ifCond .ne 9, 3) := by decide +kernel
theorem dX3_would_21 : decode cX3_would 21 = .ok (.aload_n 0, 1) := by decide +kernel
theorem dX3_would_22 : decode cX3_would 22 = .ok (.iconst 1, 1) := by decide +kernel
theorem dX3_would_23 : decode cX3_would 23 = .ok (.invokevirtual 45, 3) := by decide +kernel
theorem dX3_would_26 : decode cX3_would 26 = .ok (.ireturn, 1) := by decide +kernel
theorem dX3_would_27 : decode cX3_would 27 = .ok (.iload_n 3, 1) := by decide +kernel
theorem dX3_would_28 : decode cX3_would 28 = .ok (.iconst 0, 1) := by decide +kernel
theorem dX3_would_29 : decode cX3_would 29 = .ok (.sipush 999, 3) := by decide +kernel
theorem dX3_would_32 : decode cX3_would 32 = .ok (.invokestatic 41, 3) := by decide +kernel
theorem dX3_would_35 : decode cX3_would 35 = .ok (.ifCond .eq 13, 3) := by decide +kernel
theorem dX3_would_38 : decode cX3_would 38 = .ok (.aload_n 0, 1) := by decide +kernel
theorem dX3_would_39 : decode cX3_would 39 = .ok (.iload_n 1, 1) := by decide +kernel
theorem dX3_would_40 : decode cX3_would 40 = .ok (.iload_n 2, 1) := by decide +kernel
theorem dX3_would_41 : decode cX3_would 41 = .ok (.iload_n 3, 1) := by decide +kernel
theorem dX3_would_42 : decode cX3_would 42 = .ok (.invokevirtual 121, 3) := by decide +kernel
theorem dX3_would_45 : decode cX3_would 45 = .ok (.goto 8, 3) := by decide +kernel
theorem dX3_would_48 : decode cX3_would 48 = .ok (.aload_n 0, 1) := by decide +kernel
theorem dX3_would_49 : decode cX3_would 49 = .ok (.iconst 2, 1) := by decide +kernel
theorem dX3_would_50 : decode cX3_would 50 = .ok (.invokevirtual 45, 3) := by decide +kernel
theorem dX3_would_53 : decode cX3_would 53 = .ok (.ireturn, 1) := by decide +kernel
set_option maxRecDepth 20000 in
theorem ggX3_worthWith_X3_give : GoodIn wsX3_worthWith wsX3_give := goodIn_r _ [9, 10, 11, 12, 13, 14, 8, 15, 16, 17, 18, 19, 20, 21, 22, 4, 23, 24, 25, 26, 1, 3, 2, 27, 28, 29, 30, 31, 32, 33, 34, 35, 36, 37, 38, 39, 40, 41, 42, 43, 44, 45, 46] rfl (by decide +kernel)
set_option maxRecDepth 20000 in
theorem gX3_worthWith_X3_give : GoodIn wsX3_worthWith (wsV RX3 87 RX3 yX3_give wsX3_give) := goodIn_app (goodIn_of _ (by decide +kernel)) ggX3_worthWith_X3_give
theorem dX3_worthWith_0 : decode cX3_worthWith 0 = .ok (.aload_n 0, 1) := by decide +kernel
theorem dX3_worthWith_1 : decode cX3_worthWith 1 = .ok (.iload_n 1, 1) := by decide +kernel
theorem dX3_worthWith_2 : decode cX3_worthWith 2 = .ok (.putfield 29, 3) := by decide +kernel
theorem dX3_worthWith_5 : decode cX3_worthWith 5 = .ok (.aload_n 0, 1) := by decide +kernel
theorem dX3_worthWith_6 : decode cX3_worthWith 6 = .ok (.iload_n 2, 1) := by decide +kernel
theorem dX3_worthWith_7 : decode cX3_worthWith 7 = .ok (.putfield 32, 3) := by decide +kernel
theorem dX3_worthWith_10 : decode cX3_worthWith 10 = .ok (.aload_n 0, 1) := by decide +kernel
theorem dX3_worthWith_11 : decode cX3_worthWith 11 = .ok (.iload_n 3, 1) := by decide +kernel
theorem dX3_worthWith_12 : decode cX3_worthWith 12 = .ok (.putfield 60, 3) := by decide +kernel
theorem dX3_worthWith_15 : decode cX3_worthWith 15 = .ok (.aload_n 0, 1) := by decide +kernel
theorem dX3_worthWith_16 : decode cX3_worthWith 16 = .ok (.iload 4, 2) := by decide +kernel
theorem dX3_worthWith_18 : decode cX3_worthWith 18 = .ok (.ifCond .eq 7, 3) := by decide +kernel
theorem dX3_worthWith_21 : decode cX3_worthWith 21 = .ok (.iload_n 1, 1) := by decide +kernel
theorem dX3_worthWith_22 : decode cX3_worthWith 22 = .ok (.goto 4, 3) := by decide +kernel
theorem dX3_worthWith_25 : decode cX3_worthWith 25 = .ok (.iconst (-1), 1) := by decide +kernel
theorem dX3_worthWith_26 : decode cX3_worthWith 26 = .ok (.putfield 25, 3) := by decide +kernel
theorem dX3_worthWith_29 : decode cX3_worthWith 29 = .ok (.aload_n 0, 1) := by decide +kernel
theorem dX3_worthWith_30 : decode cX3_worthWith 30 = .ok (.invokevirtual 87, 3) := by decide +kernel
theorem dX3_worthWith_33 : decode cX3_worthWith 33 = .ok (.istore 5, 2) := by decide +kernel
theorem dX3_worthWith_35 : decode cX3_worthWith 35 = .ok (.aload_n 0, 1) := by decide +kernel
theorem dX3_worthWith_36 : decode cX3_worthWith 36 = .ok (.iconst (-1), 1) := by decide +kernel
theorem dX3_worthWith_37 : decode cX3_worthWith 37 = .ok (.putfield 29, 3) := by decide +kernel
theorem dX3_worthWith_40 : decode cX3_worthWith 40 = .ok (.aload_n 0, 1) := by decide +kernel
theorem dX3_worthWith_41 : decode cX3_worthWith 41 = .ok (.iconst (-1), 1) := by decide +kernel
theorem dX3_worthWith_42 : decode cX3_worthWith 42 = .ok (.putfield 32, 3) := by decide +kernel
theorem dX3_worthWith_45 : decode cX3_worthWith 45 = .ok (.aload_n 0, 1) := by decide +kernel
theorem dX3_worthWith_46 : decode cX3_worthWith 46 = .ok (.iconst (-1), 1) := by decide +kernel
theorem dX3_worthWith_47 : decode cX3_worthWith 47 = .ok (.putfield 25, 3) := by decide +kernel
theorem dX3_worthWith_50 : decode cX3_worthWith 50 = .ok (.iload 5, 2) := by decide +kernel
theorem dX3_worthWith_52 : decode cX3_worthWith 52 = .ok (.ireturn, 1) := by decide +kernel
set_option maxRecDepth 20000 in
theorem ggX3_needs_X3_isOne : GoodIn wsX3_needs wsX3_isOne := goodIn_r _ [13, 14, 15, 16, 12, 17, 59, 60, 61, 62, 63, 64, 65, 66, 67, 68, 69, 70, 71, 72, 73] rfl (by decide +kernel)
set_option maxRecDepth 20000 in
theorem gX3_needs_X3_isOne : GoodIn wsX3_needs (wsV RX3 49 RX3 yX3_isOne wsX3_isOne) := goodIn_app (goodIn_of _ (by decide +kernel)) ggX3_needs_X3_isOne
set_option maxRecDepth 20000 in
theorem ggX3_needs_X3_fail : GoodIn wsX3_needs wsX3_fail := goodIn_r _ [21, 1, 59, 60, 61, 62, 63, 64, 65, 66, 67, 68, 69, 70, 71, 72, 73] rfl (by decide +kernel)
set_option maxRecDepth 20000 in
theorem gX3_needs_X3_fail : GoodIn wsX3_needs (wsV RX3 45 RX3 yX3_fail wsX3_fail) := goodIn_app (goodIn_of _ (by decide +kernel)) ggX3_needs_X3_fail
set_option maxRecDepth 20000 in
theorem ggX3_needs_X3_worthWith : GoodIn wsX3_needs wsX3_worthWith := goodIn_r _ [25, 26, 27, 28, 29, 30, 31, 32, 12, 33, 34, 35, 36, 37, 38, 39, 14, 40, 41, 42, 43, 44, 45, 46, 47, 48, 49, 50, 51, 52, 53, 54, 59, 60, 61, 62, 63, 64, 65, 66, 67, 68, 69, 70, 71, 72, 73] rfl (by decide +kernel)
set_option maxRecDepth 20000 in
theorem gX3_needs_X3_worthWith : GoodIn wsX3_needs (wsV RX3 125 RX3 yX3_worthWith wsX3_worthWith) := goodIn_app (goodIn_of _ (by decide +kernel)) ggX3_needs_X3_worthWith
set_option maxRecDepth 20000 in
theorem ggX3_needs_X3_roomWith : GoodIn wsX3_needs wsX3_roomWith := goodIn_r _ [58, 54, 41, 50, 51, 52, 12, 53, 30, 31, 32, 33, 34, 35, 36, 37, 38, 39, 14, 40, 42, 43, 44, 45, 29, 46, 47, 48, 49, 26, 28, 27, 59, 60, 61, 62, 63, 64, 65, 66, 67, 68, 69, 70, 71, 72, 73] rfl (by decide +kernel)
set_option maxRecDepth 20000 in
theorem gX3_needs_X3_roomWith : GoodIn wsX3_needs (wsV RX3 121 RX3 yX3_roomWith wsX3_roomWith) := goodIn_app (goodIn_of _ (by decide +kernel)) ggX3_needs_X3_roomWith
theorem dX3_needs_0 : decode cX3_needs 0 = .ok (.aload_n 0, 1) := by decide +kernel
theorem dX3_needs_1 : decode cX3_needs 1 = .ok (.iconst 0, 1) := by decide +kernel
theorem dX3_needs_2 : decode cX3_needs 2 = .ok (.putfield 35, 3) := by decide +kernel
theorem dX3_needs_5 : decode cX3_needs 5 = .ok (.aload_n 0, 1) := by decide +kernel
theorem dX3_needs_6 : decode cX3_needs 6 = .ok (.iload_n 1, 1) := by decide +kernel
theorem dX3_needs_7 : decode cX3_needs 7 = .ok (.invokevirtual 49, 3) := by decide +kernel
theorem dX3_needs_10 : decode cX3_needs 10 = .ok (.ifCond .eq 11, 3) := by decide +kernel
theorem dX3_needs_13 : decode cX3_needs 13 = .ok (.aload_n 0, 1) := by decide +kernel
theorem dX3_needs_14 : decode cX3_needs 14 = .ok (.iload_n 2, 1) := by decide +kernel
theorem dX3_needs_15 : decode cX3_needs 15 = .ok (.invokevirtual 49, 3) := by decide +kernel
theorem dX3_needs_18 : decode cX3_needs 18 = .ok (.ifCond .ne 9, 3) := by decide +kernel
theorem dX3_needs_21 : decode cX3_needs 21 = .ok (.aload_n 0, 1) := by decide +kernel
theorem dX3_needs_22 : decode cX3_needs 22 = .ok (.iconst 1, 1) := by decide +kernel
theorem dX3_needs_23 : decode cX3_needs 23 = .ok (.invokevirtual 45, 3) := by decide +kernel
theorem dX3_needs_26 : decode cX3_needs 26 = .ok (.ireturn, 1) := by decide +kernel
theorem dX3_needs_27 : decode cX3_needs 27 = .ok (.aload_n 0, 1) := by decide +kernel
theorem dX3_needs_28 : decode cX3_needs 28 = .ok (.iload_n 1, 1) := by decide +kernel
theorem dX3_needs_29 : decode cX3_needs 29 = .ok (.iload_n 2, 1) := by decide +kernel
theorem dX3_needs_30 : decode cX3_needs 30 = .ok (.iconst 1, 1) := by decide +kernel
theorem dX3_needs_31 : decode cX3_needs 31 = .ok (.iconst 1, 1) := by decide +kernel
theorem dX3_needs_32 : decode cX3_needs 32 = .ok (.invokevirtual 125, 3) := by decide +kernel
theorem dX3_needs_35 : decode cX3_needs 35 = .ok (.istore_n 3, 1) := by decide +kernel
theorem dX3_needs_36 : decode cX3_needs 36 = .ok (.aload_n 0, 1) := by decide +kernel
theorem dX3_needs_37 : decode cX3_needs 37 = .ok (.iload_n 1, 1) := by decide +kernel
theorem dX3_needs_38 : decode cX3_needs 38 = .ok (.iload_n 2, 1) := by decide +kernel
theorem dX3_needs_39 : decode cX3_needs 39 = .ok (.iconst 0, 1) := by decide +kernel
theorem dX3_needs_40 : decode cX3_needs 40 = .ok (.iconst 0, 1) := by decide +kernel
theorem dX3_needs_41 : decode cX3_needs 41 = .ok (.invokevirtual 125, 3) := by decide +kernel
theorem dX3_needs_44 : decode cX3_needs 44 = .ok (.istore 4, 2) := by decide +kernel
theorem dX3_needs_46 : decode cX3_needs 46 = .ok (.iconst 0, 1) := by decide +kernel
theorem dX3_needs_47 : decode cX3_needs 47 = .ok (.iload 4, 2) := by decide +kernel
theorem dX3_needs_49 : decode cX3_needs 49 = .ok (.iload_n 3, 1) := by decide +kernel
theorem dX3_needs_50 : decode cX3_needs 50 = .ok (.isub, 1) := by decide +kernel
theorem dX3_needs_51 : decode cX3_needs 51 = .ok (.invokestatic 116, 3) := by decide +kernel
theorem dX3_needs_54 : decode cX3_needs 54 = .ok (.istore 5, 2) := by decide +kernel
theorem dX3_needs_56 : decode cX3_needs 56 = .ok (.iload 5, 2) := by decide +kernel
theorem dX3_needs_58 : decode cX3_needs 58 = .ok (.istore 6, 2) := by decide +kernel
theorem dX3_needs_60 : decode cX3_needs 60 = .ok (.iload 6, 2) := by decide +kernel
theorem dX3_needs_62 : decode cX3_needs 62 = .ok (.sipush 999, 3) := by decide +kernel
theorem dX3_needs_65 : decode cX3_needs 65 = .ok (.iload 5, 2) := by decide +kernel
theorem dX3_needs_67 : decode cX3_needs 67 = .ok (.iconst 1, 1) := by decide +kernel
theorem dX3_needs_68 : decode cX3_needs 68 = .ok (.iadd, 1) := by decide +kernel
theorem dX3_needs_69 : decode cX3_needs 69 = .ok (.invokestatic 129, 3) := by decide +kernel
theorem dX3_needs_72 : decode cX3_needs 72 = .ok (.if_icmp .gt 24, 3) := by decide +kernel
theorem dX3_needs_75 : decode cX3_needs 75 = .ok (.aload_n 0, 1) := by decide +kernel
theorem dX3_needs_76 : decode cX3_needs 76 = .ok (.iload_n 1, 1) := by decide +kernel
theorem dX3_needs_77 : decode cX3_needs 77 = .ok (.iload_n 2, 1) := by decide +kernel
theorem dX3_needs_78 : decode cX3_needs 78 = .ok (.iload 6, 2) := by decide +kernel
theorem dX3_needs_80 : decode cX3_needs 80 = .ok (.invokevirtual 121, 3) := by decide +kernel
theorem dX3_needs_83 : decode cX3_needs 83 = .ok (.iload_n 2, 1) := by decide +kernel
theorem dX3_needs_84 : decode cX3_needs 84 = .ok (.if_icmp .ne 6, 3) := by decide +kernel
theorem dX3_needs_87 : decode cX3_needs 87 = .ok (.iload 6, 2) := by decide +kernel
theorem dX3_needs_89 : decode cX3_needs 89 = .ok (.ireturn, 1) := by decide +kernel
theorem dX3_needs_90 : decode cX3_needs 90 = .ok (.iinc 6 1, 3) := by decide +kernel
theorem dX3_needs_93 : decode cX3_needs 93 = .ok (.goto (-33), 3) := by decide +kernel
theorem dX3_needs_96 : decode cX3_needs 96 = .ok (.iconst (-1), 1) := by decide +kernel
theorem dX3_needs_97 : decode cX3_needs 97 = .ok (.ireturn, 1) := by decide +kernel
set_option maxRecDepth 20000 in
theorem ggX3_without_X3_isOne : GoodIn wsX3_without wsX3_isOne := goodIn_r _ [7, 8, 9, 10, 6, 11, 44, 45, 46, 47, 48, 49, 50, 51, 52, 53, 54, 55, 56, 57, 58] rfl (by decide +kernel)
set_option maxRecDepth 20000 in
theorem gX3_without_X3_isOne : GoodIn wsX3_without (wsV RX3 49 RX3 yX3_isOne wsX3_isOne) := goodIn_app (goodIn_of _ (by decide +kernel)) ggX3_without_X3_isOne
set_option maxRecDepth 20000 in
theorem ggX3_without_X3_fail : GoodIn wsX3_without wsX3_fail := goodIn_r _ [15, 1, 44, 45, 46, 47, 48, 49, 50, 51, 52, 53, 54, 55, 56, 57, 58] rfl (by decide +kernel)
set_option maxRecDepth 20000 in
theorem gX3_without_X3_fail : GoodIn wsX3_without (wsV RX3 45 RX3 yX3_fail wsX3_fail) := goodIn_app (goodIn_of _ (by decide +kernel)) ggX3_without_X3_fail
set_option maxRecDepth 20000 in
theorem ggX3_without_X3_give : GoodIn wsX3_without wsX3_give := goodIn_r _ [19, 20, 21, 22, 23, 24, 6, 25, 8, 26, 27, 28, 29, 30, 31, 2, 32, 33, 34, 35, 36, 37, 38, 39, 40, 41, 42, 43, 44, 45, 46, 47, 48, 49, 50, 51, 52, 53, 54, 55, 56, 57, 58] rfl (by decide +kernel)
set_option maxRecDepth 20000 in
theorem gX3_without_X3_give : GoodIn wsX3_without (wsV RX3 87 RX3 yX3_give wsX3_give) := goodIn_app (goodIn_of _ (by decide +kernel)) ggX3_without_X3_give
theorem dX3_without_0 : decode cX3_without 0 = .ok (.aload_n 0, 1) := by decide +kernel
theorem dX3_without_1 : decode cX3_without 1 = .ok (.iconst 0, 1) := by decide +kernel
theorem dX3_without_2 : decode cX3_without 2 = .ok (.putfield 35, 3) := by decide +kernel
theorem dX3_without_5 : decode cX3_without 5 = .ok (.aload_n 0, 1) := by decide +kernel
theorem dX3_without_6 : decode cX3_without 6 = .ok (.iload_n 1, 1) := by decide +kernel
theorem dX3_without_7 : decode cX3_without 7 = .ok (.invokevirtual 49, 3) := by decide +kernel
theorem dX3_without_10 : decode cX3_without 10 = .ok (.ifCond .ne 9, 3) := by decide +kernel
theorem dX3_without_13 : decode cX3_without 13 = .ok (.aload_n 0, 1) := by decide +kernel
theorem dX3_without_14 : decode cX3_without 14 = .ok (.iconst 1, 1) := by decide +kernel
theorem dX3_without_15 : decode cX3_without 15 = .ok (.invokevirtual 45, 3) := by decide +kernel
theorem dX3_without_18 : decode cX3_without 18 = .ok (.ireturn, 1) := by decide +kernel
theorem dX3_without_19 : decode cX3_without 19 = .ok (.aload_n 0, 1) := by decide +kernel
theorem dX3_without_20 : decode cX3_without 20 = .ok (.iload_n 1, 1) := by decide +kernel
theorem dX3_without_21 : decode cX3_without 21 = .ok (.putfield 25, 3) := by decide +kernel
theorem dX3_without_24 : decode cX3_without 24 = .ok (.aload_n 0, 1) := by decide +kernel
theorem dX3_without_25 : decode cX3_without 25 = .ok (.invokevirtual 87, 3) := by decide +kernel
theorem dX3_without_28 : decode cX3_without 28 = .ok (.istore_n 2, 1) := by decide +kernel
theorem dX3_without_29 : decode cX3_without 29 = .ok (.aload_n 0, 1) := by decide +kernel
theorem dX3_without_30 : decode cX3_without 30 = .ok (.iconst (-1), 1) := by decide +kernel
theorem dX3_without_31 : decode cX3_without 31 = .ok (.putfield 25, 3) := by decide +kernel
theorem dX3_without_34 : decode cX3_without 34 = .ok (.iload_n 2, 1) := by decide +kernel
theorem dX3_without_35 : decode cX3_without 35 = .ok (.ireturn, 1) := by decide +kernel
set_option maxRecDepth 20000 in
theorem ggX3_mean_X3_counted : GoodIn wsX3_mean wsX3_counted := goodIn_r _ [7, 2, 8, 9, 10, 11, 12, 13, 14, 15, 6, 16, 17, 18, 19, 20, 21, 22, 23, 24, 25, 26, 27, 28, 29, 30, 31, 32, 33, 34, 35, 36, 37, 38, 39, 40, 41, 42, 43, 44, 45, 46, 47, 48, 49, 50, 51, 52, 53, 54, 55, 56, 57, 58, 59, 60, 61, 62, 63, 64, 65, 66, 67, 68, 69, 70, 71] rfl (by decide +kernel)
set_option maxRecDepth 20000 in
theorem gX3_mean_X3_counted : GoodIn wsX3_mean (wsV RX3 110 RX3 yX3_counted wsX3_counted) := goodIn_app (goodIn_of _ (by decide +kernel)) ggX3_mean_X3_counted
theorem dX3_mean_0 : decode cX3_mean 0 = .ok (.aload_n 0, 1) := by decide +kernel
theorem dX3_mean_1 : decode cX3_mean 1 = .ok (.iconst 0, 1) := by decide +kernel
theorem dX3_mean_2 : decode cX3_mean 2 = .ok (.putfield 35, 3) := by decide +kernel
theorem dX3_mean_5 : decode cX3_mean 5 = .ok (.aload_n 0, 1) := by decide +kernel
theorem dX3_mean_6 : decode cX3_mean 6 = .ok (.bipush 6, 2) := by decide +kernel
theorem dX3_mean_8 : decode cX3_mean 8 = .ok (.invokevirtual 110, 3) := by decide +kernel
theorem dX3_mean_11 : decode cX3_mean 11 = .ok (.istore_n 1, 1) := by decide +kernel
theorem dX3_mean_12 : decode cX3_mean 12 = .ok (.aload_n 0, 1) := by decide +kernel
theorem dX3_mean_13 : decode cX3_mean 13 = .ok (.getfield 38, 3) := by decide +kernel
theorem dX3_mean_16 : decode cX3_mean 16 = .ok (.ifCond .ne 7, 3) := by decide +kernel
theorem dX3_mean_19 : decode cX3_mean 19 = .ok (.dconst 0, 1) := by decide +kernel
theorem dX3_mean_20 : decode cX3_mean 20 = .ok (.goto 11, 3) := by decide +kernel
theorem dX3_mean_23 : decode cX3_mean 23 = .ok (.iload_n 1, 1) := by decide +kernel
theorem dX3_mean_24 : decode cX3_mean 24 = .ok (.i2d, 1) := by decide +kernel
theorem dX3_mean_25 : decode cX3_mean 25 = .ok (.aload_n 0, 1) := by decide +kernel
theorem dX3_mean_26 : decode cX3_mean 26 = .ok (.getfield 38, 3) := by decide +kernel
theorem dX3_mean_29 : decode cX3_mean 29 = .ok (.i2d, 1) := by decide +kernel
theorem dX3_mean_30 : decode cX3_mean 30 = .ok (.ddiv, 1) := by decide +kernel
theorem dX3_mean_31 : decode cX3_mean 31 = .ok (.dreturn, 1) := by decide +kernel
set_option maxRecDepth 20000 in
theorem ggX3_digest_X3_counted : GoodIn wsX3_digest wsX3_counted := goodIn_r _ [9, 4, 10, 11, 12, 13, 14, 15, 16, 17, 8, 18, 19, 20, 21, 22, 23, 24, 25, 26, 27, 28, 29, 30, 31, 32, 33, 34, 35, 36, 37, 38, 39, 40, 41, 42, 43, 44, 45, 46, 47, 48, 49, 50, 51, 52, 53, 54, 55, 56, 57, 58, 67, 68, 69, 70, 71, 72, 73, 74, 75, 76, 77, 78, 79, 80, 81] rfl (by decide +kernel)
set_option maxRecDepth 20000 in
theorem gX3_digest_X3_counted : GoodIn wsX3_digest (wsV RX3 110 RX3 yX3_counted wsX3_counted) := goodIn_app (goodIn_of _ (by decide +kernel)) ggX3_digest_X3_counted
set_option maxRecDepth 20000 in
theorem ggX3_digest_X3_toldOf : GoodIn wsX3_digest wsX3_toldOf := goodIn_r _ [62, 29, 12, 19, 4, 42, 43, 44, 8, 45, 46, 55, 56, 57, 58, 63, 64, 65, 66, 67, 68, 69, 70, 71, 72, 73, 74, 75, 76, 77, 78, 79, 80, 81] rfl (by decide +kernel)
set_option maxRecDepth 20000 in
theorem gX3_digest_X3_toldOf : GoodIn wsX3_digest (wsV RX3 107 RX3 yX3_toldOf wsX3_toldOf) := goodIn_app (goodIn_of _ (by decide +kernel)) ggX3_digest_X3_toldOf
set_option maxRecDepth 20000 in
theorem ggX3_digest_X3_bi : GoodIn wsX3_digest wsX3_bi := goodIn_r _ [45, 46, 67, 68, 69, 70, 71, 72, 73, 74, 75, 76, 77, 78, 79, 80, 81] rfl (by decide +kernel)
set_option maxRecDepth 20000 in
theorem gX3_digest_X3_bi : GoodIn wsX3_digest (wsV RX3 53 RX3 yX3_bi wsX3_bi) := goodIn_app (goodIn_of _ (by decide +kernel)) ggX3_digest_X3_bi
theorem dX3_digest_0 : decode cX3_digest 0 = .ok (.aload_n 0, 1) := by decide +kernel
theorem dX3_digest_1 : decode cX3_digest 1 = .ok (.iconst 0, 1) := by decide +kernel
theorem dX3_digest_2 : decode cX3_digest 2 = .ok (.putfield 35, 3) := by decide +kernel
theorem dX3_digest_5 : decode cX3_digest 5 = .ok (.ldc2_w 132, 3) := by decide +kernel
theorem dX3_digest_8 : decode cX3_digest 8 = .ok (.lstore_n 1, 1) := by decide +kernel
theorem dX3_digest_9 : decode cX3_digest 9 = .ok (.iconst 0, 1) := by decide +kernel
theorem dX3_digest_10 : decode cX3_digest 10 = .ok (.istore_n 3, 1) := by decide +kernel
theorem dX3_digest_11 : decode cX3_digest 11 = .ok (.iload_n 3, 1) := by decide +kernel
theorem dX3_digest_12 : decode cX3_digest 12 = .ok (.bipush 7, 2) := by decide +kernel
theorem dX3_digest_14 : decode cX3_digest 14 = .ok (.if_icmp .ge 22, 3) := by decide +kernel
theorem dX3_digest_17 : decode cX3_digest 17 = .ok (.lload_n 1, 1) := by decide +kernel
theorem dX3_digest_18 : decode cX3_digest 18 = .ok (.ldc2_w 134, 3) := by decide +kernel
theorem dX3_digest_21 : decode cX3_digest 21 = .ok (.lmul, 1) := by decide +kernel
theorem dX3_digest_22 : decode cX3_digest 22 = .ok (.aload_n 0, 1) := by decide +kernel
theorem dX3_digest_23 : decode cX3_digest 23 = .ok (.iload_n 3, 1) := by decide +kernel
theorem dX3_digest_24 : decode cX3_digest 24 = .ok (.invokevirtual 110, 3) := by decide +kernel
theorem dX3_digest_27 : decode cX3_digest 27 = .ok (.i2l, 1) := by decide +kernel
theorem dX3_digest_28 : decode cX3_digest 28 = .ok (.ladd, 1) := by decide +kernel
theorem dX3_digest_29 : decode cX3_digest 29 = .ok (.lstore_n 1, 1) := by decide +kernel
theorem dX3_digest_30 : decode cX3_digest 30 = .ok (.iinc 3 1, 3) := by decide +kernel
theorem dX3_digest_33 : decode cX3_digest 33 = .ok (.goto (-22), 3) := by decide +kernel
theorem dX3_digest_36 : decode cX3_digest 36 = .ok (.iconst 0, 1) := by decide +kernel
theorem dX3_digest_37 : decode cX3_digest 37 = .ok (.istore_n 3, 1) := by decide +kernel
theorem dX3_digest_38 : decode cX3_digest 38 = .ok (.iload_n 3, 1) := by decide +kernel
theorem dX3_digest_39 : decode cX3_digest 39 = .ok (.aload_n 0, 1) := by decide +kernel
theorem dX3_digest_40 : decode cX3_digest 40 = .ok (.getfield 38, 3) := by decide +kernel
theorem dX3_digest_43 : decode cX3_digest 43 = .ok (.if_icmp .ge 73, 3) := by decide +kernel
theorem dX3_digest_46 : decode cX3_digest 46 = .ok (.iconst 0, 1) := by decide +kernel
theorem dX3_digest_47 : decode cX3_digest 47 = .ok (.istore 4, 2) := by decide +kernel
theorem dX3_digest_49 : decode cX3_digest 49 = .ok (.iload 4, 2) := by decide +kernel
theorem dX3_digest_51 : decode cX3_digest 51 = .ok (.bipush 6, 2) := by decide +kernel
theorem dX3_digest_53 : decode cX3_digest 53 = .ok (.if_icmp .ge 24, 3) := by decide +kernel
theorem dX3_digest_56 : decode cX3_digest 56 = .ok (.lload_n 1, 1) := by decide +kernel
theorem dX3_digest_57 : decode cX3_digest 57 = .ok (.ldc2_w 134, 3) := by decide +kernel
theorem dX3_digest_60 : decode cX3_digest 60 = .ok (.lmul, 1) := by decide +kernel
theorem dX3_digest_61 : decode cX3_digest 61 = .ok (.aload_n 0, 1) := by decide +kernel
theorem dX3_digest_62 : decode cX3_digest 62 = .ok (.iload_n 3, 1) := by decide +kernel
theorem dX3_digest_63 : decode cX3_digest 63 = .ok (.iload 4, 2) := by decide +kernel
theorem dX3_digest_65 : decode cX3_digest 65 = .ok (.invokevirtual 107, 3) := by decide +kernel
theorem dX3_digest_68 : decode cX3_digest 68 = .ok (.i2l, 1) := by decide +kernel
theorem dX3_digest_69 : decode cX3_digest 69 = .ok (.ladd, 1) := by decide +kernel
theorem dX3_digest_70 : decode cX3_digest 70 = .ok (.lstore_n 1, 1) := by decide +kernel
theorem dX3_digest_71 : decode cX3_digest 71 = .ok (.iinc 4 1, 3) := by decide +kernel
theorem dX3_digest_74 : decode cX3_digest 74 = .ok (.goto (-25), 3) := by decide +kernel
theorem dX3_digest_77 : decode cX3_digest 77 = .ok (.iconst 0, 1) := by decide +kernel
theorem dX3_digest_78 : decode cX3_digest 78 = .ok (.istore 4, 2) := by decide +kernel
theorem dX3_digest_80 : decode cX3_digest 80 = .ok (.iload 4, 2) := by decide +kernel
theorem dX3_digest_82 : decode cX3_digest 82 = .ok (.aload_n 0, 1) := by decide +kernel
theorem dX3_digest_83 : decode cX3_digest 83 = .ok (.getfield 38, 3) := by decide +kernel
theorem dX3_digest_86 : decode cX3_digest 86 = .ok (.if_icmp .ge 24, 3) := by decide +kernel
theorem dX3_digest_89 : decode cX3_digest 89 = .ok (.lload_n 1, 1) := by decide +kernel
theorem dX3_digest_90 : decode cX3_digest 90 = .ok (.ldc2_w 134, 3) := by decide +kernel
theorem dX3_digest_93 : decode cX3_digest 93 = .ok (.lmul, 1) := by decide +kernel
theorem dX3_digest_94 : decode cX3_digest 94 = .ok (.aload_n 0, 1) := by decide +kernel
theorem dX3_digest_95 : decode cX3_digest 95 = .ok (.iload_n 3, 1) := by decide +kernel
theorem dX3_digest_96 : decode cX3_digest 96 = .ok (.iload 4, 2) := by decide +kernel
theorem dX3_digest_98 : decode cX3_digest 98 = .ok (.invokevirtual 53, 3) := by decide +kernel
theorem dX3_digest_101 : decode cX3_digest 101 = .ok (.i2l, 1) := by decide +kernel
theorem dX3_digest_102 : decode cX3_digest 102 = .ok (.ladd, 1) := by decide +kernel
theorem dX3_digest_103 : decode cX3_digest 103 = .ok (.lstore_n 1, 1) := by decide +kernel
theorem dX3_digest_104 : decode cX3_digest 104 = .ok (.iinc 4 1, 3) := by decide +kernel
theorem dX3_digest_107 : decode cX3_digest 107 = .ok (.goto (-27), 3) := by decide +kernel
theorem dX3_digest_110 : decode cX3_digest 110 = .ok (.iinc 3 1, 3) := by decide +kernel
theorem dX3_digest_113 : decode cX3_digest 113 = .ok (.goto (-75), 3) := by decide +kernel
theorem dX3_digest_116 : decode cX3_digest 116 = .ok (.lload_n 1, 1) := by decide +kernel
theorem dX3_digest_117 : decode cX3_digest 117 = .ok (.lreturn, 1) := by decide +kernel
end
section
set_option maxRecDepth 20000 in
theorem ggL_come_X2_come : GoodIn wsL_come wsX2_come := goodIn_ca (goodIn_r _ [6, 7, 8, 9, 10, 11, 12, 13, 14, 15, 16, 17, 18, 19, 20, 21, 22, 23, 24, 25, 26, 27, 28, 29, 30, 31, 5, 32, 33, 34, 35, 36, 37, 38, 39, 40, 41, 42, 43, 44, 45, 46, 47, 48, 49, 50, 51, 52, 53, 54, 55, 56, 57, 58, 59, 60, 61, 62, 63, 64, 65, 66, 67, 68, 69, 70, 71, 72, 73, 74, 75, 76, 77, 78, 79, 80, 81, 82, 83, 84, 85, 86, 87, 88, 89, 90, 91, 92, 93, 94, 95, 96, 97, 98, 99, 100, 101, 102, 103, 104, 105, 106, 107, 108, 109, 110, 111, 112, 113, 114, 115, 116, 117] rfl (by decide +kernel)) (goodIn_sub (fun _ h => List.mem_cons_of_mem _ (List.mem_append_right _ h)) (by decide +kernel))
set_option maxRecDepth 20000 in
theorem gL_come_X2_come : GoodIn wsL_come (wsV RL 7 RX2 yX2_come wsX2_come) := goodIn_app (goodIn_of _ (by decide +kernel)) ggL_come_X2_come
theorem dL_come_0 : decode cL_come 0 = .ok (.aload_n 1, 1) := by decide +kernel
theorem dL_come_1 : decode cL_come 1 = .ok (.iconst 0, 1) := by decide +kernel
theorem dL_come_2 : decode cL_come 2 = .ok (.aload_n 0, 1) := by decide +kernel
theorem dL_come_3 : decode cL_come 3 = .ok (.invokevirtual 7, 3) := by decide +kernel
theorem dL_come_6 : decode cL_come 6 = .ok (.i2l, 1) := by decide +kernel
theorem dL_come_7 : decode cL_come 7 = .ok (.lastore, 1) := by decide +kernel
theorem dL_come_8 : decode cL_come 8 = .ok (.goto 6, 3) := by decide +kernel
theorem dL_come_11 : decode cL_come 11 = .ok (.astore_n 2, 1) := by decide +kernel
theorem dL_come_12 : decode cL_come 12 = .ok (.iconst 1, 1) := by decide +kernel
theorem dL_come_13 : decode cL_come 13 = .ok (.ireturn, 1) := by decide +kernel
theorem dL_come_14 : decode cL_come 14 = .ok (.iconst 0, 1) := by decide +kernel
theorem dL_come_15 : decode cL_come 15 = .ok (.ireturn, 1) := by decide +kernel
set_option maxRecDepth 20000 in
theorem ggL_bid_X2_bid : GoodIn wsL_bid wsX2_bid := goodIn_ca (goodIn_ca (goodIn_r _ [7, 8, 9, 10, 11, 12, 13, 14, 15, 16, 17, 18, 19, 20, 21, 22, 23, 24, 25, 26, 27, 28, 29, 30, 31, 6, 32, 33, 34, 35, 36, 37, 38, 39, 40, 41, 42, 43, 44, 45, 46, 47, 48, 49, 50, 51, 52, 53, 54, 55, 56, 57, 58, 59, 60, 61, 62, 63, 64, 65, 66, 67, 68, 69, 70, 71, 72, 73, 74, 75, 76, 77, 78, 79, 80, 81, 82, 83, 84, 85, 86, 87, 88, 89, 90, 91, 92, 93, 94, 95, 96, 97, 98, 99, 100, 101, 102, 103, 104, 105, 106, 107, 108, 109, 110, 111, 112, 113, 114, 115, 116] rfl (by decide +kernel)) (goodIn_sub (fun _ h => List.mem_cons_of_mem _ (List.mem_append_left _ (List.mem_append_right _ h))) (by decide +kernel))) (goodIn_sub (fun _ h => List.mem_cons_of_mem _ (List.mem_append_right _ h)) (by decide +kernel))
set_option maxRecDepth 20000 in
theorem gL_bid_X2_bid : GoodIn wsL_bid (wsV RL 15 RX2 yX2_bid wsX2_bid) := goodIn_app (goodIn_of _ (by decide +kernel)) ggL_bid_X2_bid
theorem dL_bid_0 : decode cL_bid 0 = .ok (.aload 4, 2) := by decide +kernel
theorem dL_bid_2 : decode cL_bid 2 = .ok (.iconst 0, 1) := by decide +kernel
theorem dL_bid_3 : decode cL_bid 3 = .ok (.aload_n 0, 1) := by decide +kernel
theorem dL_bid_4 : decode cL_bid 4 = .ok (.iload_n 1, 1) := by decide +kernel
theorem dL_bid_5 : decode cL_bid 5 = .ok (.iload_n 2, 1) := by decide +kernel
theorem dL_bid_6 : decode cL_bid 6 = .ok (.iload_n 3, 1) := by decide +kernel
theorem dL_bid_7 : decode cL_bid 7 = .ok (.invokevirtual 15, 3) := by decide +kernel
theorem dL_bid_10 : decode cL_bid 10 = .ok (.i2l, 1) := by decide +kernel
theorem dL_bid_11 : decode cL_bid 11 = .ok (.lastore, 1) := by decide +kernel
theorem dL_bid_12 : decode cL_bid 12 = .ok (.goto 11, 3) := by decide +kernel
theorem dL_bid_15 : decode cL_bid 15 = .ok (.astore 5, 2) := by decide +kernel
theorem dL_bid_17 : decode cL_bid 17 = .ok (.iconst 1, 1) := by decide +kernel
theorem dL_bid_18 : decode cL_bid 18 = .ok (.ireturn, 1) := by decide +kernel
theorem dL_bid_19 : decode cL_bid 19 = .ok (.astore 5, 2) := by decide +kernel
theorem dL_bid_21 : decode cL_bid 21 = .ok (.iconst 2, 1) := by decide +kernel
theorem dL_bid_22 : decode cL_bid 22 = .ok (.ireturn, 1) := by decide +kernel
theorem dL_bid_23 : decode cL_bid 23 = .ok (.iconst 0, 1) := by decide +kernel
theorem dL_bid_24 : decode cL_bid 24 = .ok (.ireturn, 1) := by decide +kernel
set_option maxRecDepth 20000 in
theorem ggL_rent_X2_rent : GoodIn wsL_rent wsX2_rent := goodIn_ca (goodIn_r _ [6, 7, 8, 9, 10, 11, 12, 5, 13, 14, 15, 16, 17, 18, 19, 20, 21, 22, 23, 24, 25, 26, 27, 28, 29, 30, 31, 32, 33, 34, 35, 36, 37, 38, 39, 40, 41, 42, 43, 44, 45, 46, 47, 48] rfl (by decide +kernel)) (goodIn_sub (fun _ h => List.mem_cons_of_mem _ (List.mem_append_right _ h)) (by decide +kernel))
set_option maxRecDepth 20000 in
theorem gL_rent_X2_rent : GoodIn wsL_rent (wsV RL 23 RX2 yX2_rent wsX2_rent) := goodIn_app (goodIn_of _ (by decide +kernel)) ggL_rent_X2_rent
theorem dL_rent_0 : decode cL_rent 0 = .ok (.aload_n 2, 1) := by decide +kernel
theorem dL_rent_1 : decode cL_rent 1 = .ok (.iconst 0, 1) := by decide +kernel
theorem dL_rent_2 : decode cL_rent 2 = .ok (.aload_n 0, 1) := by decide +kernel
theorem dL_rent_3 : decode cL_rent 3 = .ok (.iload_n 1, 1) := by decide +kernel
theorem dL_rent_4 : decode cL_rent 4 = .ok (.invokevirtual 23, 3) := by decide +kernel
theorem dL_rent_7 : decode cL_rent 7 = .ok (.i2l, 1) := by decide +kernel
theorem dL_rent_8 : decode cL_rent 8 = .ok (.lastore, 1) := by decide +kernel
theorem dL_rent_9 : decode cL_rent 9 = .ok (.goto 6, 3) := by decide +kernel
theorem dL_rent_12 : decode cL_rent 12 = .ok (.astore_n 3, 1) := by decide +kernel
theorem dL_rent_13 : decode cL_rent 13 = .ok (.iconst 1, 1) := by decide +kernel
theorem dL_rent_14 : decode cL_rent 14 = .ok (.ireturn, 1) := by decide +kernel
theorem dL_rent_15 : decode cL_rent 15 = .ok (.iconst 0, 1) := by decide +kernel
theorem dL_rent_16 : decode cL_rent 16 = .ok (.ireturn, 1) := by decide +kernel
set_option maxRecDepth 20000 in
theorem ggL_leave_X2_leave : GoodIn wsL_leave wsX2_leave := goodIn_ca (goodIn_r _ [6, 7, 8, 9, 10, 11, 12, 13, 14, 15, 16, 17, 18, 19, 20, 21, 22, 23, 24, 25, 26, 27, 28, 29, 30, 31, 32, 33, 34, 35, 36, 37, 38, 39, 5, 40, 41, 42, 43, 44, 45, 46, 47, 48, 49, 50, 51, 52, 53, 54, 55, 56, 57, 58, 59, 60, 61, 62, 63, 64, 65, 66, 67, 68, 69, 70, 71, 72, 73, 74, 75, 76, 77, 78, 79, 80, 81, 82, 83, 84, 85, 86, 87, 88, 89, 90, 91, 92, 93, 94, 95, 96, 97, 98, 99, 100, 101, 102, 103, 104, 105, 106, 107, 108, 109, 110, 111, 112, 113, 114, 115, 116, 117, 118] rfl (by decide +kernel)) (goodIn_sub (fun _ h => List.mem_cons_of_mem _ (List.mem_append_right _ h)) (by decide +kernel))
set_option maxRecDepth 20000 in
theorem gL_leave_X2_leave : GoodIn wsL_leave (wsV RL 27 RX2 yX2_leave wsX2_leave) := goodIn_app (goodIn_of _ (by decide +kernel)) ggL_leave_X2_leave
theorem dL_leave_0 : decode cL_leave 0 = .ok (.aload_n 2, 1) := by decide +kernel
theorem dL_leave_1 : decode cL_leave 1 = .ok (.iconst 0, 1) := by decide +kernel
theorem dL_leave_2 : decode cL_leave 2 = .ok (.aload_n 0, 1) := by decide +kernel
theorem dL_leave_3 : decode cL_leave 3 = .ok (.iload_n 1, 1) := by decide +kernel
theorem dL_leave_4 : decode cL_leave 4 = .ok (.invokevirtual 27, 3) := by decide +kernel
theorem dL_leave_7 : decode cL_leave 7 = .ok (.i2l, 1) := by decide +kernel
theorem dL_leave_8 : decode cL_leave 8 = .ok (.lastore, 1) := by decide +kernel
theorem dL_leave_9 : decode cL_leave 9 = .ok (.goto 6, 3) := by decide +kernel
theorem dL_leave_12 : decode cL_leave 12 = .ok (.astore_n 3, 1) := by decide +kernel
theorem dL_leave_13 : decode cL_leave 13 = .ok (.iconst 1, 1) := by decide +kernel
theorem dL_leave_14 : decode cL_leave 14 = .ok (.ireturn, 1) := by decide +kernel
theorem dL_leave_15 : decode cL_leave 15 = .ok (.iconst 0, 1) := by decide +kernel
theorem dL_leave_16 : decode cL_leave 16 = .ok (.ireturn, 1) := by decide +kernel
set_option maxRecDepth 20000 in
theorem ggL_told_X2_told : GoodIn wsL_told wsX2_told := goodIn_ca (goodIn_r _ [6, 7, 8, 9, 10, 11, 12, 13, 14, 15, 16, 17, 18, 5, 19, 20, 21, 22, 23, 24, 25, 26, 27, 28, 29, 30, 31, 32, 33, 34, 35, 36, 37, 38, 39, 40, 41, 42, 43, 44, 45, 46, 47, 48, 49, 50, 51, 52, 53, 54, 55, 56, 57, 58, 59, 60, 61, 62, 63, 64, 65, 66, 67, 68, 69, 70, 71, 72, 73, 74, 75, 76] rfl (by decide +kernel)) (goodIn_sub (fun _ h => List.mem_cons_of_mem _ (List.mem_append_right _ h)) (by decide +kernel))
set_option maxRecDepth 20000 in
theorem gL_told_X2_told : GoodIn wsL_told (wsV RL 30 RX2 yX2_told wsX2_told) := goodIn_app (goodIn_of _ (by decide +kernel)) ggL_told_X2_told
theorem dL_told_0 : decode cL_told 0 = .ok (.aload_n 3, 1) := by decide +kernel
theorem dL_told_1 : decode cL_told 1 = .ok (.iconst 0, 1) := by decide +kernel
theorem dL_told_2 : decode cL_told 2 = .ok (.aload_n 0, 1) := by decide +kernel
theorem dL_told_3 : decode cL_told 3 = .ok (.iload_n 1, 1) := by decide +kernel
theorem dL_told_4 : decode cL_told 4 = .ok (.iload_n 2, 1) := by decide +kernel
theorem dL_told_5 : decode cL_told 5 = .ok (.invokevirtual 30, 3) := by decide +kernel
theorem dL_told_8 : decode cL_told 8 = .ok (.i2l, 1) := by decide +kernel
theorem dL_told_9 : decode cL_told 9 = .ok (.lastore, 1) := by decide +kernel
theorem dL_told_10 : decode cL_told 10 = .ok (.goto 7, 3) := by decide +kernel
theorem dL_told_13 : decode cL_told 13 = .ok (.astore 4, 2) := by decide +kernel
theorem dL_told_15 : decode cL_told 15 = .ok (.iconst 1, 1) := by decide +kernel
theorem dL_told_16 : decode cL_told 16 = .ok (.ireturn, 1) := by decide +kernel
theorem dL_told_17 : decode cL_told 17 = .ok (.iconst 0, 1) := by decide +kernel
theorem dL_told_18 : decode cL_told 18 = .ok (.ireturn, 1) := by decide +kernel
set_option maxRecDepth 20000 in
theorem ggL_offer_X2_offer : GoodIn wsL_offer wsX2_offer := goodIn_ca (goodIn_r _ [6, 7, 8, 9, 10, 11, 12, 13, 14, 15, 16, 17, 18, 19, 20, 21, 22, 23, 24, 25, 26, 27, 28, 29, 30, 31, 32] rfl (by decide +kernel)) (goodIn_sub (fun _ h => List.mem_cons_of_mem _ (List.mem_append_right _ h)) (by decide +kernel))
set_option maxRecDepth 20000 in
theorem gL_offer_X2_offer : GoodIn wsL_offer (wsV RL 34 RX2 yX2_offer wsX2_offer) := goodIn_app (goodIn_of _ (by decide +kernel)) ggL_offer_X2_offer
theorem dL_offer_0 : decode cL_offer 0 = .ok (.aload_n 3, 1) := by decide +kernel
theorem dL_offer_1 : decode cL_offer 1 = .ok (.iconst 0, 1) := by decide +kernel
theorem dL_offer_2 : decode cL_offer 2 = .ok (.aload_n 0, 1) := by decide +kernel
theorem dL_offer_3 : decode cL_offer 3 = .ok (.iload_n 1, 1) := by decide +kernel
theorem dL_offer_4 : decode cL_offer 4 = .ok (.iload_n 2, 1) := by decide +kernel
theorem dL_offer_5 : decode cL_offer 5 = .ok (.invokevirtual 34, 3) := by decide +kernel
theorem dL_offer_8 : decode cL_offer 8 = .ok (.i2l, 1) := by decide +kernel
theorem dL_offer_9 : decode cL_offer 9 = .ok (.lastore, 1) := by decide +kernel
theorem dL_offer_10 : decode cL_offer 10 = .ok (.goto 7, 3) := by decide +kernel
theorem dL_offer_13 : decode cL_offer 13 = .ok (.astore 4, 2) := by decide +kernel
theorem dL_offer_15 : decode cL_offer 15 = .ok (.iconst 1, 1) := by decide +kernel
theorem dL_offer_16 : decode cL_offer 16 = .ok (.ireturn, 1) := by decide +kernel
theorem dL_offer_17 : decode cL_offer 17 = .ok (.iconst 0, 1) := by decide +kernel
theorem dL_offer_18 : decode cL_offer 18 = .ok (.ireturn, 1) := by decide +kernel
set_option maxRecDepth 20000 in
theorem ggL_count_X2_count : GoodIn wsL_count wsX2_count := goodIn_ca (goodIn_r _ [6, 7, 8, 9, 10, 11, 5, 12, 13, 14, 15, 16, 17, 18, 19, 20, 21, 22, 23, 24, 25, 26, 27, 28, 29, 30, 31, 32, 33, 34, 35, 36, 37, 38, 39, 40, 41, 42, 43, 44, 45, 46, 47, 48, 49, 50, 51, 52, 53, 54, 55, 56, 57, 58, 59, 60, 61, 62, 63, 64, 65, 66, 67, 68, 69, 70, 71, 72, 73, 74, 75, 76, 77, 78, 79, 80, 81, 82, 83, 84, 85, 86, 87, 88] rfl (by decide +kernel)) (goodIn_sub (fun _ h => List.mem_cons_of_mem _ (List.mem_append_right _ h)) (by decide +kernel))
set_option maxRecDepth 20000 in
theorem gL_count_X2_count : GoodIn wsL_count (wsV RL 37 RX2 yX2_count wsX2_count) := goodIn_app (goodIn_of _ (by decide +kernel)) ggL_count_X2_count
theorem dL_count_0 : decode cL_count 0 = .ok (.aload_n 2, 1) := by decide +kernel
theorem dL_count_1 : decode cL_count 1 = .ok (.iconst 0, 1) := by decide +kernel
theorem dL_count_2 : decode cL_count 2 = .ok (.aload_n 0, 1) := by decide +kernel
theorem dL_count_3 : decode cL_count 3 = .ok (.iload_n 1, 1) := by decide +kernel
theorem dL_count_4 : decode cL_count 4 = .ok (.invokevirtual 37, 3) := by decide +kernel
theorem dL_count_7 : decode cL_count 7 = .ok (.i2l, 1) := by decide +kernel
theorem dL_count_8 : decode cL_count 8 = .ok (.lastore, 1) := by decide +kernel
theorem dL_count_9 : decode cL_count 9 = .ok (.goto 6, 3) := by decide +kernel
theorem dL_count_12 : decode cL_count 12 = .ok (.astore_n 3, 1) := by decide +kernel
theorem dL_count_13 : decode cL_count 13 = .ok (.iconst 1, 1) := by decide +kernel
theorem dL_count_14 : decode cL_count 14 = .ok (.ireturn, 1) := by decide +kernel
theorem dL_count_15 : decode cL_count 15 = .ok (.iconst 0, 1) := by decide +kernel
theorem dL_count_16 : decode cL_count 16 = .ok (.ireturn, 1) := by decide +kernel
set_option maxRecDepth 20000 in
theorem ggL_envies_X2_envies : GoodIn wsL_envies wsX2_envies := goodIn_ca (goodIn_r _ [6, 7, 8, 9, 10, 11, 12, 13, 14, 15, 16, 17, 18, 5, 19, 20, 21, 22, 23, 24, 25, 26, 27, 28, 29, 30, 31, 32, 33, 34, 35, 36, 37, 38, 39, 40, 41, 42, 43, 44, 45, 46, 47, 48, 49, 50] rfl (by decide +kernel)) (goodIn_sub (fun _ h => List.mem_cons_of_mem _ (List.mem_append_right _ h)) (by decide +kernel))
set_option maxRecDepth 20000 in
theorem gL_envies_X2_envies : GoodIn wsL_envies (wsV RL 40 RX2 yX2_envies wsX2_envies) := goodIn_app (goodIn_of _ (by decide +kernel)) ggL_envies_X2_envies
theorem dL_envies_0 : decode cL_envies 0 = .ok (.aload_n 3, 1) := by decide +kernel
theorem dL_envies_1 : decode cL_envies 1 = .ok (.iconst 0, 1) := by decide +kernel
theorem dL_envies_2 : decode cL_envies 2 = .ok (.aload_n 0, 1) := by decide +kernel
theorem dL_envies_3 : decode cL_envies 3 = .ok (.iload_n 1, 1) := by decide +kernel
theorem dL_envies_4 : decode cL_envies 4 = .ok (.iload_n 2, 1) := by decide +kernel
theorem dL_envies_5 : decode cL_envies 5 = .ok (.invokevirtual 40, 3) := by decide +kernel
theorem dL_envies_8 : decode cL_envies 8 = .ok (.ifCond .eq 7, 3) := by decide +kernel
theorem dL_envies_11 : decode cL_envies 11 = .ok (.lconst 1, 1) := by decide +kernel
theorem dL_envies_12 : decode cL_envies 12 = .ok (.goto 4, 3) := by decide +kernel
theorem dL_envies_15 : decode cL_envies 15 = .ok (.lconst 0, 1) := by decide +kernel
theorem dL_envies_16 : decode cL_envies 16 = .ok (.lastore, 1) := by decide +kernel
theorem dL_envies_17 : decode cL_envies 17 = .ok (.goto 7, 3) := by decide +kernel
theorem dL_envies_20 : decode cL_envies 20 = .ok (.astore 4, 2) := by decide +kernel
theorem dL_envies_22 : decode cL_envies 22 = .ok (.iconst 1, 1) := by decide +kernel
theorem dL_envies_23 : decode cL_envies 23 = .ok (.ireturn, 1) := by decide +kernel
theorem dL_envies_24 : decode cL_envies 24 = .ok (.iconst 0, 1) := by decide +kernel
theorem dL_envies_25 : decode cL_envies 25 = .ok (.ireturn, 1) := by decide +kernel
set_option maxRecDepth 20000 in
theorem ggL_gap_X2_gap : GoodIn wsL_gap wsX2_gap := goodIn_ca (goodIn_r _ [6, 7, 8, 9, 10, 11, 12, 13, 14, 15, 16, 17, 18, 19, 5, 20, 21, 22, 23, 24, 25, 26, 27, 28, 29, 30, 31, 32, 33, 34, 35, 36, 37, 38, 39, 40, 41, 42, 43, 44, 45, 46, 47, 48, 49, 50, 51, 52, 53, 54, 55, 56, 57, 58, 59, 60] rfl (by decide +kernel)) (goodIn_sub (fun _ h => List.mem_cons_of_mem _ (List.mem_append_right _ h)) (by decide +kernel))
set_option maxRecDepth 20000 in
theorem gL_gap_X2_gap : GoodIn wsL_gap (wsV RL 44 RX2 yX2_gap wsX2_gap) := goodIn_app (goodIn_of _ (by decide +kernel)) ggL_gap_X2_gap
theorem dL_gap_0 : decode cL_gap 0 = .ok (.aload_n 3, 1) := by decide +kernel
theorem dL_gap_1 : decode cL_gap 1 = .ok (.iconst 0, 1) := by decide +kernel
theorem dL_gap_2 : decode cL_gap 2 = .ok (.aload_n 0, 1) := by decide +kernel
theorem dL_gap_3 : decode cL_gap 3 = .ok (.iload_n 1, 1) := by decide +kernel
theorem dL_gap_4 : decode cL_gap 4 = .ok (.iload_n 2, 1) := by decide +kernel
theorem dL_gap_5 : decode cL_gap 5 = .ok (.invokevirtual 44, 3) := by decide +kernel
theorem dL_gap_8 : decode cL_gap 8 = .ok (.i2l, 1) := by decide +kernel
theorem dL_gap_9 : decode cL_gap 9 = .ok (.lastore, 1) := by decide +kernel
theorem dL_gap_10 : decode cL_gap 10 = .ok (.goto 7, 3) := by decide +kernel
theorem dL_gap_13 : decode cL_gap 13 = .ok (.astore 4, 2) := by decide +kernel
theorem dL_gap_15 : decode cL_gap 15 = .ok (.iconst 1, 1) := by decide +kernel
theorem dL_gap_16 : decode cL_gap 16 = .ok (.ireturn, 1) := by decide +kernel
theorem dL_gap_17 : decode cL_gap 17 = .ok (.iconst 0, 1) := by decide +kernel
theorem dL_gap_18 : decode cL_gap 18 = .ok (.ireturn, 1) := by decide +kernel
set_option maxRecDepth 20000 in
theorem ggL_would_X2_would : GoodIn wsL_would wsX2_would := goodIn_ca (goodIn_ca (goodIn_r _ [7, 8, 9, 10, 11, 12, 13, 14, 15, 16, 17, 18, 19, 20, 21, 22, 23, 24, 25, 26, 27, 28, 29, 30, 31, 6, 32, 33, 34, 35, 36, 37, 38, 39, 40, 41, 42, 43, 44, 45, 46, 47, 48, 49, 50, 51, 52, 53, 54, 55, 56, 57, 58, 59, 60, 61, 62, 63, 64, 65, 66, 67, 68, 69, 70, 71, 72, 73, 74, 75, 76, 77, 78, 79, 80, 81, 82, 83, 84, 85, 86, 87] rfl (by decide +kernel)) (goodIn_sub (fun _ h => List.mem_cons_of_mem _ (List.mem_append_left _ (List.mem_append_right _ h))) (by decide +kernel))) (goodIn_sub (fun _ h => List.mem_cons_of_mem _ (List.mem_append_right _ h)) (by decide +kernel))
set_option maxRecDepth 20000 in
theorem gL_would_X2_would : GoodIn wsL_would (wsV RL 47 RX2 yX2_would wsX2_would) := goodIn_app (goodIn_of _ (by decide +kernel)) ggL_would_X2_would
theorem dL_would_0 : decode cL_would 0 = .ok (.aload 4, 2) := by decide +kernel
theorem dL_would_2 : decode cL_would 2 = .ok (.iconst 0, 1) := by decide +kernel
theorem dL_would_3 : decode cL_would 3 = .ok (.aload_n 0, 1) := by decide +kernel
theorem dL_would_4 : decode cL_would 4 = .ok (.iload_n 1, 1) := by decide +kernel
theorem dL_would_5 : decode cL_would 5 = .ok (.iload_n 2, 1) := by decide +kernel
theorem dL_would_6 : decode cL_would 6 = .ok (.iload_n 3, 1) := by decide +kernel
theorem dL_would_7 : decode cL_would 7 = .ok (.invokevirtual 47, 3) := by decide +kernel
theorem dL_would_10 : decode cL_would 10 = .ok (.i2l, 1) := by decide +kernel
theorem dL_would_11 : decode cL_would 11 = .ok (.lastore, 1) := by decide +kernel
theorem dL_would_12 : decode cL_would 12 = .ok (.goto 11, 3) := by decide +kernel
theorem dL_would_15 : decode cL_would 15 = .ok (.astore 5, 2) := by decide +kernel
theorem dL_would_17 : decode cL_would 17 = .ok (.iconst 1, 1) := by decide +kernel
theorem dL_would_18 : decode cL_would 18 = .ok (.ireturn, 1) := by decide +kernel
theorem dL_would_19 : decode cL_would 19 = .ok (.astore 5, 2) := by decide +kernel
theorem dL_would_21 : decode cL_would 21 = .ok (.iconst 2, 1) := by decide +kernel
theorem dL_would_22 : decode cL_would 22 = .ok (.ireturn, 1) := by decide +kernel
theorem dL_would_23 : decode cL_would 23 = .ok (.iconst 0, 1) := by decide +kernel
theorem dL_would_24 : decode cL_would 24 = .ok (.ireturn, 1) := by decide +kernel
set_option maxRecDepth 20000 in
theorem ggL_needs_X2_needs : GoodIn wsL_needs wsX2_needs := goodIn_ca (goodIn_r _ [6, 7, 8, 9, 10, 11, 12, 13, 14, 15, 16, 17, 18, 19, 20, 21, 22, 23, 24, 25, 26, 27, 28, 5, 29, 30, 31, 32, 33, 34, 35, 36, 37, 38, 39, 40, 41, 42, 43, 44, 45, 46, 47, 48, 49, 50, 51, 52, 53, 54, 55, 56, 57, 58, 59, 60, 61, 62, 63, 64, 65, 66, 67, 68, 69, 70, 71, 72, 73, 74, 75, 76, 77, 78, 79, 80, 81, 82, 83, 84] rfl (by decide +kernel)) (goodIn_sub (fun _ h => List.mem_cons_of_mem _ (List.mem_append_right _ h)) (by decide +kernel))
set_option maxRecDepth 20000 in
theorem gL_needs_X2_needs : GoodIn wsL_needs (wsV RL 50 RX2 yX2_needs wsX2_needs) := goodIn_app (goodIn_of _ (by decide +kernel)) ggL_needs_X2_needs
theorem dL_needs_0 : decode cL_needs 0 = .ok (.aload_n 3, 1) := by decide +kernel
theorem dL_needs_1 : decode cL_needs 1 = .ok (.iconst 0, 1) := by decide +kernel
theorem dL_needs_2 : decode cL_needs 2 = .ok (.aload_n 0, 1) := by decide +kernel
theorem dL_needs_3 : decode cL_needs 3 = .ok (.iload_n 1, 1) := by decide +kernel
theorem dL_needs_4 : decode cL_needs 4 = .ok (.iload_n 2, 1) := by decide +kernel
theorem dL_needs_5 : decode cL_needs 5 = .ok (.invokevirtual 50, 3) := by decide +kernel
theorem dL_needs_8 : decode cL_needs 8 = .ok (.i2l, 1) := by decide +kernel
theorem dL_needs_9 : decode cL_needs 9 = .ok (.lastore, 1) := by decide +kernel
theorem dL_needs_10 : decode cL_needs 10 = .ok (.goto 7, 3) := by decide +kernel
theorem dL_needs_13 : decode cL_needs 13 = .ok (.astore 4, 2) := by decide +kernel
theorem dL_needs_15 : decode cL_needs 15 = .ok (.iconst 1, 1) := by decide +kernel
theorem dL_needs_16 : decode cL_needs 16 = .ok (.ireturn, 1) := by decide +kernel
theorem dL_needs_17 : decode cL_needs 17 = .ok (.iconst 0, 1) := by decide +kernel
theorem dL_needs_18 : decode cL_needs 18 = .ok (.ireturn, 1) := by decide +kernel
set_option maxRecDepth 20000 in
theorem ggL_without_X2_without : GoodIn wsL_without wsX2_without := goodIn_ca (goodIn_r _ [6, 7, 8, 9, 10, 11, 12, 13, 14, 15, 16, 17, 18, 19, 20, 21, 22, 23, 24, 25, 26, 27, 28, 29, 30, 31, 32, 33, 34, 35, 36, 37, 38, 39, 40, 41, 42, 43, 44, 45, 46, 47, 48, 49, 50, 51, 52, 53, 54, 55, 56, 57, 58, 59, 60, 61, 62, 63, 64, 65, 66, 67, 68, 69, 70, 71, 72, 73, 74, 75, 76, 77, 78, 79, 80, 81] rfl (by decide +kernel)) (goodIn_sub (fun _ h => List.mem_cons_of_mem _ (List.mem_append_right _ h)) (by decide +kernel))
set_option maxRecDepth 20000 in
theorem gL_without_X2_without : GoodIn wsL_without (wsV RL 53 RX2 yX2_without wsX2_without) := goodIn_app (goodIn_of _ (by decide +kernel)) ggL_without_X2_without
theorem dL_without_0 : decode cL_without 0 = .ok (.aload_n 2, 1) := by decide +kernel
theorem dL_without_1 : decode cL_without 1 = .ok (.iconst 0, 1) := by decide +kernel
theorem dL_without_2 : decode cL_without 2 = .ok (.aload_n 0, 1) := by decide +kernel
theorem dL_without_3 : decode cL_without 3 = .ok (.iload_n 1, 1) := by decide +kernel
theorem dL_without_4 : decode cL_without 4 = .ok (.invokevirtual 53, 3) := by decide +kernel
theorem dL_without_7 : decode cL_without 7 = .ok (.i2l, 1) := by decide +kernel
theorem dL_without_8 : decode cL_without 8 = .ok (.lastore, 1) := by decide +kernel
theorem dL_without_9 : decode cL_without 9 = .ok (.goto 6, 3) := by decide +kernel
theorem dL_without_12 : decode cL_without 12 = .ok (.astore_n 3, 1) := by decide +kernel
theorem dL_without_13 : decode cL_without 13 = .ok (.iconst 1, 1) := by decide +kernel
theorem dL_without_14 : decode cL_without 14 = .ok (.ireturn, 1) := by decide +kernel
theorem dL_without_15 : decode cL_without 15 = .ok (.iconst 0, 1) := by decide +kernel
theorem dL_without_16 : decode cL_without 16 = .ok (.ireturn, 1) := by decide +kernel
set_option maxRecDepth 20000 in
theorem ggL_law_X2_init : GoodIn wsL_law wsX2_init := goodIn_r _ [9, 10, 11, 12, 13, 14, 15, 16, 17, 18, 19, 20, 21, 22, 23, 24, 25, 26, 27, 28, 29, 30, 31, 32, 33, 34, 35, 36, 37, 38, 39, 40, 466, 467, 442, 443, 444, 445, 446, 447, 448, 449, 450, 468, 469, 470] rfl (by decide +kernel)
set_option maxRecDepth 20000 in
theorem gL_law_X2_init : GoodIn wsL_law (wsX2_init) := ggL_law_X2_init
set_option maxRecDepth 20000 in
theorem ggL_law_X3_init : GoodIn wsL_law wsX3_init := goodIn_r _ [43, 44, 11, 12, 23, 45, 46, 47, 48, 49, 50, 51, 52, 451, 452, 453, 454, 455, 456, 457, 458, 459, 460, 461, 462, 463, 464, 465] rfl (by decide +kernel)
set_option maxRecDepth 20000 in
theorem gL_law_X3_init : GoodIn wsL_law (wsX3_init) := ggL_law_X3_init
set_option maxRecDepth 20000 in
theorem ggL_law_L_come : GoodIn wsL_law wsL_come := goodIn_ca (goodIn_r _ [56, 57, 58, 59, 60, 2, 61, 62, 63, 16, 64, 65, 66, 15, 67, 33, 68, 69, 70, 71, 72, 73, 74, 75, 32, 76, 77, 78, 79, 80, 81, 82, 83, 20, 84, 85, 86, 19, 87, 38, 39, 40, 88, 89, 90, 91, 92, 93, 94, 95, 96, 97, 98, 99, 100, 101, 102, 103, 104, 105, 106, 107, 108, 109, 110, 111, 24, 112, 113, 114, 115, 116, 117, 118, 119, 120, 121, 122, 123, 124, 125, 126, 127, 128, 129, 130, 131, 132, 133, 134, 135, 136, 137, 26, 27, 28, 138, 139, 140, 141, 142, 143, 144, 145, 442, 443, 444, 445, 446, 447, 448, 449, 450, 466, 467, 468, 469, 470] rfl (by decide +kernel)) (goodIn_sub (fun _ h => List.mem_append_left _ (List.mem_append_left _ (List.mem_append_right _ h))) (by decide +kernel))
set_option maxRecDepth 20000 in
theorem gL_law_L_come : GoodIn wsL_law (va_wsS RL 60 yL_come wsL_come) := goodIn_app (goodIn_of _ (by decide +kernel)) ggL_law_L_come
set_option maxRecDepth 20000 in
theorem ggL_law_X3_come : GoodIn wsL_law wsX3_come := goodIn_r _ [149, 150, 151, 45, 152, 153, 154, 5, 155, 451, 452, 453, 454, 455, 456, 457, 458, 459, 460, 461, 462, 463, 464, 465] rfl (by decide +kernel)
set_option maxRecDepth 20000 in
theorem gL_law_X3_come : GoodIn wsL_law (wsV RL 65 RX3 yX3_come wsX3_come) := goodIn_app (goodIn_of _ (by decide +kernel)) ggL_law_X3_come
set_option maxRecDepth 20000 in
theorem ggL_law_X3_thrown : GoodIn wsL_law wsX3_thrown := goodIn_r _ [159, 150, 451, 452, 453, 454, 455, 456, 457, 458, 459, 460, 461, 462, 463, 464, 465] rfl (by decide +kernel)
set_option maxRecDepth 20000 in
theorem gL_law_X3_thrown : GoodIn wsL_law (wsV RL 66 RX3 yX3_thrown wsX3_thrown) := goodIn_app (goodIn_of _ (by decide +kernel)) ggL_law_X3_thrown
set_option maxRecDepth 20000 in
theorem ggL_law_L_bid : GoodIn wsL_law wsL_bid := goodIn_ca (goodIn_ca (goodIn_r _ [162, 163, 164, 165, 166, 167, 2, 168, 169, 170, 171, 172, 16, 124, 77, 78, 15, 79, 33, 133, 101, 102, 103, 32, 76, 173, 73, 74, 75, 80, 81, 82, 83, 20, 84, 85, 86, 19, 87, 38, 39, 40, 88, 65, 66, 67, 89, 90, 91, 92, 93, 94, 95, 96, 97, 98, 99, 100, 104, 105, 106, 107, 108, 109, 110, 111, 24, 64, 112, 113, 114, 115, 116, 117, 118, 119, 120, 121, 122, 123, 125, 126, 127, 128, 129, 130, 131, 132, 134, 135, 136, 137, 26, 27, 28, 138, 139, 140, 141, 142, 143, 144, 145, 442, 443, 444, 445, 446, 447, 448, 449, 450, 466, 467, 468, 469, 470] rfl (by decide +kernel)) (goodIn_sub (fun _ h => List.mem_append_left _ (List.mem_append_right _ h)) (by decide +kernel))) (goodIn_sub (fun _ h => List.mem_append_right _ h) (by decide +kernel))
set_option maxRecDepth 20000 in
theorem gL_law_L_bid : GoodIn wsL_law (va_wsS RL 69 yL_bid wsL_bid) := goodIn_app (goodIn_of _ (by decide +kernel)) ggL_law_L_bid
set_option maxRecDepth 20000 in
theorem ggL_law_X3_bid : GoodIn wsL_law wsX3_bid := goodIn_r _ [177, 150, 45, 178, 179, 180, 5, 181, 151, 182, 183, 184, 152, 153, 154, 155, 185, 186, 187, 188, 451, 452, 453, 454, 455, 456, 457, 458, 459, 460, 461, 462, 463, 464, 465] rfl (by decide +kernel)
set_option maxRecDepth 20000 in
theorem gL_law_X3_bid : GoodIn wsL_law (wsV RL 72 RX3 yX3_bid wsX3_bid) := goodIn_app (goodIn_of _ (by decide +kernel)) ggL_law_X3_bid
set_option maxRecDepth 20000 in
theorem ggL_law_L_rent : GoodIn wsL_law wsL_rent := goodIn_ca (goodIn_r _ [191, 164, 192, 193, 194, 2, 195, 171, 172, 26, 134, 135, 136, 137, 16, 20, 27, 28, 64, 65, 66, 15, 67, 33, 138, 139, 140, 19, 141, 38, 142, 143, 144, 145, 24, 442, 443, 444, 445, 446, 447, 448, 449, 450, 466, 467, 468, 469, 470] rfl (by decide +kernel)) (goodIn_sub (fun _ h => List.mem_append_right _ h) (by decide +kernel))
set_option maxRecDepth 20000 in
theorem gL_law_L_rent : GoodIn wsL_law (va_wsS RL 73 yL_rent wsL_rent) := goodIn_app (goodIn_of _ (by decide +kernel)) ggL_law_L_rent
set_option maxRecDepth 20000 in
theorem ggL_law_X3_rent : GoodIn wsL_law wsX3_rent := goodIn_r _ [199, 150, 200, 182, 183, 5, 184, 152, 153, 154, 155, 451, 452, 453, 454, 455, 456, 457, 458, 459, 460, 461, 462, 463, 464, 465] rfl (by decide +kernel)
set_option maxRecDepth 20000 in
theorem gL_law_X3_rent : GoodIn wsL_law (wsV RL 76 RX3 yX3_rent wsX3_rent) := goodIn_app (goodIn_of _ (by decide +kernel)) ggL_law_X3_rent
set_option maxRecDepth 20000 in
theorem ggL_law_L_leave : GoodIn wsL_law wsL_leave := goodIn_ca (goodIn_r _ [203, 163, 204, 205, 206, 2, 207, 169, 170, 16, 20, 124, 77, 78, 15, 79, 33, 129, 130, 131, 19, 132, 40, 208, 209, 210, 211, 76, 212, 101, 102, 103, 32, 72, 73, 74, 75, 80, 81, 82, 83, 84, 85, 86, 87, 38, 39, 88, 65, 66, 67, 89, 90, 91, 92, 93, 94, 95, 96, 97, 98, 99, 100, 104, 105, 106, 107, 108, 109, 110, 111, 24, 64, 112, 113, 114, 115, 116, 117, 118, 119, 120, 121, 122, 123, 125, 126, 127, 128, 133, 134, 135, 136, 137, 26, 27, 28, 138, 139, 140, 141, 142, 143, 144, 145, 442, 443, 444, 445, 446, 447, 448, 449, 450, 466, 467, 468, 469, 470] rfl (by decide +kernel)) (goodIn_sub (fun _ h => List.mem_append_left _ (List.mem_append_right _ h)) (by decide +kernel))
set_option maxRecDepth 20000 in
theorem gL_law_L_leave : GoodIn wsL_law (va_wsS RL 77 yL_leave wsL_leave) := goodIn_app (goodIn_of _ (by decide +kernel)) ggL_law_L_leave
set_option maxRecDepth 20000 in
theorem ggL_law_X3_leave : GoodIn wsL_law wsX3_leave := goodIn_r _ [216, 150, 46, 151, 45, 178, 179, 180, 5, 181, 182, 183, 184, 152, 153, 154, 155, 217, 218, 219, 220, 221, 200, 47, 48, 222, 223, 224, 225, 226, 227, 228, 229, 230, 231, 49, 232, 233, 234, 235, 50, 236, 237, 238, 239, 51, 240, 52, 185, 186, 187, 188, 241, 242, 243, 244, 245, 246, 247, 248, 451, 452, 453, 454, 455, 456, 457, 458, 459, 460, 461, 462, 463, 464, 465] rfl (by decide +kernel)
set_option maxRecDepth 20000 in
theorem gL_law_X3_leave : GoodIn wsL_law (wsV RL 79 RX3 yX3_leave wsX3_leave) := goodIn_app (goodIn_of _ (by decide +kernel)) ggL_law_X3_leave
set_option maxRecDepth 20000 in
theorem ggL_law_L_told : GoodIn wsL_law wsL_told := goodIn_ca (goodIn_r _ [251, 163, 252, 253, 254, 2, 255, 169, 170, 16, 124, 77, 78, 15, 79, 33, 256, 257, 258, 259, 20, 129, 130, 131, 19, 132, 40, 125, 126, 127, 128, 133, 101, 102, 103, 32, 76, 260, 261, 262, 263, 27, 120, 121, 122, 123, 24, 264, 265, 266, 267, 268, 269, 270, 271, 64, 65, 66, 67, 272, 273, 274, 275, 442, 443, 444, 445, 446, 447, 448, 449, 450, 466, 467, 468, 469, 470] rfl (by decide +kernel)) (goodIn_sub (fun _ h => List.mem_append_left _ (List.mem_append_right _ h)) (by decide +kernel))
set_option maxRecDepth 20000 in
theorem gL_law_L_told : GoodIn wsL_law (va_wsS RL 80 yL_told wsL_told) := goodIn_app (goodIn_of _ (by decide +kernel)) ggL_law_L_told
set_option maxRecDepth 20000 in
theorem ggL_law_X3_told : GoodIn wsL_law wsX3_told := goodIn_r _ [279, 150, 178, 179, 180, 5, 181, 151, 182, 183, 184, 152, 153, 154, 155, 217, 218, 219, 220, 221, 200, 47, 48, 222, 223, 224, 225, 226, 227, 228, 229, 230, 231, 49, 46, 232, 233, 234, 235, 50, 236, 237, 238, 239, 51, 240, 52, 185, 186, 187, 188, 45, 241, 242, 243, 244, 245, 246, 247, 248, 280, 281, 282, 283, 284, 285, 286, 287, 288, 289, 290, 291, 451, 452, 453, 454, 455, 456, 457, 458, 459, 460, 461, 462, 463, 464, 465] rfl (by decide +kernel)
set_option maxRecDepth 20000 in
theorem gL_law_X3_told : GoodIn wsL_law (wsV RL 83 RX3 yX3_told wsX3_told) := goodIn_app (goodIn_of _ (by decide +kernel)) ggL_law_X3_told
set_option maxRecDepth 20000 in
theorem ggL_law_L_offer : GoodIn wsL_law wsL_offer := goodIn_ca (goodIn_r _ [294, 163, 295, 296, 297, 2, 298, 169, 170, 16, 124, 77, 78, 15, 79, 33, 133, 101, 102, 103, 32, 76, 442, 443, 444, 445, 446, 447, 448, 449, 450, 466, 467] rfl (by decide +kernel)) (goodIn_sub (fun _ h => List.mem_append_left _ (List.mem_append_right _ h)) (by decide +kernel))
set_option maxRecDepth 20000 in
theorem gL_law_L_offer : GoodIn wsL_law (va_wsS RL 84 yL_offer wsL_offer) := goodIn_app (goodIn_of _ (by decide +kernel)) ggL_law_L_offer
set_option maxRecDepth 20000 in
theorem ggL_law_X3_offer : GoodIn wsL_law wsX3_offer := goodIn_r _ [302, 150, 178, 179, 180, 5, 181, 151, 182, 183, 184, 185, 186, 187, 188, 45, 152, 153, 154, 155, 451, 452, 453, 454, 455, 456, 457, 458, 459, 460, 461, 462, 463, 464, 465] rfl (by decide +kernel)
set_option maxRecDepth 20000 in
theorem gL_law_X3_offer : GoodIn wsL_law (wsV RL 86 RX3 yX3_offer wsX3_offer) := goodIn_app (goodIn_of _ (by decide +kernel)) ggL_law_X3_offer
set_option maxRecDepth 20000 in
theorem ggL_law_L_count : GoodIn wsL_law wsL_count := goodIn_ca (goodIn_r _ [305, 163, 306, 307, 308, 2, 309, 169, 170, 310, 311, 312, 313, 16, 26, 20, 27, 28, 64, 65, 66, 15, 67, 33, 138, 139, 140, 19, 141, 38, 142, 143, 144, 145, 24, 314, 315, 316, 317, 39, 318, 319, 320, 321, 264, 265, 266, 267, 125, 126, 127, 128, 129, 130, 131, 132, 40, 133, 101, 102, 103, 32, 76, 77, 78, 79, 260, 261, 262, 263, 120, 121, 122, 123, 124, 442, 443, 444, 445, 446, 447, 448, 449, 450, 466, 467, 468, 469, 470] rfl (by decide +kernel)) (goodIn_sub (fun _ h => List.mem_append_left _ (List.mem_append_right _ h)) (by decide +kernel))
set_option maxRecDepth 20000 in
theorem gL_law_L_count : GoodIn wsL_law (va_wsS RL 87 yL_count wsL_count) := goodIn_app (goodIn_of _ (by decide +kernel)) ggL_law_L_count
set_option maxRecDepth 20000 in
theorem ggL_law_X3_count : GoodIn wsL_law wsX3_count := goodIn_r _ [325, 150, 182, 183, 5, 184, 326, 327, 328, 329, 151, 200, 221, 48, 222, 227, 217, 218, 219, 220, 47, 223, 224, 225, 226, 228, 229, 230, 231, 49, 46, 232, 233, 234, 235, 50, 236, 237, 238, 239, 51, 240, 52, 185, 186, 187, 188, 45, 241, 242, 243, 244, 245, 246, 247, 248, 284, 285, 286, 287, 152, 153, 154, 155, 451, 452, 453, 454, 455, 456, 457, 458, 459, 460, 461, 462, 463, 464, 465] rfl (by decide +kernel)
set_option maxRecDepth 20000 in
theorem gL_law_X3_count : GoodIn wsL_law (wsV RL 89 RX3 yX3_count wsX3_count) := goodIn_app (goodIn_of _ (by decide +kernel)) ggL_law_X3_count
set_option maxRecDepth 20000 in
theorem ggL_law_L_envies : GoodIn wsL_law wsL_envies := goodIn_ca (goodIn_r _ [332, 163, 333, 334, 335, 2, 336, 169, 170, 16, 124, 77, 78, 15, 79, 33, 272, 273, 274, 275, 20, 129, 130, 131, 19, 132, 40, 133, 101, 102, 103, 32, 76, 125, 126, 127, 128, 442, 443, 444, 445, 446, 447, 448, 449, 450, 466, 467, 468, 469, 470] rfl (by decide +kernel)) (goodIn_sub (fun _ h => List.mem_append_left _ (List.mem_append_right _ h)) (by decide +kernel))
set_option maxRecDepth 20000 in
theorem gL_law_L_envies : GoodIn wsL_law (va_wsS RL 90 yL_envies wsL_envies) := goodIn_app (goodIn_of _ (by decide +kernel)) ggL_law_L_envies
set_option maxRecDepth 20000 in
theorem ggL_law_X3_envies : GoodIn wsL_law wsX3_envies := goodIn_r _ [340, 150, 178, 179, 180, 5, 181, 151, 182, 183, 184, 223, 224, 225, 226, 221, 227, 228, 229, 230, 231, 49, 46, 232, 233, 234, 235, 50, 236, 237, 238, 239, 51, 240, 52, 185, 186, 187, 188, 45, 288, 289, 290, 291, 451, 452, 453, 454, 455, 456, 457, 458, 459, 460, 461, 462, 463, 464, 465] rfl (by decide +kernel)
set_option maxRecDepth 20000 in
theorem gL_law_X3_envies : GoodIn wsL_law (wsV RL 92 RX3 yX3_envies wsX3_envies) := goodIn_app (goodIn_of _ (by decide +kernel)) ggL_law_X3_envies
set_option maxRecDepth 20000 in
theorem ggL_law_L_gap : GoodIn wsL_law wsL_gap := goodIn_ca (goodIn_r _ [343, 163, 344, 345, 346, 2, 347, 169, 170, 16, 20, 124, 77, 78, 15, 79, 33, 260, 261, 262, 263, 27, 120, 121, 122, 123, 24, 129, 130, 131, 19, 132, 40, 133, 101, 102, 103, 32, 76, 264, 265, 266, 267, 125, 126, 127, 128, 442, 443, 444, 445, 446, 447, 448, 449, 450, 466, 467, 468, 469, 470] rfl (by decide +kernel)) (goodIn_sub (fun _ h => List.mem_append_left _ (List.mem_append_right _ h)) (by decide +kernel))
set_option maxRecDepth 20000 in
theorem gL_law_L_gap : GoodIn wsL_law (va_wsS RL 93 yL_gap wsL_gap) := goodIn_app (goodIn_of _ (by decide +kernel)) ggL_law_L_gap
set_option maxRecDepth 20000 in
theorem ggL_law_X3_gap : GoodIn wsL_law wsX3_gap := goodIn_r _ [351, 150, 48, 46, 178, 179, 180, 5, 181, 151, 182, 183, 184, 152, 153, 154, 155, 217, 218, 219, 220, 221, 200, 47, 222, 223, 224, 225, 226, 227, 228, 229, 230, 231, 49, 232, 233, 234, 235, 50, 236, 237, 238, 239, 51, 240, 52, 185, 186, 187, 188, 45, 241, 242, 243, 244, 245, 246, 247, 248, 284, 285, 286, 287, 451, 452, 453, 454, 455, 456, 457, 458, 459, 460, 461, 462, 463, 464, 465] rfl (by decide +kernel)
set_option maxRecDepth 20000 in
theorem gL_law_X3_gap : GoodIn wsL_law (wsV RL 95 RX3 yX3_gap wsX3_gap) := goodIn_app (goodIn_of _ (by decide +kernel)) ggL_law_X3_gap
set_option maxRecDepth 20000 in
theorem ggL_law_X2_chain : GoodIn wsL_law wsX2_chain := goodIn_r _ [355, 16, 25, 116, 117, 118, 119, 64, 65, 66, 15, 67, 33, 356, 357, 358, 2, 359, 272, 273, 274, 275, 20, 129, 130, 131, 19, 132, 40, 133, 101, 102, 103, 32, 76, 77, 78, 79, 125, 126, 127, 128, 442, 443, 444, 445, 446, 447, 448, 449, 450, 466, 467, 468, 469, 470] rfl (by decide +kernel)
set_option maxRecDepth 20000 in
theorem gL_law_X2_chain : GoodIn wsL_law (wsV RL 96 RX2 yX2_chain wsX2_chain) := goodIn_app (goodIn_of _ (by decide +kernel)) ggL_law_X2_chain
set_option maxRecDepth 20000 in
theorem ggL_law_X3_chain : GoodIn wsL_law wsX3_chain := goodIn_r _ [363, 150, 151, 364, 117, 118, 119, 223, 224, 225, 5, 226, 221, 227, 228, 229, 230, 231, 49, 46, 232, 233, 234, 235, 50, 236, 237, 238, 239, 51, 240, 52, 185, 186, 187, 188, 45, 365, 366, 367, 368, 288, 289, 290, 291, 451, 452, 453, 454, 455, 456, 457, 458, 459, 460, 461, 462, 463, 464, 465] rfl (by decide +kernel)
set_option maxRecDepth 20000 in
theorem gL_law_X3_chain : GoodIn wsL_law (wsV RL 99 RX3 yX3_chain wsX3_chain) := goodIn_app (goodIn_of _ (by decide +kernel)) ggL_law_X3_chain
set_option maxRecDepth 20000 in
theorem ggL_law_L_would : GoodIn wsL_law wsL_would := goodIn_ca (goodIn_ca (goodIn_r _ [371, 163, 164, 372, 373, 374, 2, 375, 169, 170, 171, 172, 16, 21, 124, 77, 78, 15, 79, 33, 376, 377, 378, 379, 32, 380, 233, 234, 235, 381, 382, 383, 384, 22, 173, 73, 74, 75, 76, 84, 85, 86, 19, 87, 38, 39, 40, 88, 65, 66, 67, 89, 90, 91, 92, 93, 94, 95, 96, 97, 98, 99, 100, 101, 102, 103, 104, 105, 106, 107, 129, 130, 131, 132, 442, 443, 444, 445, 446, 447, 448, 449, 450, 466, 467, 468, 469, 470] rfl (by decide +kernel)) (goodIn_sub (fun _ h => List.mem_append_left _ (List.mem_append_right _ h)) (by decide +kernel))) (goodIn_sub (fun _ h => List.mem_append_right _ h) (by decide +kernel))
set_option maxRecDepth 20000 in
theorem gL_law_L_would : GoodIn wsL_law (va_wsS RL 100 yL_would wsL_would) := goodIn_app (goodIn_of _ (by decide +kernel)) ggL_law_L_would
set_option maxRecDepth 20000 in
theorem ggL_law_X3_would : GoodIn wsL_law wsX3_would := goodIn_r _ [388, 150, 178, 179, 180, 5, 181, 151, 182, 183, 184, 152, 153, 154, 155, 389, 390, 391, 392, 45, 46, 185, 186, 187, 188, 223, 224, 225, 226, 221, 227, 228, 229, 230, 231, 49, 232, 233, 234, 235, 50, 236, 237, 238, 239, 51, 240, 52, 451, 452, 453, 454, 455, 456, 457, 458, 459, 460, 461, 462, 463, 464, 465] rfl (by decide +kernel)
set_option maxRecDepth 20000 in
theorem gL_law_X3_would : GoodIn wsL_law (wsV RL 102 RX3 yX3_would wsX3_would) := goodIn_app (goodIn_of _ (by decide +kernel)) ggL_law_X3_would
set_option maxRecDepth 20000 in
theorem ggL_law_L_needs : GoodIn wsL_law wsL_needs := goodIn_ca (goodIn_r _ [395, 163, 396, 397, 398, 2, 399, 169, 170, 16, 21, 124, 77, 78, 15, 79, 33, 376, 377, 378, 379, 32, 380, 233, 234, 235, 381, 382, 383, 384, 22, 173, 73, 74, 75, 76, 84, 85, 86, 19, 87, 38, 39, 40, 88, 65, 66, 67, 89, 90, 91, 92, 93, 94, 95, 96, 97, 98, 99, 100, 101, 102, 103, 104, 105, 106, 107, 129, 130, 131, 132, 442, 443, 444, 445, 446, 447, 448, 449, 450, 466, 467, 468, 469, 470] rfl (by decide +kernel)) (goodIn_sub (fun _ h => List.mem_append_left _ (List.mem_append_right _ h)) (by decide +kernel))
set_option maxRecDepth 20000 in
theorem gL_law_L_needs : GoodIn wsL_law (va_wsS RL 103 yL_needs wsL_needs) := goodIn_app (goodIn_of _ (by decide +kernel)) ggL_law_L_needs
set_option maxRecDepth 20000 in
theorem ggL_law_X3_needs : GoodIn wsL_law wsX3_needs := goodIn_r _ [403, 150, 364, 117, 118, 119, 404, 405, 406, 178, 179, 180, 5, 181, 151, 182, 183, 184, 152, 153, 154, 155, 407, 408, 409, 410, 51, 52, 240, 50, 223, 224, 225, 226, 221, 227, 228, 229, 230, 231, 49, 46, 232, 233, 234, 235, 236, 237, 238, 239, 185, 186, 187, 188, 45, 389, 390, 391, 392, 451, 452, 453, 454, 455, 456, 457, 458, 459, 460, 461, 462, 463, 464, 465] rfl (by decide +kernel)
set_option maxRecDepth 20000 in
theorem gL_law_X3_needs : GoodIn wsL_law (wsV RL 105 RX3 yX3_needs wsX3_needs) := goodIn_app (goodIn_of _ (by decide +kernel)) ggL_law_X3_needs
set_option maxRecDepth 20000 in
theorem ggL_law_L_without : GoodIn wsL_law wsL_without := goodIn_ca (goodIn_r _ [413, 163, 414, 415, 416, 2, 417, 169, 170, 16, 21, 22, 124, 77, 78, 15, 79, 33, 376, 377, 378, 379, 32, 380, 233, 234, 235, 64, 65, 66, 67, 173, 73, 74, 75, 76, 84, 85, 86, 19, 87, 38, 39, 40, 88, 89, 90, 91, 92, 93, 94, 95, 96, 97, 98, 99, 100, 101, 102, 103, 104, 105, 106, 107, 138, 139, 140, 141, 442, 443, 444, 445, 446, 447, 448, 449, 450, 466, 467, 468, 469, 470] rfl (by decide +kernel)) (goodIn_sub (fun _ h => List.mem_append_left _ (List.mem_append_right _ h)) (by decide +kernel))
set_option maxRecDepth 20000 in
theorem gL_law_L_without : GoodIn wsL_law (va_wsS RL 106 yL_without wsL_without) := goodIn_app (goodIn_of _ (by decide +kernel)) ggL_law_L_without
set_option maxRecDepth 20000 in
theorem ggL_law_X3_without : GoodIn wsL_law wsX3_without := goodIn_r _ [421, 150, 50, 178, 179, 180, 5, 181, 151, 182, 183, 184, 152, 153, 154, 155, 223, 224, 225, 226, 221, 227, 228, 229, 230, 231, 49, 46, 232, 233, 234, 235, 236, 237, 238, 239, 51, 240, 52, 185, 186, 187, 188, 45, 451, 452, 453, 454, 455, 456, 457, 458, 459, 460, 461, 462, 463, 464, 465] rfl (by decide +kernel)
set_option maxRecDepth 20000 in
theorem gL_law_X3_without : GoodIn wsL_law (wsV RL 108 RX3 yX3_without wsX3_without) := goodIn_app (goodIn_of _ (by decide +kernel)) ggL_law_X3_without
set_option maxRecDepth 20000 in
theorem ggL_law_X2_mean : GoodIn wsL_law wsX2_mean := goodIn_r _ [425, 16, 64, 65, 66, 15, 67, 33, 318, 319, 320, 2, 321, 264, 265, 266, 267, 125, 126, 127, 128, 20, 129, 130, 131, 19, 132, 40, 133, 101, 102, 103, 32, 76, 77, 78, 79, 260, 261, 262, 263, 27, 120, 121, 122, 123, 24, 124, 442, 443, 444, 445, 446, 447, 448, 449, 450, 466, 467, 468, 469, 470] rfl (by decide +kernel)
set_option maxRecDepth 20000 in
theorem gL_law_X2_mean : GoodIn wsL_law (wsV RL 109 RX2 yX2_mean wsX2_mean) := goodIn_app (goodIn_of _ (by decide +kernel)) ggL_law_X2_mean
set_option maxRecDepth 20000 in
theorem ggL_law_X3_mean : GoodIn wsL_law wsX3_mean := goodIn_r _ [429, 150, 151, 326, 327, 328, 5, 329, 200, 221, 48, 222, 227, 217, 218, 219, 220, 47, 223, 224, 225, 226, 228, 229, 230, 231, 49, 46, 232, 233, 234, 235, 50, 236, 237, 238, 239, 51, 240, 52, 185, 186, 187, 188, 45, 241, 242, 243, 244, 245, 246, 247, 248, 284, 285, 286, 287, 451, 452, 453, 454, 455, 456, 457, 458, 459, 460, 461, 462, 463, 464, 465] rfl (by decide +kernel)
set_option maxRecDepth 20000 in
theorem gL_law_X3_mean : GoodIn wsL_law (wsV RL 113 RX3 yX3_mean wsX3_mean) := goodIn_app (goodIn_of _ (by decide +kernel)) ggL_law_X3_mean
set_option maxRecDepth 20000 in
theorem ggL_law_X2_digest : GoodIn wsL_law wsX2_digest := goodIn_r _ [433, 434, 435, 16, 310, 311, 312, 2, 313, 26, 20, 27, 28, 64, 65, 66, 15, 67, 33, 138, 139, 140, 19, 141, 38, 142, 143, 144, 145, 24, 314, 315, 316, 317, 39, 318, 319, 320, 321, 264, 265, 266, 267, 125, 126, 127, 128, 129, 130, 131, 132, 40, 133, 101, 102, 103, 32, 76, 77, 78, 79, 260, 261, 262, 263, 120, 121, 122, 123, 124, 256, 257, 258, 259, 268, 269, 270, 271, 272, 273, 274, 275, 442, 443, 444, 445, 446, 447, 448, 449, 450, 466, 467, 468, 469, 470] rfl (by decide +kernel)
set_option maxRecDepth 20000 in
theorem gL_law_X2_digest : GoodIn wsL_law (wsV RL 114 RX2 yX2_digest wsX2_digest) := goodIn_app (goodIn_of _ (by decide +kernel)) ggL_law_X2_digest
set_option maxRecDepth 20000 in
theorem ggL_law_X3_digest : GoodIn wsL_law wsX3_digest := goodIn_r _ [439, 150, 440, 441, 151, 326, 327, 328, 5, 329, 200, 221, 48, 222, 227, 217, 218, 219, 220, 47, 223, 224, 225, 226, 228, 229, 230, 231, 49, 46, 232, 233, 234, 235, 50, 236, 237, 238, 239, 51, 240, 52, 185, 186, 187, 188, 45, 241, 242, 243, 244, 245, 246, 247, 248, 284, 285, 286, 287, 280, 281, 282, 283, 288, 289, 290, 291, 451, 452, 453, 454, 455, 456, 457, 458, 459, 460, 461, 462, 463, 464, 465] rfl (by decide +kernel)
set_option maxRecDepth 20000 in
theorem gL_law_X3_digest : GoodIn wsL_law (wsV RL 118 RX3 yX3_digest wsX3_digest) := goodIn_app (goodIn_of _ (by decide +kernel)) ggL_law_X3_digest
theorem dL_law_0 : decode cL_law 0 = .ok (.new 8, 3) := by decide +kernel
theorem dL_law_3 : decode cL_law 3 = .ok (.dup, 1) := by decide +kernel
theorem dL_law_4 : decode cL_law 4 = .ok (.invokespecial 56, 3) := by decide +kernel
theorem dL_law_7 : decode cL_law 7 = .ok (.astore_n 1, 1) := by decide +kernel
theorem dL_law_8 : decode cL_law 8 = .ok (.new 57, 3) := by decide +kernel
theorem dL_law_11 : decode cL_law 11 = .ok (.dup, 1) := by decide +kernel
theorem dL_law_12 : decode cL_law 12 = .ok (.invokespecial 59, 3) := by decide +kernel
theorem dL_law_15 : decode cL_law 15 = .ok (.astore_n 2, 1) := by decide +kernel
theorem dL_law_16 : decode cL_law 16 = .ok (.iconst 1, 1) := by decide +kernel
theorem dL_law_17 : decode cL_law 17 = .ok (.newarray .long, 2) := by decide +kernel
theorem dL_law_19 : decode cL_law 19 = .ok (.astore_n 3, 1) := by decide +kernel
theorem dL_law_20 : decode cL_law 20 = .ok (.iconst 0, 1) := by decide +kernel
theorem dL_law_21 : decode cL_law 21 = .ok (.istore 4, 2) := by decide +kernel
theorem dL_law_23 : decode cL_law 23 = .ok (.iload 4, 2) := by decide +kernel
theorem dL_law_25 : decode cL_law 25 = .ok (.aload_n 0, 1) := by decide +kernel
theorem dL_law_26 : decode cL_law 26 = .ok (.arraylength, 1) := by decide +kernel
theorem dL_law_27 : decode cL_law 27 = .ok (.iconst 4, 1) := by decide +kernel
theorem dL_law_28 : decode cL_law 28 = .ok (.isub, 1) := by decide +kernel
theorem dL_law_29 : decode cL_law 29 = .ok (.if_icmp .gt 932, 3) := by decide +kernel
theorem dL_law_32 : decode cL_law 32 = .ok (.aload_n 0, 1) := by decide +kernel
theorem dL_law_33 : decode cL_law 33 = .ok (.iload 4, 2) := by decide +kernel
theorem dL_law_35 : decode cL_law 35 = .ok (.iaload, 1) := by decide +kernel
theorem dL_law_36 : decode cL_law 36 = .ok (.bipush 15, 2) := by decide +kernel
theorem dL_law_38 : decode cL_law 38 = .ok (.iand, 1) := by decide +kernel
theorem dL_law_39 : decode cL_law 39 = .ok (.tableswitch 916 0 14 #[73, 117, 197, 253, 309, 377, 445, 501, 576, 644, 657, 737, 805, 861, 902], 73) := by decide +kernel
theorem dL_law_112 : decode cL_law 112 = .ok (.aload_n 1, 1) := by decide +kernel
theorem dL_law_113 : decode cL_law 113 = .ok (.aload_n 3, 1) := by decide +kernel
theorem dL_law_114 : decode cL_law 114 = .ok (.invokestatic 60, 3) := by decide +kernel
theorem dL_law_117 : decode cL_law 117 = .ok (.istore 5, 2) := by decide +kernel
theorem dL_law_119 : decode cL_law 119 = .ok (.aload_n 2, 1) := by decide +kernel
theorem dL_law_120 : decode cL_law 120 = .ok (.invokevirtual 65, 3) := by decide +kernel
theorem dL_law_123 : decode cL_law 123 = .ok (.istore 6, 2) := by decide +kernel
theorem dL_law_125 : decode cL_law 125 = .ok (.aload_n 2, 1) := by decide +kernel
theorem dL_law_126 : decode cL_law 126 = .ok (.invokevirtual 66, 3) := by decide +kernel
theorem dL_law_129 : decode cL_law 129 = .ok (.iload 5, 2) := by decide +kernel
theorem dL_law_131 : decode cL_law 131 = .ok (.if_icmp .eq 5, 3) := by decide +kernel
theorem dL_law_134 : decode cL_law 134 = .ok (.iconst 0, 1) := by decide +kernel
theorem dL_law_135 : decode cL_law 135 = .ok (.ireturn, 1) := by decide +kernel
theorem dL_law_136 : decode cL_law 136 = .ok (.iload 5, 2) := by decide +kernel
theorem dL_law_138 : decode cL_law 138 = .ok (.ifCond .ne 15, 3) := by decide +kernel
theorem dL_law_141 : decode cL_law 141 = .ok (.aload_n 3, 1) := by decide +kernel
theorem dL_law_142 : decode cL_law 142 = .ok (.iconst 0, 1) := by decide +kernel
theorem dL_law_143 : decode cL_law 143 = .ok (.laload, 1) := by decide +kernel
theorem dL_law_144 : decode cL_law 144 = .ok (.iload 6, 2) := by decide +kernel
theorem dL_law_146 : decode cL_law 146 = .ok (.i2l, 1) := by decide +kernel
theorem dL_law_147 : decode cL_law 147 = .ok (.lcmp, 1) := by decide +kernel
theorem dL_law_148 : decode cL_law 148 = .ok (.ifCond .eq 5, 3) := by decide +kernel
theorem dL_law_151 : decode cL_law 151 = .ok (.iconst 0, 1) := by decide +kernel
theorem dL_law_152 : decode cL_law 152 = .ok (.ireturn, 1) := by decide +kernel
theorem dL_law_153 : decode cL_law 153 = .ok (.goto 802, 3) := by decide +kernel
theorem dL_law_156 : decode cL_law 156 = .ok (.aload_n 1, 1) := by decide +kernel
theorem dL_law_157 : decode cL_law 157 = .ok (.aload_n 0, 1) := by decide +kernel
theorem dL_law_158 : decode cL_law 158 = .ok (.iload 4, 2) := by decide +kernel
theorem dL_law_160 : decode cL_law 160 = .ok (.iconst 1, 1) := by decide +kernel
theorem dL_law_161 : decode cL_law 161 = .ok (.iadd, 1) := by decide +kernel
theorem dL_law_162 : decode cL_law 162 = .ok (.iaload, 1) := by decide +kernel
theorem dL_law_163 : decode cL_law 163 = .ok (.aload_n 0, 1) := by decide +kernel
theorem dL_law_164 : decode cL_law 164 = .ok (.iload 4, 2) := by decide +kernel
theorem dL_law_166 : decode cL_law 166 = .ok (.iconst 2, 1) := by decide +kernel
theorem dL_law_167 : decode cL_law 167 = .ok (.iadd, 1) := by decide +kernel
theorem dL_law_168 : decode cL_law 168 = .ok (.iaload, 1) := by decide +kernel
theorem dL_law_169 : decode cL_law 169 = .ok (.aload_n 0, 1) := by decide +kernel
theorem dL_law_170 : decode cL_law 170 = .ok (.iload 4, 2) := by decide +kernel
theorem dL_law_172 : decode cL_law 172 = .ok (.iconst 3, 1) := by decide +kernel
theorem dL_law_173 : decode cL_law 173 = .ok (.iadd, 1) := by decide +kernel
theorem dL_law_174 : decode cL_law 174 = .ok (.iaload, 1) := by decide +kernel
theorem dL_law_175 : decode cL_law 175 = .ok (.aload_n 3, 1) := by decide +kernel
theorem dL_law_176 : decode cL_law 176 = .ok (.invokestatic 69, 3) := by decide +kernel
theorem dL_law_179 : decode cL_law 179 = .ok (.istore 5, 2) := by decide +kernel
theorem dL_law_181 : decode cL_law 181 = .ok (.aload_n 2, 1) := by decide +kernel
theorem dL_law_182 : decode cL_law 182 = .ok (.aload_n 0, 1) := by decide +kernel
theorem dL_law_183 : decode cL_law 183 = .ok (.iload 4, 2) := by decide +kernel
theorem dL_law_185 : decode cL_law 185 = .ok (.iconst 1, 1) := by decide +kernel
theorem dL_law_186 : decode cL_law 186 = .ok (.iadd, 1) := by decide +kernel
theorem dL_law_187 : decode cL_law 187 = .ok (.iaload, 1) := by decide +kernel
theorem dL_law_188 : decode cL_law 188 = .ok (.aload_n 0, 1) := by decide +kernel
theorem dL_law_189 : decode cL_law 189 = .ok (.iload 4, 2) := by decide +kernel
theorem dL_law_191 : decode cL_law 191 = .ok (.iconst 2, 1) := by decide +kernel
theorem dL_law_192 : decode cL_law 192 = .ok (.iadd, 1) := by decide +kernel
theorem dL_law_193 : decode cL_law 193 = .ok (.iaload, 1) := by decide +kernel
theorem dL_law_194 : decode cL_law 194 = .ok (.aload_n 0, 1) := by decide +kernel
theorem dL_law_195 : decode cL_law 195 = .ok (.iload 4, 2) := by decide +kernel
theorem dL_law_197 : decode cL_law 197 = .ok (.iconst 3, 1) := by decide +kernel
theorem dL_law_198 : decode cL_law 198 = .ok (.iadd, 1) := by decide +kernel
theorem dL_law_199 : decode cL_law 199 = .ok (.iaload, 1) := by decide +kernel
theorem dL_law_200 : decode cL_law 200 = .ok (.invokevirtual 72, 3) := by decide +kernel
theorem dL_law_203 : decode cL_law 203 = .ok (.istore 6, 2) := by decide +kernel
theorem dL_law_205 : decode cL_law 205 = .ok (.aload_n 2, 1) := by decide +kernel
theorem dL_law_206 : decode cL_law 206 = .ok (.invokevirtual 66, 3) := by decide +kernel
theorem dL_law_209 : decode cL_law 209 = .ok (.iload 5, 2) := by decide +kernel
theorem dL_law_211 : decode cL_law 211 = .ok (.if_icmp .eq 5, 3) := by decide +kernel
theorem dL_law_214 : decode cL_law 214 = .ok (.iconst 0, 1) := by decide +kernel
theorem dL_law_215 : decode cL_law 215 = .ok (.ireturn, 1) := by decide +kernel
theorem dL_law_216 : decode cL_law 216 = .ok (.iload 5, 2) := by decide +kernel
theorem dL_law_218 : decode cL_law 218 = .ok (.ifCond .ne 15, 3) := by decide +kernel
theorem dL_law_221 : decode cL_law 221 = .ok (.aload_n 3, 1) := by decide +kernel
theorem dL_law_222 : decode cL_law 222 = .ok (.iconst 0, 1) := by decide +kernel
theorem dL_law_223 : decode cL_law 223 = .ok (.laload, 1) := by decide +kernel
theorem dL_law_224 : decode cL_law 224 = .ok (.iload 6, 2) := by decide +kernel
theorem dL_law_226 : decode cL_law 226 = .ok (.i2l, 1) := by decide +kernel
theorem dL_law_227 : decode cL_law 227 = .ok (.lcmp, 1) := by decide +kernel
theorem dL_law_228 : decode cL_law 228 = .ok (.ifCond .eq 5, 3) := by decide +kernel
theorem dL_law_231 : decode cL_law 231 = .ok (.iconst 0, 1) := by decide +kernel
theorem dL_law_232 : decode cL_law 232 = .ok (.ireturn, 1) := by decide +kernel
theorem dL_law_233 : decode cL_law 233 = .ok (.goto 722, 3) := by decide +kernel
theorem dL_law_236 : decode cL_law 236 = .ok (.aload_n 1, 1) := by decide +kernel
theorem dL_law_237 : decode cL_law 237 = .ok (.aload_n 0, 1) := by decide +kernel
theorem dL_law_238 : decode cL_law 238 = .ok (.iload 4, 2) := by decide +kernel
theorem dL_law_240 : decode cL_law 240 = .ok (.iconst 1, 1) := by decide +kernel
theorem dL_law_241 : decode cL_law 241 = .ok (.iadd, 1) := by decide +kernel
theorem dL_law_242 : decode cL_law 242 = .ok (.iaload, 1) := by decide +kernel
theorem dL_law_243 : decode cL_law 243 = .ok (.aload_n 3, 1) := by decide +kernel
theorem dL_law_244 : decode cL_law 244 = .ok (.invokestatic 73, 3) := by decide +kernel
theorem dL_law_247 : decode cL_law 247 = .ok (.istore 5, 2) := by decide +kernel
theorem dL_law_249 : decode cL_law 249 = .ok (.aload_n 2, 1) := by decide +kernel
theorem dL_law_250 : decode cL_law 250 = .ok (.aload_n 0, 1) := by decide +kernel
theorem dL_law_251 : decode cL_law 251 = .ok (.iload 4, 2) := by decide +kernel
theorem dL_law_253 : decode cL_law 253 = .ok (.iconst 1, 1) := by decide +kernel
theorem dL_law_254 : decode cL_law 254 = .ok (.iadd, 1) := by decide +kernel
theorem dL_law_255 : decode cL_law 255 = .ok (.iaload, 1) := by decide +kernel
theorem dL_law_256 : decode cL_law 256 = .ok (.invokevirtual 76, 3) := by decide +kernel
theorem dL_law_259 : decode cL_law 259 = .ok (.istore 6, 2) := by decide +kernel
theorem dL_law_261 : decode cL_law 261 = .ok (.aload_n 2, 1) := by decide +kernel
theorem dL_law_262 : decode cL_law 262 = .ok (.invokevirtual 66, 3) := by decide +kernel
theorem dL_law_265 : decode cL_law 265 = .ok (.iload 5, 2) := by decide +kernel
theorem dL_law_267 : decode cL_law 267 = .ok (.if_icmp .eq 5, 3) := by decide +kernel
theorem dL_law_270 : decode cL_law 270 = .ok (.iconst 0, 1) := by decide +kernel
theorem dL_law_271 : decode cL_law 271 = .ok (.ireturn, 1) := by decide +kernel
theorem dL_law_272 : decode cL_law 272 = .ok (.iload 5, 2) := by decide +kernel
theorem dL_law_274 : decode cL_law 274 = .ok (.ifCond .ne 15, 3) := by decide +kernel
theorem dL_law_277 : decode cL_law 277 = .ok (.aload_n 3, 1) := by decide +kernel
theorem dL_law_278 : decode cL_law 278 = .ok (.iconst 0, 1) := by decide +kernel
theorem dL_law_279 : decode cL_law 279 = .ok (.laload, 1) := by decide +kernel
theorem dL_law_280 : decode cL_law 280 = .ok (.iload 6, 2) := by decide +kernel
theorem dL_law_282 : decode cL_law 282 = .ok (.i2l, 1) := by decide +kernel
theorem dL_law_283 : decode cL_law 283 = .ok (.lcmp, 1) := by decide +kernel
theorem dL_law_284 : decode cL_law 284 = .ok (.ifCond .eq 5, 3) := by decide +kernel
theorem dL_law_287 : decode cL_law 287 = .ok (.iconst 0, 1) := by decide +kernel
theorem dL_law_288 : decode cL_law 288 = .ok (.ireturn, 1) := by decide +kernel
theorem dL_law_289 : decode cL_law 289 = .ok (.goto 666, 3) := by decide +kernel
theorem dL_law_292 : decode cL_law 292 = .ok (.aload_n 1, 1) := by decide +kernel
theorem dL_law_293 : decode cL_law 293 = .ok (.aload_n 0, 1) := by decide +kernel
theorem dL_law_294 : decode cL_law 294 = .ok (.iload 4, 2) := by decide +kernel
theorem dL_law_296 : decode cL_law 296 = .ok (.iconst 1, 1) := by decide +kernel
theorem dL_law_297 : decode cL_law 297 = .ok (.iadd, 1) := by decide +kernel
theorem dL_law_298 : decode cL_law 298 = .ok (.iaload, 1) := by decide +kernel
theorem dL_law_299 : decode cL_law 299 = .ok (.aload_n 3, 1) := by decide +kernel
theorem dL_law_300 : decode cL_law 300 = .ok (.invokestatic 77, 3) := by decide +kernel
theorem dL_law_303 : decode cL_law 303 = .ok (.istore 5, 2) := by decide +kernel
theorem dL_law_305 : decode cL_law 305 = .ok (.aload_n 2, 1) := by decide +kernel
theorem dL_law_306 : decode cL_law 306 = .ok (.aload_n 0, 1) := by decide +kernel
theorem dL_law_307 : decode cL_law 307 = .ok (.iload 4, 2) := by decide +kernel
theorem dL_law_309 : decode cL_law 309 = .ok (.iconst 1, 1) := by decide +kernel
theorem dL_law_310 : decode cL_law 310 = .ok (.iadd, 1) := by decide +kernel
theorem dL_law_311 : decode cL_law 311 = .ok (.iaload, 1) := by decide +kernel
theorem dL_law_312 : decode cL_law 312 = .ok (.invokevirtual 79, 3) := by decide +kernel
theorem dL_law_315 : decode cL_law 315 = .ok (.istore 6, 2) := by decide +kernel
theorem dL_law_317 : decode cL_law 317 = .ok (.aload_n 2, 1) := by decide +kernel
theorem dL_law_318 : decode cL_law 318 = .ok (.invokevirtual 66, 3) := by decide +kernel
theorem dL_law_321 : decode cL_law 321 = .ok (.iload 5, 2) := by decide +kernel
theorem dL_law_323 : decode cL_law 323 = .ok (.if_icmp .eq 5, 3) := by decide +kernel
theorem dL_law_326 : decode cL_law 326 = .ok (.iconst 0, 1) := by decide +kernel
theorem dL_law_327 : decode cL_law 327 = .ok (.ireturn, 1) := by decide +kernel
theorem dL_law_328 : decode cL_law 328 = .ok (.iload 5, 2) := by decide +kernel
theorem dL_law_330 : decode cL_law 330 = .ok (.ifCond .ne 15, 3) := by decide +kernel
theorem dL_law_333 : decode cL_law 333 = .ok (.aload_n 3, 1) := by decide +kernel
theorem dL_law_334 : decode cL_law 334 = .ok (.iconst 0, 1) := by decide +kernel
theorem dL_law_335 : decode cL_law 335 = .ok (.laload, 1) := by decide +kernel
theorem dL_law_336 : decode cL_law 336 = .ok (.iload 6, 2) := by decide +kernel
theorem dL_law_338 : decode cL_law 338 = .ok (.i2l, 1) := by decide +kernel
theorem dL_law_339 : decode cL_law 339 = .ok (.lcmp, 1) := by decide +kernel
theorem dL_law_340 : decode cL_law 340 = .ok (.ifCond .eq 5, 3) := by decide +kernel
theorem dL_law_343 : decode cL_law 343 = .ok (.iconst 0, 1) := by decide +kernel
theorem dL_law_344 : decode cL_law 344 = .ok (.ireturn, 1) := by decide +kernel
theorem dL_law_345 : decode cL_law 345 = .ok (.goto 610, 3) := by decide +kernel
theorem dL_law_348 : decode cL_law 348 = .ok (.aload_n 1, 1) := by decide +kernel
theorem dL_law_349 : decode cL_law 349 = .ok (.aload_n 0, 1) := by decide +kernel
theorem dL_law_350 : decode cL_law 350 = .ok (.iload 4, 2) := by decide +kernel
theorem dL_law_352 : decode cL_law 352 = .ok (.iconst 1, 1) := by decide +kernel
theorem dL_law_353 : decode cL_law 353 = .ok (.iadd, 1) := by decide +kernel
theorem dL_law_354 : decode cL_law 354 = .ok (.iaload, 1) := by decide +kernel
theorem dL_law_355 : decode cL_law 355 = .ok (.aload_n 0, 1) := by decide +kernel
theorem dL_law_356 : decode cL_law 356 = .ok (.iload 4, 2) := by decide +kernel
theorem dL_law_358 : decode cL_law 358 = .ok (.iconst 2, 1) := by decide +kernel
theorem dL_law_359 : decode cL_law 359 = .ok (.iadd, 1) := by decide +kernel
theorem dL_law_360 : decode cL_law 360 = .ok (.iaload, 1) := by decide +kernel
theorem dL_law_361 : decode cL_law 361 = .ok (.aload_n 3, 1) := by decide +kernel
theorem dL_law_362 : decode cL_law 362 = .ok (.invokestatic 80, 3) := by decide +kernel
theorem dL_law_365 : decode cL_law 365 = .ok (.istore 5, 2) := by decide +kernel
theorem dL_law_367 : decode cL_law 367 = .ok (.aload_n 2, 1) := by decide +kernel
theorem dL_law_368 : decode cL_law 368 = .ok (.aload_n 0, 1) := by decide +kernel
theorem dL_law_369 : decode cL_law 369 = .ok (.iload 4, 2) := by decide +kernel
theorem dL_law_371 : decode cL_law 371 = .ok (.iconst 1, 1) := by decide +kernel
theorem dL_law_372 : decode cL_law 372 = .ok (.iadd, 1) := by decide +kernel
theorem dL_law_373 : decode cL_law 373 = .ok (.iaload, 1) := by decide +kernel
theorem dL_law_374 : decode cL_law 374 = .ok (.aload_n 0, 1) := by decide +kernel
theorem dL_law_375 : decode cL_law 375 = .ok (.iload 4, 2) := by decide +kernel
theorem dL_law_377 : decode cL_law 377 = .ok (.iconst 2, 1) := by decide +kernel
theorem dL_law_378 : decode cL_law 378 = .ok (.iadd, 1) := by decide +kernel
theorem dL_law_379 : decode cL_law 379 = .ok (.iaload, 1) := by decide +kernel
theorem dL_law_380 : decode cL_law 380 = .ok (.invokevirtual 83, 3) := by decide +kernel
theorem dL_law_383 : decode cL_law 383 = .ok (.istore 6, 2) := by decide +kernel
theorem dL_law_385 : decode cL_law 385 = .ok (.aload_n 2, 1) := by decide +kernel
theorem dL_law_386 : decode cL_law 386 = .ok (.invokevirtual 66, 3) := by decide +kernel
theorem dL_law_389 : decode cL_law 389 = .ok (.iload 5, 2) := by decide +kernel
theorem dL_law_391 : decode cL_law 391 = .ok (.if_icmp .eq 5, 3) := by decide +kernel
theorem dL_law_394 : decode cL_law 394 = .ok (.iconst 0, 1) := by decide +kernel
theorem dL_law_395 : decode cL_law 395 = .ok (.ireturn, 1) := by decide +kernel
theorem dL_law_396 : decode cL_law 396 = .ok (.iload 5, 2) := by decide +kernel
theorem dL_law_398 : decode cL_law 398 = .ok (.ifCond .ne 15, 3) := by decide +kernel
theorem dL_law_401 : decode cL_law 401 = .ok (.aload_n 3, 1) := by decide +kernel
theorem dL_law_402 : decode cL_law 402 = .ok (.iconst 0, 1) := by decide +kernel
theorem dL_law_403 : decode cL_law 403 = .ok (.laload, 1) := by decide +kernel
theorem dL_law_404 : decode cL_law 404 = .ok (.iload 6, 2) := by decide +kernel
theorem dL_law_406 : decode cL_law 406 = .ok (.i2l, 1) := by decide +kernel
theorem dL_law_407 : decode cL_law 407 = .ok (.lcmp, 1) := by decide +kernel
theorem dL_law_408 : decode cL_law 408 = .ok (.ifCond .eq 5, 3) := by decide +kernel
theorem dL_law_411 : decode cL_law 411 = .ok (.iconst 0, 1) := by decide +kernel
theorem dL_law_412 : decode cL_law 412 = .ok (.ireturn, 1) := by decide +kernel
theorem dL_law_413 : decode cL_law 413 = .ok (.goto 542, 3) := by decide +kernel
theorem dL_law_416 : decode cL_law 416 = .ok (.aload_n 1, 1) := by decide +kernel
theorem dL_law_417 : decode cL_law 417 = .ok (.aload_n 0, 1) := by decide +kernel
theorem dL_law_418 : decode cL_law 418 = .ok (.iload 4, 2) := by decide +kernel
theorem dL_law_420 : decode cL_law 420 = .ok (.iconst 1, 1) := by decide +kernel
theorem dL_law_421 : decode cL_law 421 = .ok (.iadd, 1) := by decide +kernel
theorem dL_law_422 : decode cL_law 422 = .ok (.iaload, 1) := by decide +kernel
theorem dL_law_423 : decode cL_law 423 = .ok (.aload_n 0, 1) := by decide +kernel
theorem dL_law_424 : decode cL_law 424 = .ok (.iload 4, 2) := by decide +kernel
theorem dL_law_426 : decode cL_law 426 = .ok (.iconst 2, 1) := by decide +kernel
theorem dL_law_427 : decode cL_law 427 = .ok (.iadd, 1) := by decide +kernel
theorem dL_law_428 : decode cL_law 428 = .ok (.iaload, 1) := by decide +kernel
theorem dL_law_429 : decode cL_law 429 = .ok (.aload_n 3, 1) := by decide +kernel
theorem dL_law_430 : decode cL_law 430 = .ok (.invokestatic 84, 3) := by decide +kernel
theorem dL_law_433 : decode cL_law 433 = .ok (.istore 5, 2) := by decide +kernel
theorem dL_law_435 : decode cL_law 435 = .ok (.aload_n 2, 1) := by decide +kernel
theorem dL_law_436 : decode cL_law 436 = .ok (.aload_n 0, 1) := by decide +kernel
theorem dL_law_437 : decode cL_law 437 = .ok (.iload 4, 2) := by decide +kernel
theorem dL_law_439 : decode cL_law 439 = .ok (.iconst 1, 1) := by decide +kernel
theorem dL_law_440 : decode cL_law 440 = .ok (.iadd, 1) := by decide +kernel
theorem dL_law_441 : decode cL_law 441 = .ok (.iaload, 1) := by decide +kernel
theorem dL_law_442 : decode cL_law 442 = .ok (.aload_n 0, 1) := by decide +kernel
theorem dL_law_443 : decode cL_law 443 = .ok (.iload 4, 2) := by decide +kernel
theorem dL_law_445 : decode cL_law 445 = .ok (.iconst 2, 1) := by decide +kernel
theorem dL_law_446 : decode cL_law 446 = .ok (.iadd, 1) := by decide +kernel
theorem dL_law_447 : decode cL_law 447 = .ok (.iaload, 1) := by decide +kernel
theorem dL_law_448 : decode cL_law 448 = .ok (.invokevirtual 86, 3) := by decide +kernel
theorem dL_law_451 : decode cL_law 451 = .ok (.istore 6, 2) := by decide +kernel
theorem dL_law_453 : decode cL_law 453 = .ok (.aload_n 2, 1) := by decide +kernel
theorem dL_law_454 : decode cL_law 454 = .ok (.invokevirtual 66, 3) := by decide +kernel
theorem dL_law_457 : decode cL_law 457 = .ok (.iload 5, 2) := by decide +kernel
theorem dL_law_459 : decode cL_law 459 = .ok (.if_icmp .eq 5, 3) := by decide +kernel
theorem dL_law_462 : decode cL_law 462 = .ok (.iconst 0, 1) := by decide +kernel
theorem dL_law_463 : decode cL_law 463 = .ok (.ireturn, 1) := by decide +kernel
theorem dL_law_464 : decode cL_law 464 = .ok (.iload 5, 2) := by decide +kernel
theorem dL_law_466 : decode cL_law 466 = .ok (.ifCond .ne 15, 3) := by decide +kernel
theorem dL_law_469 : decode cL_law 469 = .ok (.aload_n 3, 1) := by decide +kernel
theorem dL_law_470 : decode cL_law 470 = .ok (.iconst 0, 1) := by decide +kernel
theorem dL_law_471 : decode cL_law 471 = .ok (.laload, 1) := by decide +kernel
theorem dL_law_472 : decode cL_law 472 = .ok (.iload 6, 2) := by decide +kernel
theorem dL_law_474 : decode cL_law 474 = .ok (.i2l, 1) := by decide +kernel
theorem dL_law_475 : decode cL_law 475 = .ok (.lcmp, 1) := by decide +kernel
theorem dL_law_476 : decode cL_law 476 = .ok (.ifCond .eq 5, 3) := by decide +kernel
theorem dL_law_479 : decode cL_law 479 = .ok (.iconst 0, 1) := by decide +kernel
theorem dL_law_480 : decode cL_law 480 = .ok (.ireturn, 1) := by decide +kernel
theorem dL_law_481 : decode cL_law 481 = .ok (.goto 474, 3) := by decide +kernel
theorem dL_law_484 : decode cL_law 484 = .ok (.aload_n 1, 1) := by decide +kernel
theorem dL_law_485 : decode cL_law 485 = .ok (.aload_n 0, 1) := by decide +kernel
theorem dL_law_486 : decode cL_law 486 = .ok (.iload 4, 2) := by decide +kernel
theorem dL_law_488 : decode cL_law 488 = .ok (.iconst 1, 1) := by decide +kernel
theorem dL_law_489 : decode cL_law 489 = .ok (.iadd, 1) := by decide +kernel
theorem dL_law_490 : decode cL_law 490 = .ok (.iaload, 1) := by decide +kernel
theorem dL_law_491 : decode cL_law 491 = .ok (.aload_n 3, 1) := by decide +kernel
theorem dL_law_492 : decode cL_law 492 = .ok (.invokestatic 87, 3) := by decide +kernel
theorem dL_law_495 : decode cL_law 495 = .ok (.istore 5, 2) := by decide +kernel
theorem dL_law_497 : decode cL_law 497 = .ok (.aload_n 2, 1) := by decide +kernel
theorem dL_law_498 : decode cL_law 498 = .ok (.aload_n 0, 1) := by decide +kernel
theorem dL_law_499 : decode cL_law 499 = .ok (.iload 4, 2) := by decide +kernel
theorem dL_law_501 : decode cL_law 501 = .ok (.iconst 1, 1) := by decide +kernel
theorem dL_law_502 : decode cL_law 502 = .ok (.iadd, 1) := by decide +kernel
theorem dL_law_503 : decode cL_law 503 = .ok (.iaload, 1) := by decide +kernel
theorem dL_law_504 : decode cL_law 504 = .ok (.invokevirtual 89, 3) := by decide +kernel
theorem dL_law_507 : decode cL_law 507 = .ok (.istore 6, 2) := by decide +kernel
theorem dL_law_509 : decode cL_law 509 = .ok (.aload_n 2, 1) := by decide +kernel
theorem dL_law_510 : decode cL_law 510 = .ok (.invokevirtual 66, 3) := by decide +kernel
theorem dL_law_513 : decode cL_law 513 = .ok (.iload 5, 2) := by decide +kernel
theorem dL_law_515 : decode cL_law 515 = .ok (.if_icmp .eq 5, 3) := by decide +kernel
theorem dL_law_518 : decode cL_law 518 = .ok (.iconst 0, 1) := by decide +kernel
theorem dL_law_519 : decode cL_law 519 = .ok (.ireturn, 1) := by decide +kernel
theorem dL_law_520 : decode cL_law 520 = .ok (.iload 5, 2) := by decide +kernel
theorem dL_law_522 : decode cL_law 522 = .ok (.ifCond .ne 15, 3) := by decide +kernel
theorem dL_law_525 : decode cL_law 525 = .ok (.aload_n 3, 1) := by decide +kernel
theorem dL_law_526 : decode cL_law 526 = .ok (.iconst 0, 1) := by decide +kernel
theorem dL_law_527 : decode cL_law 527 = .ok (.laload, 1) := by decide +kernel
theorem dL_law_528 : decode cL_law 528 = .ok (.iload 6, 2) := by decide +kernel
theorem dL_law_530 : decode cL_law 530 = .ok (.i2l, 1) := by decide +kernel
theorem dL_law_531 : decode cL_law 531 = .ok (.lcmp, 1) := by decide +kernel
theorem dL_law_532 : decode cL_law 532 = .ok (.ifCond .eq 5, 3) := by decide +kernel
theorem dL_law_535 : decode cL_law 535 = .ok (.iconst 0, 1) := by decide +kernel
theorem dL_law_536 : decode cL_law 536 = .ok (.ireturn, 1) := by decide +kernel
theorem dL_law_537 : decode cL_law 537 = .ok (.goto 418, 3) := by decide +kernel
theorem dL_law_540 : decode cL_law 540 = .ok (.aload_n 1, 1) := by decide +kernel
theorem dL_law_541 : decode cL_law 541 = .ok (.aload_n 0, 1) := by decide +kernel
theorem dL_law_542 : decode cL_law 542 = .ok (.iload 4, 2) := by decide +kernel
theorem dL_law_544 : decode cL_law 544 = .ok (.iconst 1, 1) := by decide +kernel
theorem dL_law_545 : decode cL_law 545 = .ok (.iadd, 1) := by decide +kernel
theorem dL_law_546 : decode cL_law 546 = .ok (.iaload, 1) := by decide +kernel
theorem dL_law_547 : decode cL_law 547 = .ok (.aload_n 0, 1) := by decide +kernel
theorem dL_law_548 : decode cL_law 548 = .ok (.iload 4, 2) := by decide +kernel
theorem dL_law_550 : decode cL_law 550 = .ok (.iconst 2, 1) := by decide +kernel
theorem dL_law_551 : decode cL_law 551 = .ok (.iadd, 1) := by decide +kernel
theorem dL_law_552 : decode cL_law 552 = .ok (.iaload, 1) := by decide +kernel
theorem dL_law_553 : decode cL_law 553 = .ok (.aload_n 3, 1) := by decide +kernel
theorem dL_law_554 : decode cL_law 554 = .ok (.invokestatic 90, 3) := by decide +kernel
theorem dL_law_557 : decode cL_law 557 = .ok (.istore 5, 2) := by decide +kernel
theorem dL_law_559 : decode cL_law 559 = .ok (.aload_n 2, 1) := by decide +kernel
theorem dL_law_560 : decode cL_law 560 = .ok (.aload_n 0, 1) := by decide +kernel
theorem dL_law_561 : decode cL_law 561 = .ok (.iload 4, 2) := by decide +kernel
theorem dL_law_563 : decode cL_law 563 = .ok (.iconst 1, 1) := by decide +kernel
theorem dL_law_564 : decode cL_law 564 = .ok (.iadd, 1) := by decide +kernel
theorem dL_law_565 : decode cL_law 565 = .ok (.iaload, 1) := by decide +kernel
theorem dL_law_566 : decode cL_law 566 = .ok (.aload_n 0, 1) := by decide +kernel
theorem dL_law_567 : decode cL_law 567 = .ok (.iload 4, 2) := by decide +kernel
theorem dL_law_569 : decode cL_law 569 = .ok (.iconst 2, 1) := by decide +kernel
theorem dL_law_570 : decode cL_law 570 = .ok (.iadd, 1) := by decide +kernel
theorem dL_law_571 : decode cL_law 571 = .ok (.iaload, 1) := by decide +kernel
theorem dL_law_572 : decode cL_law 572 = .ok (.invokevirtual 92, 3) := by decide +kernel
theorem dL_law_575 : decode cL_law 575 = .ok (.istore 6, 2) := by decide +kernel
theorem dL_law_577 : decode cL_law 577 = .ok (.aload_n 2, 1) := by decide +kernel
theorem dL_law_578 : decode cL_law 578 = .ok (.invokevirtual 66, 3) := by decide +kernel
theorem dL_law_581 : decode cL_law 581 = .ok (.iload 5, 2) := by decide +kernel
theorem dL_law_583 : decode cL_law 583 = .ok (.if_icmp .eq 5, 3) := by decide +kernel
theorem dL_law_586 : decode cL_law 586 = .ok (.iconst 0, 1) := by decide +kernel
theorem dL_law_587 : decode cL_law 587 = .ok (.ireturn, 1) := by decide +kernel
theorem dL_law_588 : decode cL_law 588 = .ok (.iload 5, 2) := by decide +kernel
theorem dL_law_590 : decode cL_law 590 = .ok (.ifCond .ne 22, 3) := by decide +kernel
theorem dL_law_593 : decode cL_law 593 = .ok (.aload_n 3, 1) := by decide +kernel
theorem dL_law_594 : decode cL_law 594 = .ok (.iconst 0, 1) := by decide +kernel
theorem dL_law_595 : decode cL_law 595 = .ok (.laload, 1) := by decide +kernel
theorem dL_law_596 : decode cL_law 596 = .ok (.iload 6, 2) := by decide +kernel
theorem dL_law_598 : decode cL_law 598 = .ok (.ifCond .eq 7, 3) := by decide +kernel
theorem dL_law_601 : decode cL_law 601 = .ok (.lconst 1, 1) := by decide +kernel
theorem dL_law_602 : decode cL_law 602 = .ok (.goto 4, 3) := by decide +kernel
theorem dL_law_605 : decode cL_law 605 = .ok (.lconst 0, 1) := by decide +kernel
theorem dL_law_606 : decode cL_law 606 = .ok (.lcmp, 1) := by decide +kernel
theorem dL_law_607 : decode cL_law 607 = .ok (.ifCond .eq 5, 3) := by decide +kernel
theorem dL_law_610 : decode cL_law 610 = .ok (.iconst 0, 1) := by decide +kernel
theorem dL_law_611 : decode cL_law 611 = .ok (.ireturn, 1) := by decide +kernel
theorem dL_law_612 : decode cL_law 612 = .ok (.goto 343, 3) := by decide +kernel
theorem dL_law_615 : decode cL_law 615 = .ok (.aload_n 1, 1) := by decide +kernel
theorem dL_law_616 : decode cL_law 616 = .ok (.aload_n 0, 1) := by decide +kernel
theorem dL_law_617 : decode cL_law 617 = .ok (.iload 4, 2) := by decide +kernel
theorem dL_law_619 : decode cL_law 619 = .ok (.iconst 1, 1) := by decide +kernel
theorem dL_law_620 : decode cL_law 620 = .ok (.iadd, 1) := by decide +kernel
theorem dL_law_621 : decode cL_law 621 = .ok (.iaload, 1) := by decide +kernel
theorem dL_law_622 : decode cL_law 622 = .ok (.aload_n 0, 1) := by decide +kernel
theorem dL_law_623 : decode cL_law 623 = .ok (.iload 4, 2) := by decide +kernel
theorem dL_law_625 : decode cL_law 625 = .ok (.iconst 2, 1) := by decide +kernel
theorem dL_law_626 : decode cL_law 626 = .ok (.iadd, 1) := by decide +kernel
theorem dL_law_627 : decode cL_law 627 = .ok (.iaload, 1) := by decide +kernel
theorem dL_law_628 : decode cL_law 628 = .ok (.aload_n 3, 1) := by decide +kernel
theorem dL_law_629 : decode cL_law 629 = .ok (.invokestatic 93, 3) := by decide +kernel
theorem dL_law_632 : decode cL_law 632 = .ok (.istore 5, 2) := by decide +kernel
theorem dL_law_634 : decode cL_law 634 = .ok (.aload_n 2, 1) := by decide +kernel
theorem dL_law_635 : decode cL_law 635 = .ok (.aload_n 0, 1) := by decide +kernel
theorem dL_law_636 : decode cL_law 636 = .ok (.iload 4, 2) := by decide +kernel
theorem dL_law_638 : decode cL_law 638 = .ok (.iconst 1, 1) := by decide +kernel
theorem dL_law_639 : decode cL_law 639 = .ok (.iadd, 1) := by decide +kernel
theorem dL_law_640 : decode cL_law 640 = .ok (.iaload, 1) := by decide +kernel
theorem dL_law_641 : decode cL_law 641 = .ok (.aload_n 0, 1) := by decide +kernel
theorem dL_law_642 : decode cL_law 642 = .ok (.iload 4, 2) := by decide +kernel
theorem dL_law_644 : decode cL_law 644 = .ok (.iconst 2, 1) := by decide +kernel
theorem dL_law_645 : decode cL_law 645 = .ok (.iadd, 1) := by decide +kernel
theorem dL_law_646 : decode cL_law 646 = .ok (.iaload, 1) := by decide +kernel
theorem dL_law_647 : decode cL_law 647 = .ok (.invokevirtual 95, 3) := by decide +kernel
theorem dL_law_650 : decode cL_law 650 = .ok (.istore 6, 2) := by decide +kernel
theorem dL_law_652 : decode cL_law 652 = .ok (.aload_n 2, 1) := by decide +kernel
theorem dL_law_653 : decode cL_law 653 = .ok (.invokevirtual 66, 3) := by decide +kernel
theorem dL_law_656 : decode cL_law 656 = .ok (.iload 5, 2) := by decide +kernel
theorem dL_law_658 : decode cL_law 658 = .ok (.if_icmp .eq 5, 3) := by decide +kernel
theorem dL_law_661 : decode cL_law 661 = .ok (.iconst 0, 1) := by decide +kernel
theorem dL_law_662 : decode cL_law 662 = .ok (.ireturn, 1) := by decide +kernel
theorem dL_law_663 : decode cL_law 663 = .ok (.iload 5, 2) := by decide +kernel
theorem dL_law_665 : decode cL_law 665 = .ok (.ifCond .ne 15, 3) := by decide +kernel
theorem dL_law_668 : decode cL_law 668 = .ok (.aload_n 3, 1) := by decide +kernel
theorem dL_law_669 : decode cL_law 669 = .ok (.iconst 0, 1) := by decide +kernel
theorem dL_law_670 : decode cL_law 670 = .ok (.laload, 1) := by decide +kernel
theorem dL_law_671 : decode cL_law 671 = .ok (.iload 6, 2) := by decide +kernel
theorem dL_law_673 : decode cL_law 673 = .ok (.i2l, 1) := by decide +kernel
theorem dL_law_674 : decode cL_law 674 = .ok (.lcmp, 1) := by decide +kernel
theorem dL_law_675 : decode cL_law 675 = .ok (.ifCond .eq 5, 3) := by decide +kernel
theorem dL_law_678 : decode cL_law 678 = .ok (.iconst 0, 1) := by decide +kernel
theorem dL_law_679 : decode cL_law 679 = .ok (.ireturn, 1) := by decide +kernel
theorem dL_law_680 : decode cL_law 680 = .ok (.goto 275, 3) := by decide +kernel
theorem dL_law_683 : decode cL_law 683 = .ok (.aload_n 1, 1) := by decide +kernel
theorem dL_law_684 : decode cL_law 684 = .ok (.invokevirtual 96, 3) := by decide +kernel
theorem dL_law_687 : decode cL_law 687 = .ok (.aload_n 2, 1) := by decide +kernel
theorem dL_law_688 : decode cL_law 688 = .ok (.invokevirtual 99, 3) := by decide +kernel
theorem dL_law_691 : decode cL_law 691 = .ok (.if_icmp .eq 264, 3) := by decide +kernel
theorem dL_law_694 : decode cL_law 694 = .ok (.iconst 0, 1) := by decide +kernel
theorem dL_law_695 : decode cL_law 695 = .ok (.ireturn, 1) := by decide +kernel
theorem dL_law_696 : decode cL_law 696 = .ok (.aload_n 1, 1) := by decide +kernel
theorem dL_law_697 : decode cL_law 697 = .ok (.aload_n 0, 1) := by decide +kernel
theorem dL_law_698 : decode cL_law 698 = .ok (.iload 4, 2) := by decide +kernel
theorem dL_law_700 : decode cL_law 700 = .ok (.iconst 1, 1) := by decide +kernel
theorem dL_law_701 : decode cL_law 701 = .ok (.iadd, 1) := by decide +kernel
theorem dL_law_702 : decode cL_law 702 = .ok (.iaload, 1) := by decide +kernel
theorem dL_law_703 : decode cL_law 703 = .ok (.aload_n 0, 1) := by decide +kernel
theorem dL_law_704 : decode cL_law 704 = .ok (.iload 4, 2) := by decide +kernel
theorem dL_law_706 : decode cL_law 706 = .ok (.iconst 2, 1) := by decide +kernel
theorem dL_law_707 : decode cL_law 707 = .ok (.iadd, 1) := by decide +kernel
theorem dL_law_708 : decode cL_law 708 = .ok (.iaload, 1) := by decide +kernel
theorem dL_law_709 : decode cL_law 709 = .ok (.aload_n 0, 1) := by decide +kernel
theorem dL_law_710 : decode cL_law 710 = .ok (.iload 4, 2) := by decide +kernel
theorem dL_law_712 : decode cL_law 712 = .ok (.iconst 3, 1) := by decide +kernel
theorem dL_law_713 : decode cL_law 713 = .ok (.iadd, 1) := by decide +kernel
theorem dL_law_714 : decode cL_law 714 = .ok (.iaload, 1) := by decide +kernel
theorem dL_law_715 : decode cL_law 715 = .ok (.aload_n 3, 1) := by decide +kernel
theorem dL_law_716 : decode cL_law 716 = .ok (.invokestatic 100, 3) := by decide +kernel
theorem dL_law_719 : decode cL_law 719 = .ok (.istore 5, 2) := by decide +kernel
theorem dL_law_721 : decode cL_law 721 = .ok (.aload_n 2, 1) := by decide +kernel
theorem dL_law_722 : decode cL_law 722 = .ok (.aload_n 0, 1) := by decide +kernel
theorem dL_law_723 : decode cL_law 723 = .ok (.iload 4, 2) := by decide +kernel
theorem dL_law_725 : decode cL_law 725 = .ok (.iconst 1, 1) := by decide +kernel
theorem dL_law_726 : decode cL_law 726 = .ok (.iadd, 1) := by decide +kernel
theorem dL_law_727 : decode cL_law 727 = .ok (.iaload, 1) := by decide +kernel
theorem dL_law_728 : decode cL_law 728 = .ok (.aload_n 0, 1) := by decide +kernel
theorem dL_law_729 : decode cL_law 729 = .ok (.iload 4, 2) := by decide +kernel
theorem dL_law_731 : decode cL_law 731 = .ok (.iconst 2, 1) := by decide +kernel
theorem dL_law_732 : decode cL_law 732 = .ok (.iadd, 1) := by decide +kernel
theorem dL_law_733 : decode cL_law 733 = .ok (.iaload, 1) := by decide +kernel
theorem dL_law_734 : decode cL_law 734 = .ok (.aload_n 0, 1) := by decide +kernel
theorem dL_law_735 : decode cL_law 735 = .ok (.iload 4, 2) := by decide +kernel
theorem dL_law_737 : decode cL_law 737 = .ok (.iconst 3, 1) := by decide +kernel
theorem dL_law_738 : decode cL_law 738 = .ok (.iadd, 1) := by decide +kernel
theorem dL_law_739 : decode cL_law 739 = .ok (.iaload, 1) := by decide +kernel
theorem dL_law_740 : decode cL_law 740 = .ok (.invokevirtual 102, 3) := by decide +kernel
theorem dL_law_743 : decode cL_law 743 = .ok (.istore 6, 2) := by decide +kernel
theorem dL_law_745 : decode cL_law 745 = .ok (.aload_n 2, 1) := by decide +kernel
theorem dL_law_746 : decode cL_law 746 = .ok (.invokevirtual 66, 3) := by decide +kernel
theorem dL_law_749 : decode cL_law 749 = .ok (.iload 5, 2) := by decide +kernel
theorem dL_law_751 : decode cL_law 751 = .ok (.if_icmp .eq 5, 3) := by decide +kernel
theorem dL_law_754 : decode cL_law 754 = .ok (.iconst 0, 1) := by decide +kernel
theorem dL_law_755 : decode cL_law 755 = .ok (.ireturn, 1) := by decide +kernel
theorem dL_law_756 : decode cL_law 756 = .ok (.iload 5, 2) := by decide +kernel
theorem dL_law_758 : decode cL_law 758 = .ok (.ifCond .ne 15, 3) := by decide +kernel
theorem dL_law_761 : decode cL_law 761 = .ok (.aload_n 3, 1) := by decide +kernel
theorem dL_law_762 : decode cL_law 762 = .ok (.iconst 0, 1) := by decide +kernel
theorem dL_law_763 : decode cL_law 763 = .ok (.laload, 1) := by decide +kernel
theorem dL_law_764 : decode cL_law 764 = .ok (.iload 6, 2) := by decide +kernel
theorem dL_law_766 : decode cL_law 766 = .ok (.i2l, 1) := by decide +kernel
theorem dL_law_767 : decode cL_law 767 = .ok (.lcmp, 1) := by decide +kernel
theorem dL_law_768 : decode cL_law 768 = .ok (.ifCond .eq 5, 3) := by decide +kernel
theorem dL_law_771 : decode cL_law 771 = .ok (.iconst 0, 1) := by decide +kernel
theorem dL_law_772 : decode cL_law 772 = .ok (.ireturn, 1) := by decide +kernel
theorem dL_law_773 : decode cL_law 773 = .ok (.goto 182, 3) := by decide +kernel
theorem dL_law_776 : decode cL_law 776 = .ok (.aload_n 1, 1) := by decide +kernel
theorem dL_law_777 : decode cL_law 777 = .ok (.aload_n 0, 1) := by decide +kernel
theorem dL_law_778 : decode cL_law 778 = .ok (.iload 4, 2) := by decide +kernel
theorem dL_law_780 : decode cL_law 780 = .ok (.iconst 1, 1) := by decide +kernel
theorem dL_law_781 : decode cL_law 781 = .ok (.iadd, 1) := by decide +kernel
theorem dL_law_782 : decode cL_law 782 = .ok (.iaload, 1) := by decide +kernel
theorem dL_law_783 : decode cL_law 783 = .ok (.aload_n 0, 1) := by decide +kernel
theorem dL_law_784 : decode cL_law 784 = .ok (.iload 4, 2) := by decide +kernel
theorem dL_law_786 : decode cL_law 786 = .ok (.iconst 2, 1) := by decide +kernel
theorem dL_law_787 : decode cL_law 787 = .ok (.iadd, 1) := by decide +kernel
theorem dL_law_788 : decode cL_law 788 = .ok (.iaload, 1) := by decide +kernel
theorem dL_law_789 : decode cL_law 789 = .ok (.aload_n 3, 1) := by decide +kernel
theorem dL_law_790 : decode cL_law 790 = .ok (.invokestatic 103, 3) := by decide +kernel
theorem dL_law_793 : decode cL_law 793 = .ok (.istore 5, 2) := by decide +kernel
theorem dL_law_795 : decode cL_law 795 = .ok (.aload_n 2, 1) := by decide +kernel
theorem dL_law_796 : decode cL_law 796 = .ok (.aload_n 0, 1) := by decide +kernel
theorem dL_law_797 : decode cL_law 797 = .ok (.iload 4, 2) := by decide +kernel
theorem dL_law_799 : decode cL_law 799 = .ok (.iconst 1, 1) := by decide +kernel
theorem dL_law_800 : decode cL_law 800 = .ok (.iadd, 1) := by decide +kernel
theorem dL_law_801 : decode cL_law 801 = .ok (.iaload, 1) := by decide +kernel
theorem dL_law_802 : decode cL_law 802 = .ok (.aload_n 0, 1) := by decide +kernel
theorem dL_law_803 : decode cL_law 803 = .ok (.iload 4, 2) := by decide +kernel
theorem dL_law_805 : decode cL_law 805 = .ok (.iconst 2, 1) := by decide +kernel
theorem dL_law_806 : decode cL_law 806 = .ok (.iadd, 1) := by decide +kernel
theorem dL_law_807 : decode cL_law 807 = .ok (.iaload, 1) := by decide +kernel
theorem dL_law_808 : decode cL_law 808 = .ok (.invokevirtual 105, 3) := by decide +kernel
theorem dL_law_811 : decode cL_law 811 = .ok (.istore 6, 2) := by decide +kernel
theorem dL_law_813 : decode cL_law 813 = .ok (.aload_n 2, 1) := by decide +kernel
theorem dL_law_814 : decode cL_law 814 = .ok (.invokevirtual 66, 3) := by decide +kernel
theorem dL_law_817 : decode cL_law 817 = .ok (.iload 5, 2) := by decide +kernel
theorem dL_law_819 : decode cL_law 819 = .ok (.if_icmp .eq 5, 3) := by decide +kernel
theorem dL_law_822 : decode cL_law 822 = .ok (.iconst 0, 1) := by decide +kernel
theorem dL_law_823 : decode cL_law 823 = .ok (.ireturn, 1) := by decide +kernel
theorem dL_law_824 : decode cL_law 824 = .ok (.iload 5, 2) := by decide +kernel
theorem dL_law_826 : decode cL_law 826 = .ok (.ifCond .ne 15, 3) := by decide +kernel
theorem dL_law_829 : decode cL_law 829 = .ok (.aload_n 3, 1) := by decide +kernel
theorem dL_law_830 : decode cL_law 830 = .ok (.iconst 0, 1) := by decide +kernel
theorem dL_law_831 : decode cL_law 831 = .ok (.laload, 1) := by decide +kernel
theorem dL_law_832 : decode cL_law 832 = .ok (.iload 6, 2) := by decide +kernel
theorem dL_law_834 : decode cL_law 834 = .ok (.i2l, 1) := by decide +kernel
theorem dL_law_835 : decode cL_law 835 = .ok (.lcmp, 1) := by decide +kernel
theorem dL_law_836 : decode cL_law 836 = .ok (.ifCond .eq 5, 3) := by decide +kernel
theorem dL_law_839 : decode cL_law 839 = .ok (.iconst 0, 1) := by decide +kernel
theorem dL_law_840 : decode cL_law 840 = .ok (.ireturn, 1) := by decide +kernel
theorem dL_law_841 : decode cL_law 841 = .ok (.goto 114, 3) := by decide +kernel
theorem dL_law_844 : decode cL_law 844 = .ok (.aload_n 1, 1) := by decide +kernel
theorem dL_law_845 : decode cL_law 845 = .ok (.aload_n 0, 1) := by decide +kernel
theorem dL_law_846 : decode cL_law 846 = .ok (.iload 4, 2) := by decide +kernel
theorem dL_law_848 : decode cL_law 848 = .ok (.iconst 1, 1) := by decide +kernel
theorem dL_law_849 : decode cL_law 849 = .ok (.iadd, 1) := by decide +kernel
theorem dL_law_850 : decode cL_law 850 = .ok (.iaload, 1) := by decide +kernel
theorem dL_law_851 : decode cL_law 851 = .ok (.aload_n 3, 1) := by decide +kernel
theorem dL_law_852 : decode cL_law 852 = .ok (.invokestatic 106, 3) := by decide +kernel
theorem dL_law_855 : decode cL_law 855 = .ok (.istore 5, 2) := by decide +kernel
theorem dL_law_857 : decode cL_law 857 = .ok (.aload_n 2, 1) := by decide +kernel
theorem dL_law_858 : decode cL_law 858 = .ok (.aload_n 0, 1) := by decide +kernel
theorem dL_law_859 : decode cL_law 859 = .ok (.iload 4, 2) := by decide +kernel
theorem dL_law_861 : decode cL_law 861 = .ok (.iconst 1, 1) := by decide +kernel
theorem dL_law_862 : decode cL_law 862 = .ok (.iadd, 1) := by decide +kernel
theorem dL_law_863 : decode cL_law 863 = .ok (.iaload, 1) := by decide +kernel
theorem dL_law_864 : decode cL_law 864 = .ok (.invokevirtual 108, 3) := by decide +kernel
theorem dL_law_867 : decode cL_law 867 = .ok (.istore 6, 2) := by decide +kernel
theorem dL_law_869 : decode cL_law 869 = .ok (.aload_n 2, 1) := by decide +kernel
theorem dL_law_870 : decode cL_law 870 = .ok (.invokevirtual 66, 3) := by decide +kernel
theorem dL_law_873 : decode cL_law 873 = .ok (.iload 5, 2) := by decide +kernel
theorem dL_law_875 : decode cL_law 875 = .ok (.if_icmp .eq 5, 3) := by decide +kernel
theorem dL_law_878 : decode cL_law 878 = .ok (.iconst 0, 1) := by decide +kernel
theorem dL_law_879 : decode cL_law 879 = .ok (.ireturn, 1) := by decide +kernel
theorem dL_law_880 : decode cL_law 880 = .ok (.iload 5, 2) := by decide +kernel
theorem dL_law_882 : decode cL_law 882 = .ok (.ifCond .ne 15, 3) := by decide +kernel
theorem dL_law_885 : decode cL_law 885 = .ok (.aload_n 3, 1) := by decide +kernel
theorem dL_law_886 : decode cL_law 886 = .ok (.iconst 0, 1) := by decide +kernel
theorem dL_law_887 : decode cL_law 887 = .ok (.laload, 1) := by decide +kernel
theorem dL_law_888 : decode cL_law 888 = .ok (.iload 6, 2) := by decide +kernel
theorem dL_law_890 : decode cL_law 890 = .ok (.i2l, 1) := by decide +kernel
theorem dL_law_891 : decode cL_law 891 = .ok (.lcmp, 1) := by decide +kernel
theorem dL_law_892 : decode cL_law 892 = .ok (.ifCond .eq 5, 3) := by decide +kernel
theorem dL_law_895 : decode cL_law 895 = .ok (.iconst 0, 1) := by decide +kernel
theorem dL_law_896 : decode cL_law 896 = .ok (.ireturn, 1) := by decide +kernel
theorem dL_law_897 : decode cL_law 897 = .ok (.goto 58, 3) := by decide +kernel
theorem dL_law_900 : decode cL_law 900 = .ok (.aload_n 1, 1) := by decide +kernel
theorem dL_law_901 : decode cL_law 901 = .ok (.invokevirtual 109, 3) := by decide +kernel
theorem dL_law_904 : decode cL_law 904 = .ok (.dstore 5, 2) := by decide +kernel
theorem dL_law_906 : decode cL_law 906 = .ok (.aload_n 2, 1) := by decide +kernel
theorem dL_law_907 : decode cL_law 907 = .ok (.invokevirtual 113, 3) := by decide +kernel
theorem dL_law_910 : decode cL_law 910 = .ok (.dstore 7, 2) := by decide +kernel
theorem dL_law_912 : decode cL_law 912 = .ok (.dload 5, 2) := by decide +kernel
theorem dL_law_914 : decode cL_law 914 = .ok (.dload 7, 2) := by decide +kernel
theorem dL_law_916 : decode cL_law 916 = .ok (.dcmp .l, 1) := by decide +kernel
theorem dL_law_917 : decode cL_law 917 = .ok (.ifCond .eq 21, 3) := by decide +kernel
theorem dL_law_920 : decode cL_law 920 = .ok (.dload 5, 2) := by decide +kernel
theorem dL_law_922 : decode cL_law 922 = .ok (.dload 5, 2) := by decide +kernel
theorem dL_law_924 : decode cL_law 924 = .ok (.dcmp .l, 1) := by decide +kernel
theorem dL_law_925 : decode cL_law 925 = .ok (.ifCond .eq 11, 3) := by decide +kernel
theorem dL_law_928 : decode cL_law 928 = .ok (.dload 7, 2) := by decide +kernel
theorem dL_law_930 : decode cL_law 930 = .ok (.dload 7, 2) := by decide +kernel
theorem dL_law_932 : decode cL_law 932 = .ok (.dcmp .l, 1) := by decide +kernel
theorem dL_law_933 : decode cL_law 933 = .ok (.ifCond .ne 5, 3) := by decide +kernel
theorem dL_law_936 : decode cL_law 936 = .ok (.iconst 0, 1) := by decide +kernel
theorem dL_law_937 : decode cL_law 937 = .ok (.ireturn, 1) := by decide +kernel
theorem dL_law_938 : decode cL_law 938 = .ok (.goto 17, 3) := by decide +kernel
theorem dL_law_941 : decode cL_law 941 = .ok (.aload_n 1, 1) := by decide +kernel
theorem dL_law_942 : decode cL_law 942 = .ok (.invokevirtual 114, 3) := by decide +kernel
theorem dL_law_945 : decode cL_law 945 = .ok (.aload_n 2, 1) := by decide +kernel
theorem dL_law_946 : decode cL_law 946 = .ok (.invokevirtual 118, 3) := by decide +kernel
theorem dL_law_949 : decode cL_law 949 = .ok (.lcmp, 1) := by decide +kernel
theorem dL_law_950 : decode cL_law 950 = .ok (.ifCond .eq 5, 3) := by decide +kernel
theorem dL_law_953 : decode cL_law 953 = .ok (.iconst 0, 1) := by decide +kernel
theorem dL_law_954 : decode cL_law 954 = .ok (.ireturn, 1) := by decide +kernel
theorem dL_law_955 : decode cL_law 955 = .ok (.iinc 4 4, 3) := by decide +kernel
theorem dL_law_958 : decode cL_law 958 = .ok (.goto (-935), 3) := by decide +kernel
theorem dL_law_961 : decode cL_law 961 = .ok (.iconst 1, 1) := by decide +kernel
theorem dL_law_962 : decode cL_law 962 = .ok (.ireturn, 1) := by decide +kernel
end
section
/-! whole numbers: an int of the machine is iI z for an Int z -/
def iI (z : Int) : Int32 := Int32.ofInt z
def zB (a : Int) : Prop := -2147483648 ≤ a ∧ a ≤ 2147483647
theorem zB_of {a : Int} (h1 : -2147483648 ≤ a) (h2 : a ≤ 2147483647) : zB a := ⟨h1, h2⟩
theorem zB_nat {n : Nat} (h : n ≤ 2147483647) : zB (n : Int) := ⟨by omega, by omega⟩
theorem iI_add (a b : Int) : iI a + iI b = iI (a + b) := (Int32.ofInt_add a b).symm
theorem iI_sub (a b : Int) : iI a - iI b = iI (a - b) := (Int32.ofInt_sub a b).symm
theorem iI_mul (a b : Int) : iI a * iI b = iI (a * b) := (Int32.ofInt_mul a b).symm
theorem iI_toInt {a : Int} (h : zB a) : (iI a).toInt = a := Int32.toInt_ofInt_of_le (by have := h.1; omega) (by have := h.2; omega)
theorem iI_clamp {a : Int} (h : zB a) : (iI a).toNatClampNeg = a.toNat := Int32.toNatClampNeg_ofInt_of_le (by have := h.1; omega) (by have := h.2; omega)
theorem iI_of (x : Int32) : ∃ z : Int, zB z ∧ x = iI z := ⟨x.toInt, ⟨by have := x.le_toInt; omega, by have := x.toInt_lt; omega⟩, (Int32.ofInt_toInt x).symm⟩
theorem iI_nI (n : Nat) : nI n = iI n := (Int32.ofInt_eq_ofNat).symm
theorem iI_lt {a b : Int} (ha : zB a) (hb : zB b) : iI a < iI b ↔ a < b := by rw [Int32.lt_iff_toInt_lt, iI_toInt ha, iI_toInt hb]
theorem iI_le {a b : Int} (ha : zB a) (hb : zB b) : iI a ≤ iI b ↔ a ≤ b := by rw [Int32.le_iff_toInt_le, iI_toInt ha, iI_toInt hb]
theorem iI_eq {a b : Int} (ha : zB a) (hb : zB b) : iI a = iI b ↔ a = b := by rw [← Int32.toInt_inj, iI_toInt ha, iI_toInt hb]
theorem iI_0 : (0 : Int32) = iI 0 := rfl
theorem zB_0 : zB 0 := ⟨by decide, by decide⟩
theorem iI_div {a b : Int} (ha : zB a) (hb : zB b) (h0 : 0 ≤ a) (h1 : 0 < b) : iI a / iI b = iI (a / b) := by
  have h2 := ha.2
  have h3 := hb.2
  have e1 : Int32.minValue.toInt = -2147483648 := by decide
  have e2 : Int32.maxValue.toInt = 2147483647 := by decide
  have h := Int32.ofInt_tdiv (a := a) (b := b) (by rw [e1]; omega) (by rw [e2]; omega) (by rw [e1]; omega) (by rw [e2]; omega)
  rw [Int.tdiv_eq_ediv_of_nonneg h0] at h
  exact h.symm
theorem iI_in {a : Int} (h : zB a) {n : Nat} (h0 : 0 ≤ a) (h1 : a < n) : vp_in (iI a) n := vp_in_iff.mpr (by rw [iI_toInt h]; exact ⟨h0, h1⟩)
/-- a truth as an int -/
def bZ (P : Prop) [Decidable P] : Int := if P then 1 else 0
theorem bZ_t {P : Prop} [Decidable P] (h : P) : bZ P = 1 := if_pos h
theorem bZ_f {P : Prop} [Decidable P] (h : ¬ P) : bZ P = 0 := if_neg h
theorem bZ_01 (P : Prop) [Decidable P] : bZ P = 0 ∨ bZ P = 1 := by unfold bZ; split; exact Or.inr rfl; exact Or.inl rfl
theorem bZ_iff {P Q : Prop} [Decidable P] [Decidable Q] (h : P ↔ Q) : bZ P = bZ Q := by unfold bZ; by_cases hp : P; rw [if_pos hp, if_pos (h.mp hp)]; rw [if_neg hp, if_neg (fun q => hp (h.mpr q))]
theorem bZ_nar (P : Prop) [Decidable P] : narrow .boolean (.int (iI (bZ P))) = .int (iI (bZ P)) := by rcases bZ_01 P with h | h <;> rw [h] <;> rfl
/-- a function of numbers, changed at one place -/
def uZ (b : Nat → Int) (k : Nat) (v : Int) : Nat → Int := fun j => if j = k then v else b j
theorem uZ_s (b : Nat → Int) (k : Nat) (v : Int) : uZ b k v k = v := if_pos rfl
theorem uZ_n (b : Nat → Int) (v : Int) {k j : Nat} (h : j ≠ k) : uZ b k v j = b j := if_neg h
theorem uZ_upd (b : Nat → Int) (k : Nat) (v : Int) : upd (fun j => iI (b j)) k (iI v) = fun j => iI (uZ b k v j) := by
  funext j
  by_cases h : j = k
  · subst h; rw [pk_us, uZ_s]
  · rw [pk_un h, uZ_n b v h]
abbrev zArr (cI : ClassId) (n : Nat) (b : Nat → Int) : va_E := .inl (cI, (n, .inl (fun k => iI (b k))))
def zCpy (f g : Nat → Int) (n : Nat) : Nat → Int := fun k => if k < n then f k else g k
theorem zCpy_cpy (f g : Nat → Int) (n : Nat) : va_cpy (fun k => iI (f k)) (fun k => iI (g k)) 0 0 n = fun k => iI (zCpy f g n k) := by
  funext k
  unfold va_cpy zCpy
  by_cases h : k < n
  · rw [if_pos ⟨Nat.zero_le _, by omega⟩, if_pos h]; simp
  · rw [if_neg (fun q => h (by omega)), if_neg h]
/-! places of a world, changed -/
def zUp : va_W → List Nat → va_W → va_W
  | ws, i :: is, x :: xs => zUp (ws.set i x) is xs
  | ws, _, _ => ws
theorem zUp_get : ∀ (is : List Nat) (xs ws : va_W) (k : Nat) (q : Nat × va_E), (zUp ws is xs)[k]? = some q → (∃ j : Nat, is[j]? = some k ∧ xs[j]? = some q) ∨ (ws[k]? = some q ∧ ∀ (j : Nat) (x : Nat × va_E), is[j]? = some k → xs[j]? = some x → False)
  | [], xs, ws, k, q, h => Or.inr ⟨by cases xs <;> exact h, fun j x hj _ => by simp at hj⟩
  | i :: is, [], ws, k, q, h => Or.inr ⟨h, fun j x _ hx => by simp at hx⟩
  | i :: is, x :: xs, ws, k, q, h => by
    rcases zUp_get is xs (ws.set i x) k q h with ⟨j, h1, h2⟩ | ⟨h1, h2⟩
    · exact Or.inl ⟨j + 1, by simpa using h1, by simpa using h2⟩
    · by_cases hk : i = k
      · subst hk
        have hlt : i < ws.length := by
          have := (List.getElem?_eq_some_iff.mp h1).1
          simpa using this
        rw [List.getElem?_set_self hlt] at h1
        exact Or.inl ⟨0, rfl, by simpa using h1⟩
      · rw [List.getElem?_set_ne hk] at h1
        refine Or.inr ⟨h1, fun j y hj hy => ?_⟩
        cases j with
        | zero => simp at hj; exact hk hj
        | succ j => exact h2 j y (by simpa using hj) (by simpa using hy)
def zA (ws : va_W) : Nat → Prop := fun q => ∃ (k : Nat) (e : va_E), ws[k]? = some (q, e)
theorem zA_D {A : Nat → Prop} {ws : va_W} (h : va_D A ws) : va_D (zA ws) ws := ⟨h.1, fun k q hk => ⟨k, q.2, hk⟩⟩
theorem zA_free {A0 : Nat → Prop} {ws wc : va_W} (hD : va_D A0 ws) (is : List Nat) (hC : is.map (fun i => ws[i]?) = wc.map some) : ∀ q, zA wc q → A0 q := by
  rintro q ⟨k, e, h⟩
  have h1 : (is.map (fun i => ws[i]?))[k]? = some (some (q, e)) := by rw [hC, List.getElem?_map, h]; rfl
  rw [List.getElem?_map] at h1
  cases hi : is[k]? with
  | none => rw [hi] at h1; cases h1
  | some i => rw [hi] at h1; exact hD.2 i (q, e) (Option.some.inj h1)
theorem z_at {ws wc : va_W} {is : List Nat} (hC : is.map (fun i => ws[i]?) = wc.map some) {k : Nat} {q : Nat × va_E} (hq : wc[k]? = some q) : ∃ i, is[k]? = some i ∧ ws[i]? = some q := by
  have h1 : (is.map (fun i => ws[i]?))[k]? = some (some q) := by rw [hC, List.getElem?_map, hq]; rfl
  rw [List.getElem?_map] at h1
  cases hi : is[k]? with
  | none => rw [hi] at h1; cases h1
  | some i => rw [hi] at h1; exact ⟨i, rfl, Option.some.inj h1⟩
theorem z_adr {wc w1 : va_W} (h : w1.map Prod.fst = wc.map Prod.fst) {j : Nat} {q : Nat × va_E} (hq : w1[j]? = some q) : ∃ p, wc[j]? = some p ∧ p.1 = q.1 := by
  have h1 : (w1.map Prod.fst)[j]? = some q.1 := by rw [List.getElem?_map, hq]; rfl
  rw [h, List.getElem?_map] at h1
  cases hw : wc[j]? with
  | none => rw [hw] at h1; cases h1
  | some p => rw [hw] at h1; exact ⟨p, rfl, Option.some.inj h1⟩
/-- behind a call that writes in place: the callee's cells, changed, among the caller's -/
theorem z_join {A0 : Nat → Prop} {D : va_G} {cl : List vw_C} {ws wc w1 : va_W} {H H1 : Heap} (hP : va_P D cl ws H) (hD : va_D A0 ws) (is : List Nat) (hC : is.map (fun i => ws[i]?) = wc.map some) (hadr : w1.map Prod.fst = wc.map Prod.fst)
    (hk : ∀ q : Nat, q < H.size → ¬ zA wc q → H1[q]? = H[q]?) (hP1 : va_P D cl w1 H1) : va_P D cl (zUp ws is w1) H1 ∧ va_D A0 (zUp ws is w1) := by
  have old : ∀ (k : Nat) (q : Nat × va_E), (zUp ws is w1)[k]? = some q → ∃ q', ws[k]? = some q' ∧ q'.1 = q.1 := by
    intro k q h
    rcases zUp_get is w1 ws k q h with ⟨j, h1, h2⟩ | ⟨h1, -⟩
    · obtain ⟨r, h3, h4⟩ := z_adr hadr h2
      obtain ⟨i, h5, h6⟩ := z_at hC h3
      cases h1.symm.trans h5
      exact ⟨r, h6, h4⟩
    · exact ⟨q, h1, rfl⟩
  refine ⟨fun k q h => ?_, fun i j x y hi hj hxy => ?_, fun k q h => ?_⟩
  · rcases zUp_get is w1 ws k q h with ⟨j, h1, h2⟩ | ⟨h1, h2⟩
    · exact hP1 j q h2
    · refine (hP k q h1).kept (hk q.1 (hP k q h1).lt ?_)
      rintro ⟨j, e, h3⟩
      obtain ⟨i, h4, h5⟩ := z_at hC h3
      cases hD.1 i k _ _ h5 h1 rfl
      have h6 : (w1.map Prod.fst)[j]? = some q.1 := by rw [hadr, List.getElem?_map, h3]; rfl
      rw [List.getElem?_map] at h6
      cases hw : w1[j]? with
      | none => rw [hw] at h6; cases h6
      | some r => exact h2 j r h4 hw
  · obtain ⟨x', h1, h2⟩ := old i x hi
    obtain ⟨y', h3, h4⟩ := old j y hj
    exact hD.1 i j x' y' h1 h3 (by rw [h2, h4, hxy])
  · obtain ⟨q', h1, h2⟩ := old k q h
    rw [← h2]
    exact hD.2 k q' h1

section ZR
variable {p : Program} {l : Launch} {e : Env} {R : Room} {s : State} {m : MethodId} {args : Array Value} {below : List Frame} {meth : Method} {c : Code} {H : Heap} {locs : List Loc} {cells slots : Nat} {Q : State → Prop}
variable {cc : ByteArray} {pc : Nat} {ls : Array Slot} {rest : List Value}

theorem zr_ic (hx : p.tables.exec = Jvm.exec) (hb : c.code = cc) {n : Int} (hdg : decode cc pc = .ok (.iconst n, 1))
    (k : W p l e R s m args below meth c H locs cells slots Q (F0 m (pc + 1) ls (.int (iI n) :: rest))) : W p l e R s m args below meth c H locs cells slots Q (F0 m pc ls rest) := lv_iconst hx hb hdg rfl k
theorem zr_bi (hx : p.tables.exec = Jvm.exec) (hb : c.code = cc) {n : Int} (hdg : decode cc pc = .ok (.bipush n, 2)) (hv : (Int8.ofInt n).toInt32 = iI n)
    (k : W p l e R s m args below meth c H locs cells slots Q (F0 m (pc + 2) ls (.int (iI n) :: rest))) : W p l e R s m args below meth c H locs cells slots Q (F0 m pc ls rest) := lv_bipush hx hb hdg hv k
theorem zr_si (hx : p.tables.exec = Jvm.exec) (hb : c.code = cc) {n : Int} (hdg : decode cc pc = .ok (.sipush n, 3)) (hv : (Int16.ofInt n).toInt32 = iI n)
    (k : W p l e R s m args below meth c H locs cells slots Q (F0 m (pc + 3) ls (.int (iI n) :: rest))) : W p l e R s m args below meth c H locs cells slots Q (F0 m pc ls rest) := lv_sipush hx hb hdg hv k
theorem zr_add (hx : p.tables.exec = Jvm.exec) (hb : c.code = cc) {x y : Int} (hdg : decode cc pc = .ok (.iadd, 1))
    (k : W p l e R s m args below meth c H locs cells slots Q (F0 m (pc + 1) ls (.int (iI (x + y)) :: rest))) : W p l e R s m args below meth c H locs cells slots Q (F0 m pc ls (.int (iI y) :: .int (iI x) :: rest)) := lv_iadd hx hb hdg (by rw [iI_add]; exact k)
theorem zr_sub (hx : p.tables.exec = Jvm.exec) (hb : c.code = cc) {x y : Int} (hdg : decode cc pc = .ok (.isub, 1))
    (k : W p l e R s m args below meth c H locs cells slots Q (F0 m (pc + 1) ls (.int (iI (x - y)) :: rest))) : W p l e R s m args below meth c H locs cells slots Q (F0 m pc ls (.int (iI y) :: .int (iI x) :: rest)) := lv_isub hx hb hdg (by rw [iI_sub]; exact k)
theorem zr_mul (hx : p.tables.exec = Jvm.exec) (hb : c.code = cc) {x y : Int} (hdg : decode cc pc = .ok (.imul, 1))
    (k : W p l e R s m args below meth c H locs cells slots Q (F0 m (pc + 1) ls (.int (iI (x * y)) :: rest))) : W p l e R s m args below meth c H locs cells slots Q (F0 m pc ls (.int (iI y) :: .int (iI x) :: rest)) := lv_imul hx hb hdg (by rw [iI_mul]; exact k)
theorem zr_addN (hx : p.tables.exec = Jvm.exec) (hb : c.code = cc) {x y : Nat} (hdg : decode cc pc = .ok (.iadd, 1))
    (k : W p l e R s m args below meth c H locs cells slots Q (F0 m (pc + 1) ls (.int (iI ((x + y : Nat) : Int)) :: rest))) : W p l e R s m args below meth c H locs cells slots Q (F0 m pc ls (.int (iI (y : Int)) :: .int (iI (x : Int)) :: rest)) := lv_iadd hx hb hdg (by rw [iI_add, ← Int.natCast_add]; exact k)
theorem zr_mulN (hx : p.tables.exec = Jvm.exec) (hb : c.code = cc) {x y : Nat} (hdg : decode cc pc = .ok (.imul, 1))
    (k : W p l e R s m args below meth c H locs cells slots Q (F0 m (pc + 1) ls (.int (iI ((x * y : Nat) : Int)) :: rest))) : W p l e R s m args below meth c H locs cells slots Q (F0 m pc ls (.int (iI (y : Int)) :: .int (iI (x : Int)) :: rest)) := lv_imul hx hb hdg (by rw [iI_mul, ← Int.natCast_mul]; exact k)
theorem zr_div (hx : p.tables.exec = Jvm.exec) (hb : c.code = cc) {x y : Int} (hdg : decode cc pc = .ok (.idiv, 1)) (hx1 : zB x) (hy1 : zB y) (h0 : 0 ≤ x) (h1 : 0 < y)
    (k : W p l e R s m args below meth c H locs cells slots Q (F0 m (pc + 1) ls (.int (iI (x / y)) :: rest))) : W p l e R s m args below meth c H locs cells slots Q (F0 m pc ls (.int (iI y) :: .int (iI x) :: rest)) := lv_idiv hx hb hdg (fun h => by have h2 := (iI_eq hy1 zB_0).mp h; omega) (by rw [iI_div hx1 hy1 h0 h1]; exact k)
theorem zr_iinc (hx : p.tables.exec = Jvm.exec) (hb : c.code = cc) {i nL k0 : Nat} {n : Int} {x : Int} {lv lv2 : List (Nat × Value)} (hdg : decode cc pc = .ok (.iinc i n, 3)) (h : lv_has ls nL lv) (hk : lv[k0]? = some (i, .int (iI x))) (hn : i < nL) (hl : (i, Value.int (iI (x + n))) :: lv.filter (fun q => !(q.1 == i) && !(q.1 + 1 == i && q.2.category == 2)) = lv2)
    (kk : ∀ ls2 : Array Slot, lv_has ls2 nL lv2 → W p l e R s m args below meth c H locs cells slots Q (F0 m (pc + 3) ls2 rest)) : W p l e R s m args below meth c H locs cells slots Q (F0 m pc ls rest) := lv_iinc hx hb hdg h hk (iI_add x n) hn hl kk
theorem zr_icmp_lt (hx : p.tables.exec = Jvm.exec) (hb : c.code = cc) {x y : Int} {off : Int} {tgt : Nat} (hdg : decode cc pc = .ok (.if_icmp .lt off, 3)) (ht : (pc : Int) + off = (tgt : Int)) (h1 : zB x) (h2 : zB y)
    (kt : x < y → W p l e R s m args below meth c H locs cells slots Q (F0 m tgt ls rest)) (kf : y ≤ x → W p l e R s m args below meth c H locs cells slots Q (F0 m (pc + 3) ls rest)) : W p l e R s m args below meth c H locs cells slots Q (F0 m pc ls (.int (iI y) :: .int (iI x) :: rest)) := lv_icmp_lt hx hb hdg ht (fun q => kt ((iI_lt h1 h2).mp q)) (fun q => kf (Int.not_lt.mp (fun z => q ((iI_lt h1 h2).mpr z))))
theorem zr_if_lt (hx : p.tables.exec = Jvm.exec) (hb : c.code = cc) {x : Int} {off : Int} {tgt : Nat} (hdg : decode cc pc = .ok (.ifCond .lt off, 3)) (ht : (pc : Int) + off = (tgt : Int)) (h1 : zB x)
    (kt : x < 0 → W p l e R s m args below meth c H locs cells slots Q (F0 m tgt ls rest)) (kf : 0 ≤ x → W p l e R s m args below meth c H locs cells slots Q (F0 m (pc + 3) ls rest)) : W p l e R s m args below meth c H locs cells slots Q (F0 m pc ls (.int (iI x) :: rest)) := lv_if_lt hx hb hdg ht (fun q => kt ((iI_lt h1 zB_0).mp q)) (fun q => kf (Int.not_lt.mp (fun z => q ((iI_lt h1 zB_0).mpr z))))
theorem zr_icmp_ge (hx : p.tables.exec = Jvm.exec) (hb : c.code = cc) {x y : Int} {off : Int} {tgt : Nat} (hdg : decode cc pc = .ok (.if_icmp .ge off, 3)) (ht : (pc : Int) + off = (tgt : Int)) (h1 : zB x) (h2 : zB y)
    (kt : y ≤ x → W p l e R s m args below meth c H locs cells slots Q (F0 m tgt ls rest)) (kf : x < y → W p l e R s m args below meth c H locs cells slots Q (F0 m (pc + 3) ls rest)) : W p l e R s m args below meth c H locs cells slots Q (F0 m pc ls (.int (iI y) :: .int (iI x) :: rest)) := lv_icmp_ge hx hb hdg ht (fun q => kt ((iI_le h2 h1).mp q)) (fun q => kf (Int.not_le.mp (fun z => q ((iI_le h2 h1).mpr z))))
theorem zr_if_ge (hx : p.tables.exec = Jvm.exec) (hb : c.code = cc) {x : Int} {off : Int} {tgt : Nat} (hdg : decode cc pc = .ok (.ifCond .ge off, 3)) (ht : (pc : Int) + off = (tgt : Int)) (h1 : zB x)
    (kt : 0 ≤ x → W p l e R s m args below meth c H locs cells slots Q (F0 m tgt ls rest)) (kf : x < 0 → W p l e R s m args below meth c H locs cells slots Q (F0 m (pc + 3) ls rest)) : W p l e R s m args below meth c H locs cells slots Q (F0 m pc ls (.int (iI x) :: rest)) := lv_if_ge hx hb hdg ht (fun q => kt ((iI_le zB_0 h1).mp q)) (fun q => kf (Int.not_le.mp (fun z => q ((iI_le zB_0 h1).mpr z))))
theorem zr_icmp_gt (hx : p.tables.exec = Jvm.exec) (hb : c.code = cc) {x y : Int} {off : Int} {tgt : Nat} (hdg : decode cc pc = .ok (.if_icmp .gt off, 3)) (ht : (pc : Int) + off = (tgt : Int)) (h1 : zB x) (h2 : zB y)
    (kt : y < x → W p l e R s m args below meth c H locs cells slots Q (F0 m tgt ls rest)) (kf : x ≤ y → W p l e R s m args below meth c H locs cells slots Q (F0 m (pc + 3) ls rest)) : W p l e R s m args below meth c H locs cells slots Q (F0 m pc ls (.int (iI y) :: .int (iI x) :: rest)) := lv_icmp_gt hx hb hdg ht (fun q => kt ((iI_lt h2 h1).mp q)) (fun q => kf (Int.not_lt.mp (fun z => q ((iI_lt h2 h1).mpr z))))
theorem zr_if_gt (hx : p.tables.exec = Jvm.exec) (hb : c.code = cc) {x : Int} {off : Int} {tgt : Nat} (hdg : decode cc pc = .ok (.ifCond .gt off, 3)) (ht : (pc : Int) + off = (tgt : Int)) (h1 : zB x)
    (kt : 0 < x → W p l e R s m args below meth c H locs cells slots Q (F0 m tgt ls rest)) (kf : x ≤ 0 → W p l e R s m args below meth c H locs cells slots Q (F0 m (pc + 3) ls rest)) : W p l e R s m args below meth c H locs cells slots Q (F0 m pc ls (.int (iI x) :: rest)) := lv_if_gt hx hb hdg ht (fun q => kt ((iI_lt zB_0 h1).mp q)) (fun q => kf (Int.not_lt.mp (fun z => q ((iI_lt zB_0 h1).mpr z))))
theorem zr_icmp_le (hx : p.tables.exec = Jvm.exec) (hb : c.code = cc) {x y : Int} {off : Int} {tgt : Nat} (hdg : decode cc pc = .ok (.if_icmp .le off, 3)) (ht : (pc : Int) + off = (tgt : Int)) (h1 : zB x) (h2 : zB y)
    (kt : x ≤ y → W p l e R s m args below meth c H locs cells slots Q (F0 m tgt ls rest)) (kf : y < x → W p l e R s m args below meth c H locs cells slots Q (F0 m (pc + 3) ls rest)) : W p l e R s m args below meth c H locs cells slots Q (F0 m pc ls (.int (iI y) :: .int (iI x) :: rest)) := lv_icmp_le hx hb hdg ht (fun q => kt ((iI_le h1 h2).mp q)) (fun q => kf (Int.not_le.mp (fun z => q ((iI_le h1 h2).mpr z))))
theorem zr_if_le (hx : p.tables.exec = Jvm.exec) (hb : c.code = cc) {x : Int} {off : Int} {tgt : Nat} (hdg : decode cc pc = .ok (.ifCond .le off, 3)) (ht : (pc : Int) + off = (tgt : Int)) (h1 : zB x)
    (kt : x ≤ 0 → W p l e R s m args below meth c H locs cells slots Q (F0 m tgt ls rest)) (kf : 0 < x → W p l e R s m args below meth c H locs cells slots Q (F0 m (pc + 3) ls rest)) : W p l e R s m args below meth c H locs cells slots Q (F0 m pc ls (.int (iI x) :: rest)) := lv_if_le hx hb hdg ht (fun q => kt ((iI_le h1 zB_0).mp q)) (fun q => kf (Int.not_le.mp (fun z => q ((iI_le h1 zB_0).mpr z))))
theorem zr_icmp_eq (hx : p.tables.exec = Jvm.exec) (hb : c.code = cc) {x y : Int} {off : Int} {tgt : Nat} (hdg : decode cc pc = .ok (.if_icmp .eq off, 3)) (ht : (pc : Int) + off = (tgt : Int)) (h1 : zB x) (h2 : zB y)
    (kt : x = y → W p l e R s m args below meth c H locs cells slots Q (F0 m tgt ls rest)) (kf : x ≠ y → W p l e R s m args below meth c H locs cells slots Q (F0 m (pc + 3) ls rest)) : W p l e R s m args below meth c H locs cells slots Q (F0 m pc ls (.int (iI y) :: .int (iI x) :: rest)) := lv_icmp_eq hx hb hdg ht (fun q => kt ((iI_eq h1 h2).mp q)) (fun q => kf (fun z => q ((iI_eq h1 h2).mpr z)))
theorem zr_if_eq (hx : p.tables.exec = Jvm.exec) (hb : c.code = cc) {x : Int} {off : Int} {tgt : Nat} (hdg : decode cc pc = .ok (.ifCond .eq off, 3)) (ht : (pc : Int) + off = (tgt : Int)) (h1 : zB x)
    (kt : x = 0 → W p l e R s m args below meth c H locs cells slots Q (F0 m tgt ls rest)) (kf : x ≠ 0 → W p l e R s m args below meth c H locs cells slots Q (F0 m (pc + 3) ls rest)) : W p l e R s m args below meth c H locs cells slots Q (F0 m pc ls (.int (iI x) :: rest)) := lv_if_eq hx hb hdg ht (fun q => kt ((iI_eq h1 zB_0).mp q)) (fun q => kf (fun z => q ((iI_eq h1 zB_0).mpr z)))
theorem zr_icmp_ne (hx : p.tables.exec = Jvm.exec) (hb : c.code = cc) {x y : Int} {off : Int} {tgt : Nat} (hdg : decode cc pc = .ok (.if_icmp .ne off, 3)) (ht : (pc : Int) + off = (tgt : Int)) (h1 : zB x) (h2 : zB y)
    (kt : x ≠ y → W p l e R s m args below meth c H locs cells slots Q (F0 m tgt ls rest)) (kf : x = y → W p l e R s m args below meth c H locs cells slots Q (F0 m (pc + 3) ls rest)) : W p l e R s m args below meth c H locs cells slots Q (F0 m pc ls (.int (iI y) :: .int (iI x) :: rest)) := lv_icmp_ne hx hb hdg ht (fun q => kt (fun z => q ((iI_eq h1 h2).mpr z))) (fun q => kf ((iI_eq h1 h2).mp q))
theorem zr_if_ne (hx : p.tables.exec = Jvm.exec) (hb : c.code = cc) {x : Int} {off : Int} {tgt : Nat} (hdg : decode cc pc = .ok (.ifCond .ne off, 3)) (ht : (pc : Int) + off = (tgt : Int)) (h1 : zB x)
    (kt : x ≠ 0 → W p l e R s m args below meth c H locs cells slots Q (F0 m tgt ls rest)) (kf : x = 0 → W p l e R s m args below meth c H locs cells slots Q (F0 m (pc + 3) ls rest)) : W p l e R s m args below meth c H locs cells slots Q (F0 m pc ls (.int (iI x) :: rest)) := lv_if_ne hx hb hdg ht (fun q => kt (fun z => q ((iI_eq h1 zB_0).mpr z))) (fun q => kf ((iI_eq h1 zB_0).mp q))
theorem bZ_0 {P : Prop} [Decidable P] : bZ P = 0 ↔ ¬ P := by unfold bZ; by_cases h : P; rw [if_pos h]; exact ⟨fun q => by omega, fun q => absurd h q⟩; rw [if_neg h]; exact ⟨fun _ => h, fun _ => rfl⟩
theorem bZ_B (P : Prop) [Decidable P] : zB (bZ P) := by rcases bZ_01 P with h | h <;> rw [h] <;> exact ⟨by decide, by decide⟩
theorem zr_ifB_eq (hx : p.tables.exec = Jvm.exec) (hb : c.code = cc) {P : Prop} [Decidable P] {off : Int} {tgt : Nat} (hdg : decode cc pc = .ok (.ifCond .eq off, 3)) (ht : (pc : Int) + off = (tgt : Int))
    (kt : ¬ P → W p l e R s m args below meth c H locs cells slots Q (F0 m tgt ls rest)) (kf : P → W p l e R s m args below meth c H locs cells slots Q (F0 m (pc + 3) ls rest)) : W p l e R s m args below meth c H locs cells slots Q (F0 m pc ls (.int (iI (bZ P)) :: rest)) := zr_if_eq hx hb hdg ht (bZ_B P) (fun q => kt (bZ_0.mp q)) (fun q => kf (Classical.not_not.mp (fun z => q (bZ_0.mpr z))))
theorem zr_ifB_ne (hx : p.tables.exec = Jvm.exec) (hb : c.code = cc) {P : Prop} [Decidable P] {off : Int} {tgt : Nat} (hdg : decode cc pc = .ok (.ifCond .ne off, 3)) (ht : (pc : Int) + off = (tgt : Int))
    (kt : P → W p l e R s m args below meth c H locs cells slots Q (F0 m tgt ls rest)) (kf : ¬ P → W p l e R s m args below meth c H locs cells slots Q (F0 m (pc + 3) ls rest)) : W p l e R s m args below meth c H locs cells slots Q (F0 m pc ls (.int (iI (bZ P)) :: rest)) := zr_if_ne hx hb hdg ht (bZ_B P) (fun q => kt (Classical.not_not.mp (fun z => q (bZ_0.mpr z)))) (fun q => kf (bZ_0.mp q))
/-- a value by another name -/
theorem zr_top {v w : Value} (h : v = w) (k : W p l e R s m args below meth c H locs cells slots Q (F0 m pc ls (w :: rest))) : W p l e R s m args below meth c H locs cells slots Q (F0 m pc ls (v :: rest)) := by rw [h]; exact k
theorem zr_topi {x y : Int} (h : x = y) (k : W p l e R s m args below meth c H locs cells slots Q (F0 m pc ls (.int (iI y) :: rest))) : W p l e R s m args below meth c H locs cells slots Q (F0 m pc ls (.int (iI x) :: rest)) := by rw [h]; exact k
variable {D : va_G} {cl : List vw_C} {tys : List (ClassId × FieldType)} {ws : va_W} {a : Nat} {A : Nat → Prop} {H0 : Heap}
theorem zr_iald (hx : p.tables.exec = Jvm.exec) (hb : c.code = cc) (hK : va_K D cl tys s) (hP : va_P D cl ws H) (q0 t0 : Nat) {cA : ClassId} {n : Nat} {b : Nat → Int} (ha : ws[q0]? = some (a, zArr cA n b)) (ht : tys[t0]? = some (cA, .int)) {z : Int} (j : Nat) (hj : z = (j : Int)) (hn : j < n) (hn2 : n ≤ 2147483647) (hdg : decode cc pc = .ok (.iaload, 1))
    (kk : W p l e R s m args below meth c H locs cells slots Q (F0 m (pc + 1) ls (.int (iI (b j)) :: rest))) : W p l e R s m args below meth c H locs cells slots Q (F0 m pc ls (.int (iI z) :: .ref a :: rest)) := by
  subst hj
  have hB : zB (j : Int) := ⟨by omega, by omega⟩
  refine va_iald hx hb hK hP q0 t0 ha ht (iI_in hB (by omega) (by omega)) hdg ?_
  rw [iI_clamp hB]
  exact kk
theorem zr_iast (hx : p.tables.exec = Jvm.exec) (hb : c.code = cc) (hK : va_K D cl tys s) (hP : va_P D cl ws H) (hD : va_D A ws) (hS : va_S A H0 H locs) (q0 t0 : Nat) {cA : ClassId} {n : Nat} {b : Nat → Int} (ha : ws[q0]? = some (a, zArr cA n b)) (ht : tys[t0]? = some (cA, .int)) {z v : Int} (j : Nat) (hj : z = (j : Int)) (hn : j < n) (hn2 : n ≤ 2147483647) (hdg : decode cc pc = .ok (.iastore, 1))
    (kk : ∀ (H1 : Heap) (locs1 : List Loc), va_P D cl (ws.set q0 (a, zArr cA n (uZ b j v))) H1 → va_D A (ws.set q0 (a, zArr cA n (uZ b j v))) → va_S A H0 H1 locs1 → W p l e R s m args below meth c H1 locs1 cells slots Q (F0 m (pc + 1) ls rest)) : W p l e R s m args below meth c H locs cells slots Q (F0 m pc ls (.int (iI v) :: .int (iI z) :: .ref a :: rest)) := by
  subst hj
  have hB : zB (j : Int) := ⟨by omega, by omega⟩
  refine va_iast hx hb hK hP hD hS q0 t0 ha ht (iI_in hB (by omega) (by omega)) hdg (fun H1 locs1 g1 g2 g3 => ?_)
  rw [iI_clamp hB, Int.toNat_natCast, uZ_upd] at g1 g2
  exact kk H1 locs1 g1 g2 g3
theorem zr_alen (hx : p.tables.exec = Jvm.exec) (hb : c.code = cc) (hK : va_K D cl tys s) (hP : va_P D cl ws H) (q0 t0 : Nat) {cA : ClassId} {n : Nat} {b : Nat → Int} (ha : ws[q0]? = some (a, zArr cA n b)) (ht : tys[t0]? = some (cA, .int)) (hdg : decode cc pc = .ok (.arraylength, 1))
    (kk : W p l e R s m args below meth c H locs cells slots Q (F0 m (pc + 1) ls (.int (iI n) :: rest))) : W p l e R s m args below meth c H locs cells slots Q (F0 m pc ls (.ref a :: rest)) := va_alen hx hb hK hP q0 t0 ha ht (iI_nI n) hdg kk
end ZR
/-! contracts: a method that only reads; one that writes the cells of its world in place -/
def zP (D : va_G) (cI : ClassId) (ws : va_W) : State → Prop := fun U => va_P D vwCl ws U.heap ∧ va_K D vwCl [(cI, .int)] U
def zPW (D : va_G) (cI : ClassId) (ws : va_W) : State → Prop := fun U => va_P D vwCl ws U.heap ∧ va_K D vwCl [(cI, .int)] U ∧ va_D (fun _ => True) ws
abbrev zRm (fr lo : Nat) : Room := { frames := fr, cells := 0, slots := 0, locals := lo }
def zRi (l : Launch) (y : MethodName) (wds : List Cond) (fr lo : Nat) (D : va_G) (cI : ClassId) (av : List Value) (ws : va_W) (r : Int32) : Prop := Met l y wds (zRm fr lo) (va_Pc av (zP D cI ws)) (vp_Si (fun x => x = r)) 0 0 (fun _ => False)
def zWv {S : Type} (l : Launch) (y : MethodName) (wds : List Cond) (fr lo : Nat) (D : va_G) (cI : ClassId) (av : List Value) (ws : va_W) (post : S → Prop) (out : S → va_W) : Prop := Met l y wds (zRm fr lo) (va_Pc av (zPW D cI ws)) (va_Qv post (fun u t => va_P D vwCl (out u) t.heap) (zA ws)) 0 0 (zA ws)
def zWi {S : Type} (l : Launch) (y : MethodName) (wds : List Cond) (fr lo : Nat) (D : va_G) (cI : ClassId) (av : List Value) (ws : va_W) (post : Int32 → S → Prop) (out : S → va_W) : Prop := Met l y wds (zRm fr lo) (va_Pc av (zPW D cI ws)) (va_Qi post (fun u t => va_P D vwCl (out u) t.heap) (zA ws)) 0 0 (zA ws)
theorem zP_blind {D : va_G} {cI : ClassId} {ws : va_W} {av : List Value} : FrameBlind (va_Pc av (zP D cI ws)) := fun a U g mk q => by
  obtain ⟨q0, qP, qK⟩ := q
  exact ⟨q0, qP, va_K.moved (u := U) (U := U.calling g mk a) (Vm.Alike.refl U.vm) qK⟩
theorem zPW_blind {D : va_G} {cI : ClassId} {ws : va_W} {av : List Value} : FrameBlind (va_Pc av (zPW D cI ws)) := fun a U g mk q => by
  obtain ⟨q0, qP, qK, qD⟩ := q
  exact ⟨q0, qP, va_K.moved (u := U) (U := U.calling g mk a) (Vm.Alike.refl U.vm) qK, qD⟩
abbrev zFix (p : Program) (m : MethodId) (c : Code) (cc : ByteArray) (nL : Nat) (s : State) (args : Array Value) (wds : List Cond) (own : String) : Prop := CallFix p m c cc nL s args wds own
section ZM
variable {l : Launch} {y : MethodName} {wds wds' : List Cond} {fr lo : Nat} {D : va_G} {cI : ClassId} {av : List Value} {ws : va_W} {cc : ByteArray} {maxL : Nat} {rt : FieldType}
theorem zRi_of {r : Int32} (hy : plainName y.cls = true) (hw : wds = Cond.code y cc maxL (some rt) :: wds') (hav : (lg_sl av).length ≤ maxL)
    (body : ∀ p e s m args below meth c ls, zFix p m c cc maxL s args wds y.cls → meth.sig.returnType = some rt → meth.locks = false → va_P D vwCl ws s.heap → va_K D vwCl [(cI, .int)] s → lv_has ls maxL (lv_args 0 av) →
      W p l e (zRm fr lo) s m args below meth c s.heap [] 0 0 (MQ below (vp_Si (fun x => x = r)) args s 0 0 (fun _ => False)) (F0 m 0 ls [])) : zRi l y wds fr lo D cI av ws r := by
  refine Met.ofW (cc := cc) (maxL := maxL) (ret := some rt) hy hw ?_
  intro p e s m args below meth c s₁ B hml hv
  obtain ⟨rfl, hP, hK⟩ := hv
  have hl := lv_entry av (n := maxL) hav
  rw [lg_entry_eq]
  exact body p e s m _ below meth c _ ⟨B.exec, B.bytes, hml, findClass_of_methodNamed B.named, atoms_spec (ws := wds) B.pre⟩ B.returns B.notSynchronized hP hK hl
theorem zWv_of {S : Type} {post : S → Prop} {out : S → va_W} (hy : plainName y.cls = true) (hw : wds = Cond.code y cc maxL none :: wds') (hav : (lg_sl av).length ≤ maxL)
    (body : ∀ p e s m args below meth c ls (A : Nat → Prop), zFix p m c cc maxL s args wds y.cls → meth.sig.returnType = none → meth.locks = false → va_P D vwCl ws s.heap → va_K D vwCl [(cI, .int)] s → va_D A ws → va_S A s.heap s.heap [] → lv_has ls maxL (lv_args 0 av) →
      W p l e (zRm fr lo) s m args below meth c s.heap [] 0 0 (MQ below (va_Qv post (fun u t => va_P D vwCl (out u) t.heap) A) args s 0 0 A) (F0 m 0 ls [])) : zWv l y wds fr lo D cI av ws post out := by
  refine Met.ofW (cc := cc) (maxL := maxL) (ret := none) hy hw ?_
  intro p e s m args below meth c s₁ B hml hv
  obtain ⟨rfl, hP, hK, hD⟩ := hv
  have hl := lv_entry av (n := maxL) hav
  rw [lg_entry_eq]
  exact body p e s m _ below meth c _ (zA ws) ⟨B.exec, B.bytes, hml, findClass_of_methodNamed B.named, atoms_spec (ws := wds) B.pre⟩ B.returns B.notSynchronized hP hK (zA_D hD) va_S.rf hl
theorem zWi_of {S : Type} {post : Int32 → S → Prop} {out : S → va_W} (hy : plainName y.cls = true) (hw : wds = Cond.code y cc maxL (some rt) :: wds') (hav : (lg_sl av).length ≤ maxL)
    (body : ∀ p e s m args below meth c ls (A : Nat → Prop), zFix p m c cc maxL s args wds y.cls → meth.sig.returnType = some rt → meth.locks = false → va_P D vwCl ws s.heap → va_K D vwCl [(cI, .int)] s → va_D A ws → va_S A s.heap s.heap [] → lv_has ls maxL (lv_args 0 av) →
      W p l e (zRm fr lo) s m args below meth c s.heap [] 0 0 (MQ below (va_Qi post (fun u t => va_P D vwCl (out u) t.heap) A) args s 0 0 A) (F0 m 0 ls [])) : zWi l y wds fr lo D cI av ws post out := by
  refine Met.ofW (cc := cc) (maxL := maxL) (ret := some rt) hy hw ?_
  intro p e s m args below meth c s₁ B hml hv
  obtain ⟨rfl, hP, hK, hD⟩ := hv
  have hl := lv_entry av (n := maxL) hav
  rw [lg_entry_eq]
  exact body p e s m _ below meth c _ (zA ws) ⟨B.exec, B.bytes, hml, findClass_of_methodNamed B.named, atoms_spec (ws := wds) B.pre⟩ B.returns B.notSynchronized hP hK (zA_D hD) va_S.rf hl
end ZM
section ZE
variable {p : Program} {l : Launch} {e : Env} {R : Room} {s : State} {m : MethodId} {args : Array Value} {below : List Frame} {meth : Method} {c : Code} {H : Heap} {locs : List Loc} {cells slots : Nat} {cc : ByteArray} {pc : Nat} {ls : Array Slot} {D : va_G} {A : Nat → Prop}
/-- ends -/
theorem zRi_ret {r x : Int32} (hx : p.tables.exec = Jvm.exec) (hb : c.code = cc) (hr : meth.sig.returnType = some .int) (hlocks : meth.locks = false) (hdg : decode cc pc = .ok (.ireturn, 1)) (h : x = r) : W p l e R s m args below meth c s.heap [] cells slots (MQ below (vp_Si (fun x => x = r)) args s cells slots (fun _ => False)) (F0 m pc ls [.int x]) :=
  W.iret hx hb hr (fun t ht _ => ⟨x, rfl, h, ht⟩) (fun q hq => by cases hq) hdg hlocks
theorem zRi_retz {r x : Int32} {ty : FieldType} (hx : p.tables.exec = Jvm.exec) (hb : c.code = cc) (hr : meth.sig.returnType = some ty) (hn : narrow ty (.int x) = .int x) (hlocks : meth.locks = false) (hdg : decode cc pc = .ok (.ireturn, 1)) (h : x = r) : W p l e R s m args below meth c s.heap [] cells slots (MQ below (vp_Si (fun x => x = r)) args s cells slots (fun _ => False)) (F0 m pc ls [.int x]) :=
  W.zret hx hb hr hn (fun t ht _ => ⟨x, rfl, h, ht⟩) (fun q hq => by cases hq) hdg hlocks
theorem zWv_ret {S : Type} {post : S → Prop} {out : S → va_W} (hx : p.tables.exec = Jvm.exec) (hb : c.code = cc) (hr : meth.sig.returnType = none) (hlocks : meth.locks = false) (hS : va_S A s.heap H locs) (hdg : decode cc pc = .ok (.return_, 1)) (u : S) (h : post u) (hP : va_P D vwCl (out u) H) : W p l e R s m args below meth c H locs cells slots (MQ below (va_Qv post (fun u t => va_P D vwCl (out u) t.heap) A) args s cells slots A) (F0 m pc ls []) :=
  W.vret hx hb hr (fun t ht _ => ⟨⟨u, rfl, h, by show va_P D vwCl (out u) t.heap; rw [ht]; exact hP⟩, hS.F ht⟩) hS.2.2 hdg hlocks
theorem zWi_ret {S : Type} {post : Int32 → S → Prop} {out : S → va_W} {x : Int32} (hx : p.tables.exec = Jvm.exec) (hb : c.code = cc) (hr : meth.sig.returnType = some .int) (hlocks : meth.locks = false) (hS : va_S A s.heap H locs) (hdg : decode cc pc = .ok (.ireturn, 1)) (u : S) (h : post x u) (hP : va_P D vwCl (out u) H) : W p l e R s m args below meth c H locs cells slots (MQ below (va_Qi post (fun u t => va_P D vwCl (out u) t.heap) A) args s cells slots A) (F0 m pc ls [.int x]) :=
  W.iret hx hb hr (fun t ht _ => ⟨⟨x, u, rfl, h, by show va_P D vwCl (out u) t.heap; rw [ht]; exact hP⟩, hS.F ht⟩) hS.2.2 hdg hlocks
theorem zWi_retz {S : Type} {post : Int32 → S → Prop} {out : S → va_W} {x : Int32} {ty : FieldType} (hx : p.tables.exec = Jvm.exec) (hb : c.code = cc) (hr : meth.sig.returnType = some ty) (hn : narrow ty (.int x) = .int x) (hlocks : meth.locks = false) (hS : va_S A s.heap H locs) (hdg : decode cc pc = .ok (.ireturn, 1)) (u : S) (h : post x u) (hP : va_P D vwCl (out u) H) : W p l e R s m args below meth c H locs cells slots (MQ below (va_Qi post (fun u t => va_P D vwCl (out u) t.heap) A) args s cells slots A) (F0 m pc ls [.int x]) :=
  W.zret hx hb hr hn (fun t ht _ => ⟨⟨x, u, rfl, h, by show va_P D vwCl (out u) t.heap; rw [ht]; exact hP⟩, hS.F ht⟩) hS.2.2 hdg hlocks
end ZE
/-! calls -/
section ZC
variable {p : Program} {l : Launch} {e : Env} {R : Room} {s : State} {m : MethodId} {args : Array Value} {below : List Frame} {meth : Method} {c : Code} {H : Heap} {locs : List Loc} {cells slots : Nat} {Q : State → Prop}
variable {cc bytes : ByteArray} {pc nL n maxL index fr lo : Nat} {ls : Array Slot} {rest st0 : List Value} {D : va_G} {cI : ClassId} {tys : List (ClassId × FieldType)} {ws wc : va_W} {A : Nat → Prop} {H0 : Heap} {wds Ts : List Cond} {own C : String} {y : MethodName} {ret : Option FieldType} {b ci q0 : Nat} {As : List Value} {fs : List Value} {cq : vw_C}
theorem z_si {post : Int32 → Prop} {a : Array Value} (hr : va_Run p l e R s m args below meth c H locs cells slots 0 0 (F0 m pc ls st0) rest (vp_Si post a) (fun _ => False))
    (kk : ∀ r : Int32, post r → W p l e R s m args below meth c H locs cells slots Q (F0 m (pc + 3) ls (.int r :: rest))) : W p l e R s m args below meth c H locs cells slots Q (F0 m pc ls st0) := by
  intro T hT X
  obtain ⟨v, st₀, t, T', L, h0, X', hL, e1, -, ⟨r, hv, hp, hh⟩, st⟩ := hr T hT X
  cases hv
  obtain ⟨t2, a1, b1⟩ := kk r hp T' (by rw [e1, hh, h0]) (Stand.forget X' (fun q h => (hL q h).elim))
  exact ⟨t2, st t2 a1, b1⟩
theorem z_tys {U : State} (hK : va_K D vwCl tys U) (t0 : Nat) (ht : tys[t0]? = some (cI, .int)) : va_K D vwCl [(cI, .int)] U := hK.sub [t0] (by simp [ht])
/-- invokevirtual of a method that reads -/
theorem zc_ri {r : Int32} (hF : zFix p m c cc nL s args Ts own) (hM : zRi l y wds fr lo D cI (.ref b :: As) wc r) (cw : CallW R s args own C index y bytes maxL ret wds (zRm fr lo) 0 0 n)
    (hK : va_K D vwCl tys s) (hP : va_P D vwCl ws H) (is : List Nat) (hs : is.filterMap (fun i => ws[i]?) = wc) (t0 : Nat) (ht0 : tys[t0]? = some (cI, .int)) (q0 : Nat) (he : wc[q0]? = some (b, .inr (ci, fs))) (hc : vwCl[ci]? = some cq) (hCq : cq.1 = C)
    (hn : As.length = n) (hl : ls.size = nL) (hst : st0 = As.reverse ++ .ref b :: rest) (hW : (rest.map fun v => v.category).sum ≤ 8) (hdg : decode cc pc = .ok (.invokevirtual index, 3)) (hf : cells ≤ R.cells ∧ slots ≤ R.slots)
    (kk : W p l e R s m args below meth c H locs cells slots Q (F0 m (pc + 3) ls (.int r :: rest))) : W p l e R s m args below meth c H locs cells slots Q (F0 m pc ls st0) := by
  subst hCq
  have hPc : va_P D vwCl wc H := hP.sub is hs
  have hKc := z_tys hK t0 ht0
  refine z_si (va_runV (As := As) (rest := rest) hF hM cw ⟨zP_blind, va_recv hK hPc hc he, fun U hU hW => ⟨rfl, by rw [hU]; exact hPc, va_K.moved hW.alike hKc⟩⟩ rfl hn hl hst (lv_room hW) hdg ⟨hf.1, hf.2⟩) (fun r' h => ?_)
  subst h
  exact kk
theorem zc_riS {r : Int32} (hF : zFix p m c cc nL s args Ts own) (hM : zRi l y wds fr lo D cI As wc r) (cw : CallB R s args own index y bytes maxL ret wds (zRm fr lo) 0 0 n ∧ (Cond.static y).before args s = true)
    (hK : va_K D vwCl tys s) (hP : va_P D vwCl ws H) (is : List Nat) (hs : is.filterMap (fun i => ws[i]?) = wc) (t0 : Nat) (ht0 : tys[t0]? = some (cI, .int))
    (hn : As.length = n) (hl : ls.size = nL) (hst : st0 = As.reverse ++ rest) (hW : (rest.map fun v => v.category).sum ≤ 8) (hdg : decode cc pc = .ok (.invokestatic index, 3)) (hf : cells ≤ R.cells ∧ slots ≤ R.slots)
    (kk : W p l e R s m args below meth c H locs cells slots Q (F0 m (pc + 3) ls (.int r :: rest))) : W p l e R s m args below meth c H locs cells slots Q (F0 m pc ls st0) := by
  have hPc : va_P D vwCl wc H := hP.sub is hs
  have hKc := z_tys hK t0 ht0
  refine z_si (va_runS (As := As) (rest := rest) hF hM cw ⟨zP_blind, fun U hU hW => ⟨rfl, by rw [hU]; exact hPc, va_K.moved hW.alike hKc⟩⟩ rfl hn hl hst (lv_room hW) hdg ⟨hf.1, hf.2⟩) (fun r' h => ?_)
  subst h
  exact kk
/-- invokevirtual of a method that writes in place -/
theorem zc_wv {S : Type} {post : S → Prop} {out : S → va_W} (hF : zFix p m c cc nL s args Ts own) (hM : zWv l y wds fr lo D cI (.ref b :: As) wc post out) (cw : CallW R s args own C index y bytes maxL ret wds (zRm fr lo) 0 0 n)
    (hK : va_K D vwCl tys s) (hP : va_P D vwCl ws H) (hD : va_D A ws) (hS : va_S A H0 H locs) (is : List Nat) (hn0 : va_nd is = true) (hs : is.map (fun i => ws[i]?) = wc.map some) (hadr : ∀ u, (out u).map Prod.fst = wc.map Prod.fst) (t0 : Nat) (ht0 : tys[t0]? = some (cI, .int)) (q0 : Nat) (he : wc[q0]? = some (b, .inr (ci, fs))) (hc : vwCl[ci]? = some cq) (hCq : cq.1 = C)
    (hn : As.length = n) (hl : ls.size = nL) (hst : st0 = As.reverse ++ .ref b :: rest) (hW : (rest.map fun v => v.category).sum ≤ 8) (hdg : decode cc pc = .ok (.invokevirtual index, 3)) (hf : cells ≤ R.cells ∧ slots ≤ R.slots)
    (kk : ∀ (u : S) (H1 : Heap) (locs1 : List Loc), post u → va_P D vwCl (zUp ws is (out u)) H1 → va_D A (zUp ws is (out u)) → va_S A H0 H1 locs1 → W p l e R s m args below meth c H1 locs1 cells slots Q (F0 m (pc + 3) ls rest)) : W p l e R s m args below meth c H locs cells slots Q (F0 m pc ls st0) := by
  subst hCq
  have hDc : va_D A wc := hD.sub is hn0 hs
  have hPc : va_P D vwCl wc H := fun k q h => by
    obtain ⟨i, -, h2⟩ := z_at hs h
    exact hP i q h2
  have hKc := z_tys hK t0 ht0
  have hfr := zA_free hD is hs
  refine va_callv (va_runV (As := As) (rest := rest) hF hM cw ⟨zPW_blind, va_recv hK hPc hc he, fun U hU hW => ⟨rfl, by rw [hU]; exact hPc, va_K.moved hW.alike hKc, hDc.weaken (fun _ _ _ _ => trivial)⟩⟩ rfl hn hl hst (lv_room hW) hdg ⟨hf.1, hf.2⟩) hS (fun q _ h => hfr q h) hfr (fun u t H1 locs1 ht hvm hw hB hz1 hk1 hS1 => ?_)
  rw [ht] at hB
  obtain ⟨g1, g2⟩ := z_join hP hD is hs (hadr u) hk1 hB
  exact kk u H1 locs1 hw g1 g2 hS1
theorem zc_wi {S : Type} {post : Int32 → S → Prop} {out : S → va_W} (hF : zFix p m c cc nL s args Ts own) (hM : zWi l y wds fr lo D cI (.ref b :: As) wc post out) (cw : CallW R s args own C index y bytes maxL ret wds (zRm fr lo) 0 0 n)
    (hK : va_K D vwCl tys s) (hP : va_P D vwCl ws H) (hD : va_D A ws) (hS : va_S A H0 H locs) (is : List Nat) (hn0 : va_nd is = true) (hs : is.map (fun i => ws[i]?) = wc.map some) (hadr : ∀ u, (out u).map Prod.fst = wc.map Prod.fst) (t0 : Nat) (ht0 : tys[t0]? = some (cI, .int)) (q0 : Nat) (he : wc[q0]? = some (b, .inr (ci, fs))) (hc : vwCl[ci]? = some cq) (hCq : cq.1 = C)
    (hn : As.length = n) (hl : ls.size = nL) (hst : st0 = As.reverse ++ .ref b :: rest) (hW : (rest.map fun v => v.category).sum ≤ 8) (hdg : decode cc pc = .ok (.invokevirtual index, 3)) (hf : cells ≤ R.cells ∧ slots ≤ R.slots)
    (kk : ∀ (r : Int32) (u : S) (H1 : Heap) (locs1 : List Loc), post r u → va_P D vwCl (zUp ws is (out u)) H1 → va_D A (zUp ws is (out u)) → va_S A H0 H1 locs1 → W p l e R s m args below meth c H1 locs1 cells slots Q (F0 m (pc + 3) ls (.int r :: rest))) : W p l e R s m args below meth c H locs cells slots Q (F0 m pc ls st0) := by
  subst hCq
  have hDc : va_D A wc := hD.sub is hn0 hs
  have hPc : va_P D vwCl wc H := fun k q h => by
    obtain ⟨i, -, h2⟩ := z_at hs h
    exact hP i q h2
  have hKc := z_tys hK t0 ht0
  have hfr := zA_free hD is hs
  refine va_calli (va_runV (As := As) (rest := rest) hF hM cw ⟨zPW_blind, va_recv hK hPc hc he, fun U hU hW => ⟨rfl, by rw [hU]; exact hPc, va_K.moved hW.alike hKc, hDc.weaken (fun _ _ _ _ => trivial)⟩⟩ rfl hn hl hst (lv_room hW) hdg ⟨hf.1, hf.2⟩) hS (fun q _ h => hfr q h) hfr (fun r u t H1 locs1 ht hvm hw hB hz1 hk1 hS1 => ?_)
  rw [ht] at hB
  obtain ⟨g1, g2⟩ := z_join hP hD is hs (hadr u) hk1 hB
  exact kk r u H1 locs1 hw g1 g2 hS1
end ZC
end
section
/-! PURE: givings, tried lodger by lodger; the best, how many, the first -/
abbrev zS : Type := Option (Int × Int × List Nat)
def zComb : zS → zS → zS
  | none, y => y
  | some x, none => some x
  | some x, some y => if x.1 < y.1 then some y else if x.1 = y.1 then some (x.1, x.2.1 + y.2.1, x.2.2) else some x
def zShift (v : Int) (r : Nat) : zS → zS
  | none => none
  | some x => some (v + x.1, x.2.1, r :: x.2.2)
def zFold (f : Nat → zS) : Nat → zS
  | 0 => none
  | m + 1 => zComb (zFold f m) (f m)
def zAdd (T : Nat → Bool) (r : Nat) : Nat → Bool := fun x => T x || x == r
def zG (n : Nat) (al : Nat → Nat → Bool) (v : Nat → Nat → Int) : Nat → Nat → (Nat → Bool) → zS
  | 0, _, _ => some (0, 1, [])
  | d + 1, k, T => zFold (fun r => if T r || !al k r then none else zShift (v k r) r (zG n al v d (k + 1) (zAdd T r))) n
def zBest : zS → Int
  | none => -1
  | some x => x.1
def zWays : zS → Int
  | none => 0
  | some x => x.2.1
def zRooms : zS → List Nat
  | none => []
  | some x => x.2.2
/-- what the trying does to the best so far -/
def zStep (n : Nat) (pre : List Nat) (sum : Int) (X : zS) (w y : Int) (ro : Nat → Int) (w2 y2 : Int) (ro2 : Nat → Int) : Prop :=
  match X with
  | none => w2 = w ∧ y2 = y ∧ ro2 = ro
  | some x => (w < sum + x.1 ∧ w2 = sum + x.1 ∧ y2 = x.2.1 ∧ ∀ j, j < n → ro2 j = (((pre ++ x.2.2).getD j 0 : Nat) : Int)) ∨ (w = sum + x.1 ∧ w2 = w ∧ y2 = y + x.2.1 ∧ ro2 = ro) ∨ (sum + x.1 < w ∧ w2 = w ∧ y2 = y ∧ ro2 = ro)
theorem zStep_comb {n : Nat} {pre : List Nat} {sum : Int} {X Y : zS} {w y : Int} {ro : Nat → Int} {w1 y1 : Int} {ro1 : Nat → Int} {w2 y2 : Int} {ro2 : Nat → Int} (h1 : zStep n pre sum X w y ro w1 y1 ro1) (h2 : zStep n pre sum Y w1 y1 ro1 w2 y2 ro2) : zStep n pre sum (zComb X Y) w y ro w2 y2 ro2 := by
  cases X with
  | none => obtain ⟨rfl, rfl, rfl⟩ := h1; exact h2
  | some a =>
    cases Y with
    | none => obtain ⟨rfl, rfl, rfl⟩ := h2; exact h1
    | some b =>
      obtain ⟨a1, a2, a3⟩ := a
      obtain ⟨b1, b2, b3⟩ := b
      simp only [zStep] at h1 h2
      simp only [zComb]
      by_cases c1 : a1 < b1
      · rw [if_pos c1]
        simp only [zStep]
        rcases h1 with ⟨p1, p2, p3, p4⟩ | ⟨p1, p2, p3, p4⟩ | ⟨p1, p2, p3, p4⟩ <;> rcases h2 with ⟨q1, q2, q3, q4⟩ | ⟨q1, q2, q3, q4⟩ | ⟨q1, q2, q3, q4⟩
        · exact Or.inl ⟨by omega, q2, q3, q4⟩
        · omega
        · omega
        · exact Or.inl ⟨by omega, q2, q3, q4⟩
        · omega
        · omega
        · exact Or.inl ⟨by omega, q2, q3, q4⟩
        · exact Or.inr (Or.inl ⟨by omega, by omega, by omega, by rw [q4, p4]⟩)
        · exact Or.inr (Or.inr ⟨by omega, by omega, by omega, by rw [q4, p4]⟩)
      · rw [if_neg c1]
        by_cases c2 : a1 = b1
        · rw [if_pos c2]
          simp only [zStep]
          rcases h1 with ⟨p1, p2, p3, p4⟩ | ⟨p1, p2, p3, p4⟩ | ⟨p1, p2, p3, p4⟩ <;> rcases h2 with ⟨q1, q2, q3, q4⟩ | ⟨q1, q2, q3, q4⟩ | ⟨q1, q2, q3, q4⟩
          · omega
          · exact Or.inl ⟨by omega, by omega, by omega, by rw [q4]; exact p4⟩
          · omega
          · omega
          · exact Or.inr (Or.inl ⟨by omega, by omega, by omega, by rw [q4, p4]⟩)
          · omega
          · omega
          · omega
          · exact Or.inr (Or.inr ⟨by omega, by omega, by omega, by rw [q4, p4]⟩)
        · rw [if_neg c2]
          simp only [zStep]
          rcases h1 with ⟨p1, p2, p3, p4⟩ | ⟨p1, p2, p3, p4⟩ | ⟨p1, p2, p3, p4⟩ <;> rcases h2 with ⟨q1, q2, q3, q4⟩ | ⟨q1, q2, q3, q4⟩ | ⟨q1, q2, q3, q4⟩
          · omega
          · omega
          · exact Or.inl ⟨by omega, by omega, by omega, by rw [q4]; exact p4⟩
          · omega
          · omega
          · exact Or.inr (Or.inl ⟨by omega, by omega, by omega, by rw [q4, p4]⟩)
          · omega
          · omega
          · exact Or.inr (Or.inr ⟨by omega, by omega, by omega, by rw [q4, p4]⟩)
theorem zStep_deep {n : Nat} {pre : List Nat} {sum v : Int} {r : Nat} {X : zS} {w y : Int} {ro : Nat → Int} {w2 y2 : Int} {ro2 : Nat → Int} (h : zStep n (pre ++ [r]) (sum + v) X w y ro w2 y2 ro2) : zStep n pre sum (zShift v r X) w y ro w2 y2 ro2 := by
  cases X with
  | none => exact h
  | some x =>
    simp only [zStep, zShift] at h ⊢
    rw [List.append_assoc] at h
    rcases h with ⟨p1, p2, p3, p4⟩ | ⟨p1, p2, p3, p4⟩ | ⟨p1, p2, p3, p4⟩
    · exact Or.inl ⟨by omega, by omega, p3, p4⟩
    · exact Or.inr (Or.inl ⟨by omega, p2, p3, p4⟩)
    · exact Or.inr (Or.inr ⟨by omega, p2, p3, p4⟩)
theorem zStep_none {n : Nat} {pre : List Nat} {sum w y : Int} {ro : Nat → Int} : zStep n pre sum none w y ro w y ro := ⟨rfl, rfl, rfl⟩
/-! what the fold is -/
theorem zFold_none {F : Nat → zS} : ∀ m, (∀ r, r < m → F r = none) → zFold F m = none
  | 0, _ => rfl
  | m + 1, h => by
    show zComb (zFold F m) (F m) = none
    rw [zFold_none m (fun r hr => h r (by omega)), h m (by omega)]
    rfl
theorem zFold_isNone {F : Nat → zS} : ∀ m, zFold F m = none → ∀ r, r < m → F r = none
  | 0, _, r, hr => by omega
  | m + 1, h, r, hr => by
    have h1 : zComb (zFold F m) (F m) = none := h
    cases hf : zFold F m with
    | none =>
      rw [hf] at h1
      have h2 : F m = none := h1
      by_cases hm : r = m
      · rw [hm]; exact h2
      · exact zFold_isNone m hf r (by omega)
    | some x =>
      rw [hf] at h1
      cases hm : F m with
      | none => rw [hm] at h1; cases h1
      | some y =>
        rw [hm] at h1
        simp only [zComb] at h1
        split at h1
        · cases h1
        · split at h1 <;> cases h1
/-- the first of the best -/
def zFirst (F : Nat → zS) (m : Nat) (x : Int × Int × List Nat) : Prop := ∃ r, r < m ∧ (∃ y, F r = some y ∧ y.1 = x.1 ∧ y.2.2 = x.2.2) ∧ (∀ q, q < r → ∀ y, F q = some y → y.1 < x.1) ∧ (∀ q, q < m → ∀ y, F q = some y → y.1 ≤ x.1)
theorem zFold_first {F : Nat → zS} : ∀ m x, zFold F m = some x → zFirst F m x
  | 0, x, h => by cases h
  | m + 1, x, h => by
    have h1 : zComb (zFold F m) (F m) = some x := h
    cases hf : zFold F m with
    | none =>
      rw [hf] at h1
      have h2 : F m = some x := h1
      have h3 := zFold_isNone m hf
      refine ⟨m, by omega, ⟨x, h2, rfl, rfl⟩, fun q hq y hy => ?_, fun q hq y hy => ?_⟩
      · rw [h3 q hq] at hy; cases hy
      · by_cases hm : q = m
        · rw [hm, h2] at hy; cases hy; exact Int.le_refl _
        · rw [h3 q (by omega)] at hy; cases hy
    | some a =>
      obtain ⟨r, hr, ⟨y, hy, e1, e2⟩, hlt, hle⟩ := zFold_first m a hf
      rw [hf] at h1
      cases hm : F m with
      | none =>
        rw [hm] at h1
        cases h1
        refine ⟨r, by omega, ⟨y, hy, e1, e2⟩, hlt, fun q hq z hz => ?_⟩
        by_cases hqm : q = m
        · rw [hqm, hm] at hz; cases hz
        · exact hle q (by omega) z hz
      | some b =>
        rw [hm] at h1
        simp only [zComb] at h1
        by_cases c1 : a.1 < b.1
        · rw [if_pos c1] at h1
          cases h1
          refine ⟨m, by omega, ⟨x, hm, rfl, rfl⟩, fun q hq z hz => ?_, fun q hq z hz => ?_⟩
          · have := hle q hq z hz; omega
          · by_cases hqm : q = m
            · rw [hqm, hm] at hz; cases hz; exact Int.le_refl _
            · have := hle q (by omega) z hz; omega
        · rw [if_neg c1] at h1
          have hx : x.1 = a.1 ∧ x.2.2 = a.2.2 := by
            by_cases c2 : a.1 = b.1
            · rw [if_pos c2] at h1; cases h1; exact ⟨rfl, rfl⟩
            · rw [if_neg c2] at h1; cases h1; exact ⟨rfl, rfl⟩
          refine ⟨r, by omega, ⟨y, hy, by rw [e1, hx.1], by rw [e2, hx.2]⟩, fun q hq z hz => ?_, fun q hq z hz => ?_⟩
          · have := hlt q hq z hz; have := hx.1; omega
          · by_cases hqm : q = m
            · rw [hqm, hm] at hz; cases hz; have := hx.1; omega
            · have := hle q (by omega) z hz; have := hx.1; omega
/-! givings as lists: which are ones, what they are worth -/
def zVal (v : Nat → Nat → Int) : Nat → List Nat → Int
  | _, [] => 0
  | k, r :: f => v k r + zVal v (k + 1) f
def zOk (n : Nat) (al : Nat → Nat → Bool) : Nat → Nat → (Nat → Bool) → List Nat → Prop
  | 0, _, _, [] => True
  | d + 1, k, T, r :: f => r < n ∧ T r = false ∧ al k r = true ∧ zOk n al d (k + 1) (zAdd T r) f
  | 0, _, _, _ :: _ => False
  | _ + 1, _, _, [] => False
theorem zG_spec (n : Nat) (al : Nat → Nat → Bool) (v : Nat → Nat → Int) : ∀ d k T, (∀ x, zG n al v d k T = some x → zOk n al d k T x.2.2 ∧ zVal v k x.2.2 = x.1 ∧ ∀ f, zOk n al d k T f → zVal v k f ≤ x.1) ∧ (zG n al v d k T = none → ∀ f, ¬ zOk n al d k T f)
  | 0, k, T => by
    refine ⟨fun x h => ?_, fun h => by cases h⟩
    cases h
    refine ⟨trivial, rfl, fun f hf => ?_⟩
    cases f with
    | nil => exact Int.le_refl _
    | cons r f => exact hf.elim
  | d + 1, k, T => by
    have ih := fun r => zG_spec n al v d (k + 1) (zAdd T r)
    refine ⟨fun x h => ?_, fun h f hf => ?_⟩
    · obtain ⟨r, hr, ⟨y, hy, e1, e2⟩, -, hle⟩ := zFold_first n x h
      dsimp only at hy
      by_cases hc : (T r || !al k r) = true
      · rw [if_pos hc] at hy; cases hy
      · rw [if_neg hc] at hy
        simp only [Bool.or_eq_true, Bool.not_eq_true', not_or, Bool.not_eq_true, Bool.not_eq_false] at hc
        cases hg : zG n al v d (k + 1) (zAdd T r) with
        | none => rw [hg] at hy; cases hy
        | some a =>
          rw [hg] at hy
          cases hy
          obtain ⟨g1, g2, g3⟩ := (ih r).1 a hg
          refine ⟨?_, ?_, fun f hf => ?_⟩
          · rw [← e2]; exact ⟨hr, hc.1, hc.2, g1⟩
          · rw [← e2, ← e1]
            show v k r + zVal v (k + 1) a.2.2 = v k r + a.1
            rw [g2]
          · cases f with
            | nil => exact hf.elim
            | cons q f =>
              obtain ⟨f1, f2, f3, f4⟩ := hf
              cases hq : zG n al v d (k + 1) (zAdd T q) with
              | none => exact absurd f4 ((ih q).2 hq f)
              | some b =>
                have hb := ((ih q).1 b hq).2.2 f f4
                have hF := hle q f1 (v k q + b.1, b.2.1, q :: b.2.2) (by
                  dsimp only
                  rw [if_neg (by rw [f2, f3]; decide), hq]
                  rfl)
                show v k q + zVal v (k + 1) f ≤ x.1
                simp only at hF
                omega
    · cases f with
      | nil => exact hf.elim
      | cons q f =>
        obtain ⟨f1, f2, f3, f4⟩ := hf
        have h1 := zFold_isNone n h q f1
        rw [if_neg (by rw [f2, f3]; decide)] at h1
        cases hq : zG n al v d (k + 1) (zAdd T q) with
        | none => exact (ih q).2 hq f f4
        | some b => rw [hq] at h1; cases h1
theorem zOk_len {n : Nat} {al : Nat → Nat → Bool} : ∀ {d k : Nat} {T : Nat → Bool} {f : List Nat}, zOk n al d k T f → f.length = d
  | 0, _, _, [], _ => rfl
  | d + 1, _, _, r :: f, h => by rw [List.length_cons, zOk_len h.2.2.2]
  | 0, _, _, _ :: _, h => h.elim
  | _ + 1, _, _, [], h => h.elim
theorem zVal_bound {v : Nat → Nat → Int} {M : Int} : ∀ (k : Nat) (f : List Nat), (∀ i r, i < k + f.length → r ∈ f → 0 ≤ v i r ∧ v i r ≤ M) → 0 ≤ zVal v k f ∧ zVal v k f ≤ M * f.length
  | _, [], _ => by simp [zVal]
  | k, r :: f, h => by
    have h1 := h k r (by rw [List.length_cons]; omega) List.mem_cons_self
    have h2 := zVal_bound (k + 1) f (fun i q hi hq => h i q (by rw [List.length_cons]; omega) (List.mem_cons_of_mem _ hq))
    show 0 ≤ v k r + zVal v (k + 1) f ∧ v k r + zVal v (k + 1) f ≤ M * ((r :: f).length : Nat)
    have h3 : M * (((r :: f).length : Nat) : Int) = M * (f.length : Int) + M := by
      rw [List.length_cons]; push_cast; rw [Int.mul_add, Int.mul_one]
    rw [h3]
    omega
/-! there is one, where there are rooms enough -/
def zCnt (T : Nat → Bool) : Nat → Nat
  | 0 => 0
  | m + 1 => zCnt T m + (if T m then 0 else 1)
theorem zCnt_lo {T : Nat → Bool} {r : Nat} : ∀ m, m ≤ r → zCnt (zAdd T r) m = zCnt T m
  | 0, _ => rfl
  | m + 1, h => by
    have h1 : zAdd T r m = T m := by
      have : (m == r) = false := by simp; omega
      simp [zAdd, this]
    show zCnt (zAdd T r) m + _ = zCnt T m + _
    rw [zCnt_lo m (by omega), h1]
theorem zCnt_hi {T : Nat → Bool} {r : Nat} (hT : T r = false) : ∀ m, r < m → zCnt (zAdd T r) m + 1 = zCnt T m
  | 0, h => by omega
  | m + 1, h => by
    show zCnt (zAdd T r) m + _ + 1 = zCnt T m + _
    by_cases hm : m = r
    · subst hm
      rw [zCnt_lo m (Nat.le_refl _), hT]
      simp [zAdd]
    · have h1 : zAdd T r m = T m := by
        have : (m == r) = false := by simp; omega
        simp [zAdd, this]
      have := zCnt_hi hT m (by omega)
      rw [h1]
      omega
theorem zCnt_pos {T : Nat → Bool} : ∀ m, 0 < zCnt T m → ∃ r, r < m ∧ T r = false
  | 0, h => by simp [zCnt] at h
  | m + 1, h => by
    cases hT : T m with
    | false => exact ⟨m, by omega, hT⟩
    | true =>
      have h1 : zCnt T (m + 1) = zCnt T m := by show zCnt T m + _ = _; rw [hT]; rfl
      obtain ⟨r, hr, h2⟩ := zCnt_pos (T := T) m (by omega)
      exact ⟨r, by omega, h2⟩
def zAll : Nat → Nat → Bool := fun _ _ => true
theorem zG_some {n : Nat} {v : Nat → Nat → Int} : ∀ d k T, d ≤ zCnt T n → ∃ x, zG n zAll v d k T = some x
  | 0, k, T, _ => ⟨_, rfl⟩
  | d + 1, k, T, h => by
    obtain ⟨r, hr, hT⟩ := zCnt_pos (T := T) n (by omega)
    obtain ⟨x, hx⟩ := zG_some (n := n) (v := v) d (k + 1) (zAdd T r) (by have := zCnt_hi hT n hr; omega)
    cases hg : zG n zAll v (d + 1) k T with
    | some y => exact ⟨y, rfl⟩
    | none =>
      have h1 := zFold_isNone n hg r hr
      rw [if_neg (by rw [hT]; simp [zAll]), hx] at h1
      cases h1
/-! the walk of the first of the best, room by room -/
theorem zG_head {n : Nat} {v : Nat → Nat → Int} {d k : Nat} {T : Nat → Bool} {x : Int × Int × List Nat} (h : zG n zAll v (d + 1) k T = some x) : ∃ r y, r < n ∧ T r = false ∧ zG n zAll v d (k + 1) (zAdd T r) = some y ∧ v k r + y.1 = x.1 ∧ x.2.2 = r :: y.2.2 ∧ ∀ q, q < r → T q = false → ∀ z, zG n zAll v d (k + 1) (zAdd T q) = some z → v k q + z.1 ≠ x.1 := by
  obtain ⟨r, hr, ⟨y, hy, e1, e2⟩, hlt, -⟩ := zFold_first n x h
  dsimp only at hy
  by_cases hc : (T r || !zAll k r) = true
  · rw [if_pos hc] at hy; cases hy
  · rw [if_neg hc] at hy
    simp only [zAll, Bool.not_true, Bool.or_false, Bool.not_eq_true] at hc
    cases hg : zG n zAll v d (k + 1) (zAdd T r) with
    | none => rw [hg] at hy; cases hy
    | some a =>
      rw [hg] at hy
      cases hy
      refine ⟨r, a, hr, hc, hg, e1, e2.symm, fun q hq hTq z hz => ?_⟩
      have := hlt q hq (v k q + z.1, z.2.1, q :: z.2.2) (by
        dsimp only
        rw [if_neg (by rw [hTq]; simp [zAll]), hz]
        rfl)
      simp only at this
      omega
end
section
/-! PURE: sums, swaps, the best giving, no circle brings more -/
def zSum (f : Nat → Int) : Nat → Int
  | 0 => 0
  | n + 1 => zSum f n + f n
theorem zSum_congr {f g : Nat → Int} : ∀ n, (∀ i, i < n → f i = g i) → zSum f n = zSum g n
  | 0, _ => rfl
  | n + 1, h => by
    show zSum f n + f n = zSum g n + g n
    rw [zSum_congr n (fun i hi => h i (by omega)), h n (by omega)]
theorem zSum_upd {f : Nat → Int} {a : Nat} {x : Int} : ∀ n, a < n → zSum (fun i => if i = a then x else f i) n = zSum f n - f a + x
  | 0, h => by omega
  | n + 1, h => by
    show zSum _ n + (if n = a then x else f n) = zSum f n + f n - f a + x
    by_cases hn : n = a
    · subst hn
      rw [if_pos rfl, zSum_congr (g := f) n (fun i hi => if_neg (by omega))]
      omega
    · rw [if_neg hn, zSum_upd n (by omega)]
      omega
theorem zSum_add (f g : Nat → Int) : ∀ n, zSum (fun i => f i + g i) n = zSum f n + zSum g n
  | 0 => rfl
  | n + 1 => by
    show zSum _ n + (f n + g n) = zSum f n + f n + (zSum g n + g n)
    rw [zSum_add f g n]
    omega
theorem zSum_le {f g : Nat → Int} : ∀ n, (∀ i, i < n → f i ≤ g i) → zSum f n ≤ zSum g n
  | 0, _ => Int.le_refl _
  | n + 1, h => by
    show zSum f n + f n ≤ zSum g n + g n
    have h1 := zSum_le n (fun i hi => h i (by omega))
    have h2 := h n (by omega)
    omega
theorem zSum_const (z : Int) : ∀ n : Nat, zSum (fun _ => z) n = z * n
  | 0 => by simp [zSum]
  | n + 1 => by
    show zSum _ n + z = _
    rw [zSum_const z n]
    push_cast
    rw [Int.mul_add, Int.mul_one]
def zPm (n : Nat) (g : Nat → Nat) : Prop := (∀ i, i < n → g i < n) ∧ ∀ i j, i < n → j < n → g i = g j → i = j
def zOpt (n : Nat) (v : Nat → Nat → Int) (g : Nat → Nat) : Prop := zPm n g ∧ ∀ h, zPm n h → zSum (fun i => v i (h i)) n ≤ zSum (fun i => v i (g i)) n
def zSw (a b : Nat) : Nat → Nat := fun x => if x = a then b else if x = b then a else x
theorem zSw_inv (a b x : Nat) : zSw a b (zSw a b x) = x := by
  unfold zSw
  by_cases h1 : x = a
  · by_cases h2 : b = a
    · simp [h1, h2]
    · simp [h1, h2]
  · by_cases h2 : x = b
    · simp [h1, h2]
    · simp [h1, h2]
theorem zSw_lt {a b x n : Nat} (ha : a < n) (hb : b < n) (hx : x < n) : zSw a b x < n := by
  unfold zSw
  split
  · exact hb
  · split
    · exact ha
    · exact hx
theorem zPm_sw {n a b : Nat} {g : Nat → Nat} (h : zPm n g) (ha : a < n) (hb : b < n) : zPm n (fun x => g (zSw a b x)) := by
  refine ⟨fun i hi => h.1 _ (zSw_lt ha hb hi), fun i j hi hj e => ?_⟩
  have e1 := h.2 _ _ (zSw_lt ha hb hi) (zSw_lt ha hb hj) e
  rw [← zSw_inv a b i, ← zSw_inv a b j, e1]
theorem zSum_sw {n a b : Nat} {g : Nat → Nat} {v : Nat → Nat → Int} (ha : a < n) (hb : b < n) (hab : a ≠ b) : zSum (fun i => v i (g (zSw a b i))) n = zSum (fun i => v i (g i)) n - v a (g a) - v b (g b) + v a (g b) + v b (g a) := by
  have e : zSum (fun i => v i (g (zSw a b i))) n = zSum (fun i => if i = a then v a (g b) else (fun i => if i = b then v b (g a) else v i (g i)) i) n := by
    refine zSum_congr n (fun i _ => ?_)
    show v i (g (zSw a b i)) = if i = a then v a (g b) else if i = b then v b (g a) else v i (g i)
    unfold zSw
    by_cases h1 : i = a
    · rw [if_pos h1, if_pos h1, h1]
    · rw [if_neg h1, if_neg h1]
      by_cases h2 : i = b
      · rw [if_pos h2, if_pos h2, h2]
      · rw [if_neg h2, if_neg h2]
  rw [e, zSum_upd n ha, zSum_upd n hb]
  rw [if_neg hab]
  omega
/-! simple ways, by their lodgers -/
def zPath (n : Nat) (p : List Nat) : Prop := p.Nodup ∧ ∀ x, x ∈ p → x < n
def zPw (w : Nat → Nat → Int) : List Nat → Int
  | [] => 0
  | [_] => 0
  | a :: b :: t => w a b + zPw w (b :: t)
theorem zPath_cons {n a : Nat} {p : List Nat} : zPath n (a :: p) ↔ a < n ∧ a ∉ p ∧ zPath n p := by
  unfold zPath
  rw [List.nodup_cons]
  constructor
  · rintro ⟨⟨h1, h2⟩, h3⟩
    exact ⟨h3 a List.mem_cons_self, h1, h2, fun x hx => h3 x (List.mem_cons_of_mem _ hx)⟩
  · rintro ⟨h1, h2, h3, h4⟩
    refine ⟨⟨h2, h3⟩, fun x hx => ?_⟩
    rcases List.mem_cons.mp hx with h | h
    · rw [h]; exact h1
    · exact h4 x h
theorem zPath_len : ∀ (n : Nat) (p : List Nat), zPath n p → p.length ≤ n
  | 0, p, h => by
    cases p with
    | nil => exact Nat.le_refl _
    | cons a p => exact absurd (h.2 a List.mem_cons_self) (by omega)
  | n + 1, p, h => by
    by_cases hn : n ∈ p
    · obtain ⟨s, t, rfl⟩ := List.append_of_mem hn
      obtain ⟨hs, ht, hd⟩ := List.nodup_append.mp h.1
      obtain ⟨ht1, ht2⟩ := List.nodup_cons.mp ht
      have h1 : zPath n (s ++ t) := by
        refine ⟨List.nodup_append.mpr ⟨hs, ht2, fun a ha b hb => hd a ha b (List.mem_cons_of_mem _ hb)⟩, fun x hx => ?_⟩
        have hx1 : x < n + 1 := h.2 x (by
          rcases List.mem_append.mp hx with q | q
          · exact List.mem_append_left _ q
          · exact List.mem_append_right _ (List.mem_cons_of_mem _ q))
        have hx2 : x ≠ n := by
          rintro rfl
          rcases List.mem_append.mp hx with q | q
          · exact hd x q x List.mem_cons_self rfl
          · exact ht1 q
        omega
      have h2 := zPath_len n (s ++ t) h1
      simp only [List.length_append, List.length_cons] at h2 ⊢
      omega
    · have := zPath_len n p ⟨h.1, fun x hx => by
        have h1 := h.2 x hx
        have h2 : x ≠ n := fun e => hn (e ▸ hx)
        omega⟩
      omega
/-- rooms passed on along a way -/
theorem zCyc_aux {n : Nat} {v : Nat → Nat → Int} {g : Nat → Nat} (hg : zPm n g) : ∀ (t : List Nat) (c z : Nat), zPath n (c :: t) → (c :: t).getLast? = some z →
    ∃ h, zPm n h ∧ h z = g c ∧ (∀ x, x ∉ c :: t → h x = g x) ∧ zSum (fun i => v i (h i)) n = zSum (fun i => v i (g i)) n + zPw (fun a b => v a (g b) - v b (g b)) (c :: t) + (v z (g c) - v c (g c))
  | [], c, z, hp, hz => by
    have hc : c = z := by simpa using hz
    subst hc
    refine ⟨g, hg, rfl, fun _ _ => rfl, ?_⟩
    simp only [zPw]
    omega
  | d :: t, c, z, hp, hz => by
    obtain ⟨hc, hcn, hp2⟩ := zPath_cons.mp hp
    have hz2 : (d :: t).getLast? = some z := by simpa using hz
    obtain ⟨h, h1, h2, h3, h4⟩ := zCyc_aux hg t d z hp2 hz2
    have hzm : z ∈ d :: t := List.mem_of_getLast? hz2
    have hzn : z < n := hp2.2 z hzm
    have hcz : c ≠ z := fun e => hcn (e ▸ hzm)
    have hcg : h c = g c := h3 c hcn
    refine ⟨fun x => h (zSw c z x), zPm_sw h1 hc hzn, ?_, fun x hx => ?_, ?_⟩
    · show h (zSw c z z) = g c
      unfold zSw
      rw [if_neg (Ne.symm hcz), if_pos rfl, hcg]
    · show h (zSw c z x) = g x
      have hx1 : x ≠ c := fun e => hx (e ▸ List.mem_cons_self)
      have hx2 : x ∉ d :: t := fun q => hx (List.mem_cons_of_mem _ q)
      have hx3 : x ≠ z := fun e => hx2 (e ▸ hzm)
      unfold zSw
      rw [if_neg hx1, if_neg hx3]
      exact h3 x hx2
    · rw [zSum_sw hc hzn hcz, h4, hcg, h2]
      show _ = _ + (v c (g d) - v d (g d) + zPw _ (d :: t)) + _
      omega
theorem zCyc {n : Nat} {v : Nat → Nat → Int} {g : Nat → Nat} (hg : zOpt n v g) {c z : Nat} {t : List Nat} (hp : zPath n (c :: t)) (hz : (c :: t).getLast? = some z) : zPw (fun a b => v a (g b) - v b (g b)) (c :: t) + (v z (g c) - v c (g c)) ≤ 0 := by
  obtain ⟨h, h1, -, -, h4⟩ := zCyc_aux (v := v) hg.1 t c z hp hz
  have := hg.2 h h1
  omega
/-! the greatest of simple ways from each lodger -/
def zNoC (n : Nat) (w : Nat → Nat → Int) : Prop := ∀ (c z : Nat) (t : List Nat), zPath n (c :: t) → (c :: t).getLast? = some z → zPw w (c :: t) + w z c ≤ 0
theorem zMax {P : Int → Prop} {M : Int} (hM : ∀ x, P x → x ≤ M) : ∀ (k : Nat) (x0 : Int), P x0 → M - x0 ≤ k → ∃ v, P v ∧ ∀ x, P x → x ≤ v
  | 0, x0, h0, hk => ⟨x0, h0, fun x hx => by have := hM x hx; omega⟩
  | k + 1, x0, h0, hk => by
    by_cases h : ∃ x, P x ∧ x0 < x
    · obtain ⟨x, hx, hlt⟩ := h
      exact zMax hM k x hx (by omega)
    · exact ⟨x0, h0, fun x hx => Int.not_lt.mp (fun q => h ⟨x, hx, q⟩)⟩
theorem zPw_bound {w : Nat → Nat → Int} {M : Int} (hM : 0 ≤ M) {n : Nat} (hw : ∀ a b, a < n → b < n → w a b ≤ M) : ∀ p : List Nat, (∀ x, x ∈ p → x < n) → zPw w p ≤ M * p.length
  | [], _ => by simp [zPw]
  | [a], _ => by simp [zPw]; exact hM
  | a :: b :: t, h => by
    have h1 := zPw_bound hM hw (b :: t) (fun x hx => h x (List.mem_cons_of_mem _ hx))
    have h2 := hw a b (h a List.mem_cons_self) (h b (List.mem_cons_of_mem _ List.mem_cons_self))
    show w a b + zPw w (b :: t) ≤ M * (((a :: b :: t).length : Nat) : Int)
    have h3 : M * (((a :: b :: t).length : Nat) : Int) = M * (((b :: t).length : Nat) : Int) + M := by
      simp only [List.length_cons]; push_cast; rw [Int.mul_add, Int.mul_one]
    omega
/-- e is the greatest of simple ways -/
def zIsB (n : Nat) (w : Nat → Nat → Int) (e : Nat → Int) : Prop := ∀ a, a < n → (∃ t, zPath n (a :: t) ∧ zPw w (a :: t) = e a) ∧ ∀ t, zPath n (a :: t) → zPw w (a :: t) ≤ e a
theorem zIsB_ex {n : Nat} {w : Nat → Nat → Int} {M : Int} (hM : 0 ≤ M) (hw : ∀ a b, a < n → b < n → w a b ≤ M) : ∃ e, zIsB n w e := by
  have h : ∀ a, ∃ v : Int, a < n → (∃ t, zPath n (a :: t) ∧ zPw w (a :: t) = v) ∧ ∀ t, zPath n (a :: t) → zPw w (a :: t) ≤ v := by
    intro a
    by_cases ha : a < n
    · have hb : ∀ x, (∃ t, zPath n (a :: t) ∧ zPw w (a :: t) = x) → x ≤ M * n := by
        rintro x ⟨t, ht, rfl⟩
        have h1 := zPw_bound hM hw (a :: t) ht.2
        have h2 := zPath_len n _ ht
        have h3 : M * (((a :: t).length : Nat) : Int) ≤ M * (n : Int) := Int.mul_le_mul_of_nonneg_left (by omega) hM
        omega
      have h0 : zPath n [a] := zPath_cons.mpr ⟨ha, List.not_mem_nil, List.nodup_nil, fun x hx => absurd hx List.not_mem_nil⟩
      obtain ⟨v, ⟨t, ht, hv⟩, h2⟩ := zMax hb (M * n).toNat 0 ⟨[], h0, rfl⟩ (by have : 0 ≤ M * (n : Int) := Int.mul_nonneg hM (by omega); omega)
      exact ⟨v, fun _ => ⟨⟨t, ht, hv⟩, fun t ht => h2 _ ⟨t, ht, rfl⟩⟩⟩
    · exact ⟨0, fun q => absurd q ha⟩
  exact ⟨fun a => Classical.choose (h a), fun a ha => Classical.choose_spec (h a) ha⟩
theorem zIsB_nn {n : Nat} {w : Nat → Nat → Int} {e : Nat → Int} (h : zIsB n w e) {a : Nat} (ha : a < n) : 0 ≤ e a :=
  (h a ha).2 [] (zPath_cons.mpr ⟨ha, List.not_mem_nil, List.nodup_nil, fun x hx => absurd hx List.not_mem_nil⟩)
theorem zIsB_un {n : Nat} {w : Nat → Nat → Int} {e f : Nat → Int} (h : zIsB n w e) (hf : zIsB n w f) {a : Nat} (ha : a < n) : e a = f a := by
  obtain ⟨t, ht, h1⟩ := (h a ha).1
  obtain ⟨q, hq, h2⟩ := (hf a ha).1
  have h3 := (h a ha).2 q hq
  have h4 := (hf a ha).2 t ht
  omega
theorem zPw_app (w : Nat → Nat → Int) : ∀ (s : List Nat) (a : Nat) (t : List Nat), zPw w (s ++ a :: t) = zPw w (s ++ [a]) + zPw w (a :: t)
  | [], a, t => by simp [zPw]
  | [b], a, t => by show w b a + zPw w (a :: t) = w b a + 0 + zPw w (a :: t); omega
  | b :: c :: s, a, t => by
    show w b c + zPw w ((c :: s) ++ a :: t) = w b c + zPw w ((c :: s) ++ [a]) + zPw w (a :: t)
    rw [zPw_app w (c :: s) a t]
    omega
/-- nothing is greater along an edge: no circle brings more -/
theorem zIsB_fix {n : Nat} {w : Nat → Nat → Int} {e : Nat → Int} (hC : zNoC n w) (h : zIsB n w e) {a b : Nat} (ha : a < n) (hb : b < n) : w a b + e b ≤ e a := by
  obtain ⟨t, ht, h1⟩ := (h b hb).1
  by_cases hm : a ∈ b :: t
  · obtain ⟨s, q, hs⟩ := List.append_of_mem hm
    have hpq : zPath n (s ++ a :: q) := hs ▸ ht
    have hq : zPath n (a :: q) := ⟨(List.nodup_append.mp hpq.1).2.1, fun x hx => hpq.2 x (List.mem_append_right _ hx)⟩
    have hsub : List.Sublist (s ++ [a]) (s ++ a :: q) := List.Sublist.append_left (List.Sublist.cons_cons a (List.nil_sublist q)) s
    have hpa : zPath n (s ++ [a]) := ⟨List.Nodup.sublist hsub hpq.1, fun x hx => hpq.2 x (hsub.mem hx)⟩
    have h2 := zPw_app w s a q
    rw [← hs, h1] at h2
    have h3 := (h a ha).2 q hq
    have h4 : zPw w (s ++ [a]) + w a b ≤ 0 := by
      cases s with
      | nil =>
        have hab : b = a := by
          have h9 := congrArg List.head? hs
          simpa using h9
        subst hab
        exact hC b b [] hpa rfl
      | cons c s =>
        have hcb : b = c := by
          have h9 := congrArg List.head? hs
          simpa using h9
        subst hcb
        exact hC b a (s ++ [a]) hpa (List.getLast?_concat (l := b :: s))
    omega
  · have := (h a ha).2 (b :: t) (zPath_cons.mpr ⟨ha, hm, ht⟩)
    have h2 : zPw w (a :: b :: t) = w a b + zPw w (b :: t) := rfl
    omega
/-- what is not raised any more is as great as every way -/
theorem zPw_le {n : Nat} {w : Nat → Nat → Int} {e : Nat → Int} (h0 : ∀ a, a < n → 0 ≤ e a) (hf : ∀ a b, a < n → b < n → w a b + e b ≤ e a) : ∀ (t : List Nat) (a : Nat), zPath n (a :: t) → zPw w (a :: t) ≤ e a
  | [], a, h => h0 a (h.2 a List.mem_cons_self)
  | b :: t, a, h => by
    have h1 := zPath_cons.mp h
    have h2 := zPw_le h0 hf t b h1.2.2
    have h3 := hf a b h1.1 (h1.2.2.2 b List.mem_cons_self)
    show w a b + zPw w (b :: t) ≤ e a
    omega
theorem zIsB_of {n : Nat} {w : Nat → Nat → Int} {e f : Nat → Int} (hB : zIsB n w e) (h0 : ∀ a, a < n → 0 ≤ f a) (hf : ∀ a b, a < n → b < n → w a b + f b ≤ f a) (hle : ∀ a, a < n → f a ≤ e a) : zIsB n w f := by
  intro a ha
  have he : f a = e a := by
    obtain ⟨t, ht, h1⟩ := (hB a ha).1
    have := zPw_le h0 hf t a ht
    have := hle a ha
    omega
  rw [he]
  exact hB a ha
end
section
section ZS
variable {p : Program} {l : Launch} {e : Env} {R : Room} {s : State} {m : MethodId} {args : Array Value} {below : List Frame} {meth : Method} {c : Code} {H : Heap} {locs : List Loc} {cells slots : Nat} {Q : State → Prop}
variable {cc : ByteArray} {pc : Nat} {ls : Array Slot} {rest : List Value}

variable {D : va_G} {cl : List vw_C} {tys : List (ClassId × FieldType)} {ws : va_W} {a : Nat} {A : Nat → Prop} {H0 : Heap}
/-- an array's values matter in its range alone -/
theorem z_ext {cA : ClassId} {n : Nat} {f g : Nat → Int} (hP : va_P D cl ws H) (q0 : Nat) (ha : ws[q0]? = some (a, zArr cA n f)) (h : ∀ j, j < n → f j = g j) : va_P D cl (ws.set q0 (a, zArr cA n g)) H := by
  have e : vp_cell cA (n, .inl (fun k => iI (f k))) = vp_cell cA (n, .inl (fun k => iI (g k))) := by
    rw [vp_cell_i, vp_cell_i]
    unfold arrV
    congr 1
    congr 1
    funext j
    show Value.int (iI (f j.val)) = Value.int (iI (g j.val))
    rw [h j.val j.isLt]
  intro k q hk
  by_cases hq : q0 = k
  · subst hq
    have hl := (List.getElem?_eq_some_iff.mp ha).1
    rw [List.getElem?_set_self hl] at hk
    cases hk
    have h2 := hP q0 _ ha
    show H[a]? = some (vp_cell cA (n, .inl (fun k => iI (g k))))
    rw [← e]
    exact h2
  · rw [List.getElem?_set_ne hq] at hk
    exact hP k q hk
theorem zr_copy (hx : p.tables.exec = Jvm.exec) (hb : c.code = cc) (hml : c.maxLocals = ls.size) {own : String} {index : Nat} (hown : s.vm.findClass own = some m.cls) (hlink : (Cond.methodLink own index arraycopyName).before args s = true) (hnat : (Cond.native arraycopyName).before args s = true) (hstat : (Cond.static arraycopyName).before args s = true) (hini : (Cond.initialized "java/lang/System").before args s = true)
    (hK : va_K D cl tys s) (hP : va_P D cl ws H) (hD : va_D A ws) (hS : va_S A H0 H locs) (q0 q1 t0 : Nat) {a0 : Nat} {c0 : ClassId} {n0 n1 : Nat} {f g : Nat → Int} (ha0 : ws[q0]? = some (a0, zArr c0 n0 f)) (ha1 : ws[q1]? = some (a, zArr c0 n1 g)) (ht0 : tys[t0]? = some (c0, .int))
    {zn : Int} (len : Nat) (hz : zn = (len : Int)) (h1 : len ≤ n0) (h2 : len ≤ n1) (h3 : n0 ≤ 2147483647) (hframes : 1 ≤ R.frames) (hlocals : (rest.map fun v => v.category).sum + (nativeFrameWords "java/lang/System" "arraycopy" 5 + 11) ≤ R.locals) (hdg : decode cc pc = .ok (.invokestatic index, 3))
    (kk : ∀ (H1 : Heap) (locs1 : List Loc), va_P D cl (ws.set q1 (a, zArr c0 n1 (zCpy f g len))) H1 → va_D A (ws.set q1 (a, zArr c0 n1 (zCpy f g len))) → va_S A H0 H1 locs1 → W p l e R s m args below meth c H1 locs1 cells slots Q (F0 m (pc + 3) ls rest)) : W p l e R s m args below meth c H locs cells slots Q (F0 m pc ls (.int (iI zn) :: .int (iI 0) :: .ref a :: .int (iI 0) :: .ref a0 :: rest)) := by
  subst hz
  have hB : zB (len : Int) := zB_of (by omega) (by omega)
  have e0 : (iI 0).toNatClampNeg = 0 := iI_clamp zB_0
  have e1 : (iI (len : Int)).toNatClampNeg = len := iI_clamp hB
  have n0' : ¬ iI 0 < 0 := by decide
  have n1' : ¬ iI (len : Int) < 0 := fun h => by
    have := (iI_lt hB zB_0).mp h
    omega
  refine va_copyi hx hb hml hown hlink hnat hstat hini hK hP hD hS q0 q1 t0 t0 ha0 ha1 ht0 ht0 rfl n0' n0' n1' (by rw [e0, e1]; omega) (by rw [e0, e1]; omega) (fun _ _ => rfl) hframes hlocals hdg (fun H1 locs1 g1 g2 g3 => ?_)
  rw [e0, e1, zCpy_cpy] at g1 g2
  exact kk H1 locs1 g1 g2 g3
theorem iI_max {x y : Int} (h1 : zB x) (h2 : zB y) : (if iI x < iI y then iI y else iI x) = iI (max x y) := by
  by_cases h : x < y
  · rw [if_pos ((iI_lt h1 h2).mpr h), Int.max_eq_right (by omega)]
  · rw [if_neg (fun q => h ((iI_lt h1 h2).mp q)), Int.max_eq_left (by omega)]
theorem iI_min {x y : Int} (h1 : zB x) (h2 : zB y) : (if iI y < iI x then iI y else iI x) = iI (min x y) := by
  by_cases h : y < x
  · rw [if_pos ((iI_lt h2 h1).mpr h), Int.min_eq_right (by omega)]
  · rw [if_neg (fun q => h ((iI_lt h2 h1).mp q)), Int.min_eq_left (by omega)]
theorem zr_max (hx : p.tables.exec = Jvm.exec) (hb : c.code = cc) (hml : c.maxLocals = ls.size) {own : String} {index : Nat} (hown : s.vm.findClass own = some m.cls) (hlink : (Cond.methodLink own index Lib.Math.max.name).before args s = true) (hstat : (Cond.static Lib.Math.max.name).before args s = true) (hini : (Cond.initialized "java/lang/Math").before args s = true) (hcode : (Cond.code Lib.Math.max.name Lib.Math.max.code 2 (some .int)).before args s = true)
    (hframes : 1 ≤ R.frames) (hlocals : (rest.map fun v => v.category).sum + 13 ≤ R.locals) (hc : cells ≤ R.cells) (hs : slots ≤ R.slots) {x y : Int} (h1 : zB x) (h2 : zB y) (hdg : decode cc pc = .ok (.invokestatic index, 3))
    (kk : W p l e R s m args below meth c H locs cells slots Q (F0 m (pc + 3) ls (.int (iI (max x y)) :: rest))) : W p l e R s m args below meth c H locs cells slots Q (F0 m pc ls (.int (iI y) :: .int (iI x) :: rest)) :=
  va_mmax hx hb hml hown hlink hstat hini hcode hframes hlocals hc hs hdg (by rw [iI_max h1 h2]; exact kk)
theorem zr_min (hx : p.tables.exec = Jvm.exec) (hb : c.code = cc) (hml : c.maxLocals = ls.size) {own : String} {index : Nat} (hown : s.vm.findClass own = some m.cls) (hlink : (Cond.methodLink own index Lib.Math.min.name).before args s = true) (hstat : (Cond.static Lib.Math.min.name).before args s = true) (hini : (Cond.initialized "java/lang/Math").before args s = true) (hcode : (Cond.code Lib.Math.min.name Lib.Math.min.code 2 (some .int)).before args s = true)
    (hframes : 1 ≤ R.frames) (hlocals : (rest.map fun v => v.category).sum + 13 ≤ R.locals) (hc : cells ≤ R.cells) (hs : slots ≤ R.slots) {x y : Int} (h1 : zB x) (h2 : zB y) (hdg : decode cc pc = .ok (.invokestatic index, 3))
    (kk : W p l e R s m args below meth c H locs cells slots Q (F0 m (pc + 3) ls (.int (iI (min x y)) :: rest))) : W p l e R s m args below meth c H locs cells slots Q (F0 m pc ls (.int (iI y) :: .int (iI x) :: rest)) :=
  va_mmin hx hb hml hown hlink hstat hini hcode hframes hlocals hc hs hdg (by rw [iI_min h1 h2]; exact kk)
end ZS
/-! bits of a set of rooms -/
def zPop (t : Nat) : Nat := (List.range 6).countP (fun i => t.testBit i)
def zb1 (x : Int32) : Int32 := x - ((x.toUInt32 >>> ((iI 1).toUInt32 &&& Int32.toUInt32 31)).toInt32 &&& 1431655765)
def zb2 (x : Int32) : Int32 := (x &&& 858993459) + ((x.toUInt32 >>> ((iI 2).toUInt32 &&& Int32.toUInt32 31)).toInt32 &&& 858993459)
def zb3 (x : Int32) : Int32 := (x + (x.toUInt32 >>> ((iI 4).toUInt32 &&& Int32.toUInt32 31)).toInt32) &&& 252645135
def zb4 (x : Int32) : Int32 := x + (x.toUInt32 >>> ((iI 8).toUInt32 &&& Int32.toUInt32 31)).toInt32
def zb5 (x : Int32) : Int32 := x + (x.toUInt32 >>> ((iI 16).toUInt32 &&& Int32.toUInt32 31)).toInt32
theorem zb_all : ∀ t : Fin 64, (zb5 (zb4 (zb3 (zb2 (zb1 (iI (t.val : Int))))))) &&& iI 63 = iI ((zPop t.val : Nat) : Int) := by decide +kernel
theorem zb_pop {t : Nat} (h : t < 64) : (zb5 (zb4 (zb3 (zb2 (zb1 (iI (t : Int))))))) &&& iI 63 = iI ((zPop t : Nat) : Int) := zb_all ⟨t, h⟩
theorem zb_bit_all : ∀ (t : Fin 64) (r : Fin 6), (iI (t.val : Int) >>> (iI (r.val : Int) &&& 31)) &&& iI 1 = iI (bZ (t.val.testBit r.val = true)) := by decide +kernel
theorem zb_bit {t r : Nat} (h : t < 64) (hr : r < 6) : (iI (t : Int) >>> (iI (r : Int) &&& 31)) &&& iI 1 = iI (bZ (t.testBit r = true)) := zb_bit_all ⟨t, h⟩ ⟨r, hr⟩
theorem zb_or_all : ∀ (t : Fin 64) (r : Fin 6), iI (t.val : Int) ||| (iI 1 <<< (iI (r.val : Int) &&& 31)) = iI ((t.val ||| 1 <<< r.val : Nat) : Int) := by decide +kernel
theorem zb_or {t r : Nat} (h : t < 64) (hr : r < 6) : iI (t : Int) ||| (iI 1 <<< (iI (r : Int) &&& 31)) = iI ((t ||| 1 <<< r : Nat) : Int) := zb_or_all ⟨t, h⟩ ⟨r, hr⟩
theorem zb_shl_all : ∀ (n : Fin 7), iI 1 <<< (iI (n.val : Int) &&& 31) = iI ((2 ^ n.val : Nat) : Int) := by decide +kernel
theorem zb_shl {n : Nat} (hn : n ≤ 6) : iI 1 <<< (iI (n : Int) &&& 31) = iI ((2 ^ n : Nat) : Int) := zb_shl_all ⟨n, by omega⟩
/-- the rooms of a set -/
def zT (t : Nat) : Nat → Bool := fun r => t.testBit r
theorem zT_add (t r : Nat) : zAdd (zT t) r = zT (t ||| 1 <<< r) := by
  funext x
  show (t.testBit x || x == r) = (t ||| 1 <<< r).testBit x
  rw [Nat.testBit_or, Nat.one_shiftLeft, Nat.testBit_two_pow]
  congr 1
  by_cases h : x = r
  · subst h; simp
  · have h2 : r ≠ x := fun q => h q.symm
    simp [h, h2]
theorem zT_0 : zT 0 = fun _ => false := by
  funext x
  exact Nat.zero_testBit x
theorem zT_cnt_all : ∀ (n : Fin 7) (t : Fin 64), t.val < 2 ^ n.val → zCnt (zT t.val) n.val + zPop t.val = n.val := by decide +kernel
theorem zT_cnt {n t : Nat} (hn : n ≤ 6) (ht : t < 2 ^ n) : zCnt (zT t) n + zPop t = n := by
  have h64 : t < 64 := Nat.lt_of_lt_of_le ht (by
    have := Nat.pow_le_pow_right (n := 2) (by decide) hn
    simpa using this)
  exact zT_cnt_all ⟨n, by omega⟩ ⟨t, h64⟩ ht
theorem zT_or_all : ∀ (n : Fin 7) (t : Fin 64) (r : Fin 6), t.val < 2 ^ n.val → r.val < n.val → zT t.val r.val = false → t.val < (t.val ||| 1 <<< r.val) ∧ (t.val ||| 1 <<< r.val) < 2 ^ n.val ∧ zPop (t.val ||| 1 <<< r.val) = zPop t.val + 1 := by decide +kernel
theorem zT_or {n t r : Nat} (hn : n ≤ 6) (ht : t < 2 ^ n) (hr : r < n) (h : zT t r = false) : t < (t ||| 1 <<< r) ∧ (t ||| 1 <<< r) < 2 ^ n ∧ zPop (t ||| 1 <<< r) = zPop t + 1 := by
  have h64 : t < 64 := Nat.lt_of_lt_of_le ht (by
    have := Nat.pow_le_pow_right (n := 2) (by decide) hn
    simpa using this)
  exact zT_or_all ⟨n, by omega⟩ ⟨t, h64⟩ ⟨r, by omega⟩ ht hr h
theorem zT_full_all : ∀ (n : Fin 7), zPop (2 ^ n.val - 1) = n.val ∧ 0 < 2 ^ n.val ∧ 2 ^ n.val ≤ 64 := by decide +kernel
theorem zT_full {n : Nat} (hn : n ≤ 6) : zPop (2 ^ n - 1) = n ∧ 0 < 2 ^ n ∧ 2 ^ n ≤ 64 := zT_full_all ⟨n, by omega⟩
theorem zT_notfull_all : ∀ (n : Fin 7) (t : Fin 64), t.val < 2 ^ n.val → t.val ≠ 2 ^ n.val - 1 → zPop t.val < n.val := by decide +kernel
theorem zT_notfull {n t : Nat} (hn : n ≤ 6) (ht : t < 2 ^ n) (h : t ≠ 2 ^ n - 1) : zPop t < n := by
  have h64 : t < 64 := Nat.lt_of_lt_of_le ht (zT_full hn).2.2
  exact zT_notfull_all ⟨n, by omega⟩ ⟨t, h64⟩ ht h
end
section
/-! PURE: the table over sets of rooms -/
def zV (b : Nat → Int) : Nat → Nat → Int := fun k r => b (k * 6 + r)
def zD (n : Nat) (b : Nat → Int) (u : Nat) : zS := zG n zAll (zV b) (n - zPop u) (zPop u) (zT u)
def zF (n : Nat) (b : Nat → Int) (t r : Nat) : zS := if zT t r = true then none else zShift (zV b (zPop t) r) r (zD n b (t ||| 1 <<< r))
theorem zFold_congr {F G : Nat → zS} : ∀ m, (∀ r, r < m → F r = G r) → zFold F m = zFold G m
  | 0, _ => rfl
  | m + 1, h => by
    show zComb (zFold F m) (F m) = zComb (zFold G m) (G m)
    rw [zFold_congr m (fun r hr => h r (by omega)), h m (by omega)]
theorem zD_fold {n t : Nat} {b : Nat → Int} (hn : n ≤ 6) (ht : t < 2 ^ n) (hf : t ≠ 2 ^ n - 1) : zD n b t = zFold (zF n b t) n := by
  have hp := zT_notfull hn ht hf
  unfold zD
  obtain ⟨d, hd⟩ : ∃ d, n - zPop t = d + 1 := ⟨n - zPop t - 1, by omega⟩
  rw [hd]
  refine zFold_congr n (fun r hr => ?_)
  show (if (zT t r || !zAll (zPop t) r) = true then none else zShift (zV b (zPop t) r) r (zG n zAll (zV b) d (zPop t + 1) (zAdd (zT t) r))) = if zT t r = true then none else zShift (zV b (zPop t) r) r (zG n zAll (zV b) (n - zPop (t ||| 1 <<< r)) (zPop (t ||| 1 <<< r)) (zT (t ||| 1 <<< r)))
  cases hT : zT t r with
  | true => simp
  | false =>
    obtain ⟨-, -, h3⟩ := zT_or hn ht hr hT
    have e : n - (zPop t + 1) = d := by omega
    rw [zT_add, h3, e]
    simp [zAll]
theorem zD_some {n u : Nat} {b : Nat → Int} (hn : n ≤ 6) (hu : u < 2 ^ n) : ∃ x, zD n b u = some x :=
  zG_some _ _ _ (by have := zT_cnt hn hu; omega)
theorem zD_bound {n u : Nat} {b : Nat → Int} (hn : n ≤ 6) (hb0 : ∀ k, 0 ≤ b k ∧ b k ≤ 999) {x : Int × Int × List Nat} (h : zD n b u = some x) : 0 ≤ x.1 ∧ x.1 ≤ 5994 := by
  obtain ⟨h1, h2, -⟩ := (zG_spec n zAll (zV b) (n - zPop u) (zPop u) (zT u)).1 x h
  have h3 := zOk_len h1
  have h4 := zVal_bound (v := zV b) (M := 999) (zPop u) x.2.2 (fun i r _ _ => hb0 _)
  rw [h2, h3] at h4
  omega
theorem zComb_none (X : zS) : zComb X none = X := by cases X <;> rfl
theorem zBW (X : zS) (y : Int × Int × List Nat) (hy : 0 ≤ y.1) : zBest (zComb X (some y)) = (if zBest X < y.1 then y.1 else zBest X) ∧ zWays (zComb X (some y)) = (if zBest X < y.1 then y.2.1 else if zBest X = y.1 then zWays X + y.2.1 else zWays X) := by
  cases X with
  | none =>
    show y.1 = (if (-1 : Int) < y.1 then y.1 else -1) ∧ y.2.1 = (if (-1 : Int) < y.1 then y.2.1 else if (-1 : Int) = y.1 then 0 + y.2.1 else 0)
    rw [if_pos (by omega), if_pos (by omega)]
    exact ⟨rfl, rfl⟩
  | some x =>
    simp only [zComb, zBest, zWays]
    by_cases c1 : x.1 < y.1
    · simp [c1]
    · by_cases c2 : x.1 = y.1
      · simp [c2]
      · simp [c1, c2]
/-- one room more: taken -/
theorem zF_taken {n t r : Nat} {b : Nat → Int} (h : zT t r = true) : zFold (zF n b t) (r + 1) = zFold (zF n b t) r := by
  show zComb (zFold (zF n b t) r) (zF n b t r) = _
  unfold zF
  rw [if_pos h]
  exact zComb_none _
/-- one room more: free -/
theorem zF_free {n t r : Nat} {b : Nat → Int} (hn : n ≤ 6) (hb0 : ∀ k, 0 ≤ b k ∧ b k ≤ 999) (ht : t < 2 ^ n) (hr : r < n) (h : ¬ zT t r = true) : ∃ g, zD n b (t ||| 1 <<< r) = some g ∧ (0 ≤ g.1 ∧ g.1 ≤ 5994) ∧ zBest (zFold (zF n b t) (r + 1)) = (if zBest (zFold (zF n b t) r) < b (zPop t * 6 + r) + g.1 then b (zPop t * 6 + r) + g.1 else zBest (zFold (zF n b t) r)) ∧ zWays (zFold (zF n b t) (r + 1)) = (if zBest (zFold (zF n b t) r) < b (zPop t * 6 + r) + g.1 then g.2.1 else if zBest (zFold (zF n b t) r) = b (zPop t * 6 + r) + g.1 then zWays (zFold (zF n b t) r) + g.2.1 else zWays (zFold (zF n b t) r)) := by
  have hT : zT t r = false := by simpa using h
  obtain ⟨h1, h2, h3⟩ := zT_or hn ht hr hT
  obtain ⟨g, hg⟩ := zD_some (b := b) hn h2
  have hgb := zD_bound hn hb0 hg
  refine ⟨g, hg, hgb, ?_⟩
  have e : zFold (zF n b t) (r + 1) = zComb (zFold (zF n b t) r) (some (b (zPop t * 6 + r) + g.1, g.2.1, r :: g.2.2)) := by
    show zComb (zFold (zF n b t) r) (zF n b t r) = _
    congr 1
    unfold zF
    rw [if_neg h, hg]
    rfl
  rw [e]
  exact zBW _ _ (by have := (hb0 (zPop t * 6 + r)).1; show 0 ≤ b (zPop t * 6 + r) + g.1; omega)
theorem zF_bound {n t : Nat} {b : Nat → Int} (hn : n ≤ 6) (hb0 : ∀ k, 0 ≤ b k ∧ b k ≤ 999) (ht : t < 2 ^ n) : ∀ r, r ≤ n → -1 ≤ zBest (zFold (zF n b t) r) ∧ zBest (zFold (zF n b t) r) ≤ 6993
  | 0, _ => by show (-1 : Int) ≤ -1 ∧ (-1 : Int) ≤ 6993; omega
  | r + 1, hr => by
    have ih := zF_bound hn hb0 ht r (by omega)
    by_cases h : zT t r = true
    · rw [zF_taken h]; exact ih
    · obtain ⟨g, -, hg, e, -⟩ := zF_free hn hb0 ht (by omega : r < n) h
      have := hb0 (zPop t * 6 + r)
      rw [e]
      split <;> omega
/-- the first room of the best -/
def zHd (n : Nat) (b : Nat → Int) (u : Nat) : Nat := (zRooms (zD n b u)).headD 0
theorem zHd_spec {n u : Nat} {b : Nat → Int} (hn : n ≤ 6) (hu : u < 2 ^ n) (hf : u ≠ 2 ^ n - 1) : ∃ y, zHd n b u < n ∧ zT u (zHd n b u) = false ∧ zD n b (u ||| 1 <<< zHd n b u) = some y ∧ b (zPop u * 6 + zHd n b u) + y.1 = zBest (zD n b u) ∧ zRooms (zD n b u) = zHd n b u :: y.2.2 ∧ ∀ q, q < zHd n b u → zT u q = false → b (zPop u * 6 + q) + zBest (zD n b (u ||| 1 <<< q)) ≠ zBest (zD n b u) := by
  have hp := zT_notfull hn hu hf
  obtain ⟨x, hx⟩ := zD_some (b := b) hn hu
  obtain ⟨d, hd⟩ : ∃ d, n - zPop u = d + 1 := ⟨n - zPop u - 1, by omega⟩
  have hx2 : zG n zAll (zV b) (d + 1) (zPop u) (zT u) = some x := by rw [← hd]; exact hx
  obtain ⟨r, y, h1, h2, h3, h4, h5, h6⟩ := zG_head hx2
  have hdn : ∀ q, q < n → zT u q = false → zG n zAll (zV b) d (zPop u + 1) (zAdd (zT u) q) = zD n b (u ||| 1 <<< q) := by
    intro q hq hT
    obtain ⟨-, -, g3⟩ := zT_or hn hu hq hT
    have e : n - (zPop u + 1) = d := by omega
    unfold zD
    rw [zT_add, g3, e]
  have hz : zHd n b u = r := by
    unfold zHd
    rw [hx]
    show (x.2.2).headD 0 = r
    rw [h5]
    rfl
  have hb : zBest (zD n b u) = x.1 := by rw [hx]; rfl
  rw [hz, hb, hx]
  refine ⟨y, h1, h2, ?_, h4, h5, fun q hq hT => ?_⟩
  · rw [← hdn r h1 h2]; exact h3
  · obtain ⟨z, hzz⟩ := zD_some (n := n) (b := b) (u := u ||| 1 <<< q) hn (zT_or hn hu (by omega) hT).2.1
    rw [hzz]
    exact h6 q hq hT z (by rw [hdn q (by omega) hT]; exact hzz)
/-! the house's giving, by its bids -/
theorem zPop_0 : zPop 0 = 0 := by decide
theorem zD_0 (n : Nat) (b : Nat → Int) : zD n b 0 = zG n zAll (zV b) n 0 (fun _ => false) := by
  unfold zD
  rw [zPop_0, zT_0]
  rfl
/-- worth, ways, rooms of a house -/
def zWo (n : Nat) (b : Nat → Int) : Int := zBest (zD n b 0)
def zWy (n : Nat) (b : Nat → Int) : Int := zWays (zD n b 0)
def zRo (n : Nat) (b : Nat → Int) : Nat → Nat := fun k => (zRooms (zD n b 0)).getD k 0
/-! bids that change -/
def zGr (b : Nat → Int) (n : Nat) : Nat → (Nat → Int)
  | 0 => b
  | i + 1 => uZ (uZ (zGr b n i) (n * 6 + i) 0) (i * 6 + n) 0
def zSh1 (x y k : Nat) (b : Nat → Int) : Nat → (Nat → Int)
  | 0 => b
  | r + 1 => uZ (zSh1 x y k b r) (k * 6 + r) (zSh1 x y k b r ((if k < x then k else k + 1) * 6 + (if r < y then r else r + 1)))
def zSh (x y m : Nat) (b : Nat → Int) : Nat → (Nat → Int)
  | 0 => b
  | k + 1 => zSh1 x y k (zSh x y m b k) m
theorem uZ_b {b : Nat → Int} (hb : ∀ k, 0 ≤ b k ∧ b k ≤ 999) (j : Nat) {v : Int} (hv : 0 ≤ v ∧ v ≤ 999) : ∀ k, 0 ≤ uZ b j v k ∧ uZ b j v k ≤ 999 := by
  intro k
  unfold uZ
  split
  · exact hv
  · exact hb k
theorem zGr_b {b : Nat → Int} (hb : ∀ k, 0 ≤ b k ∧ b k ≤ 999) (n : Nat) : ∀ i k, 0 ≤ zGr b n i k ∧ zGr b n i k ≤ 999
  | 0 => hb
  | i + 1 => uZ_b (uZ_b (zGr_b hb n i) _ (by decide)) _ (by decide)
theorem zSh1_b {b : Nat → Int} (x y k : Nat) (hb : ∀ k, 0 ≤ b k ∧ b k ≤ 999) : ∀ r j, 0 ≤ zSh1 x y k b r j ∧ zSh1 x y k b r j ≤ 999
  | 0 => hb
  | r + 1 => uZ_b (zSh1_b x y k hb r) _ (zSh1_b x y k hb r _)
theorem zSh_b {b : Nat → Int} (x y m : Nat) (hb : ∀ k, 0 ≤ b k ∧ b k ≤ 999) : ∀ k j, 0 ≤ zSh x y m b k j ∧ zSh x y m b k j ≤ 999
  | 0 => hb
  | k + 1 => zSh1_b x y k (zSh_b x y m hb k) m
end
section
set_option maxHeartbeats 4000000 in
set_option maxRecDepth 100000 in
/-- J6_bitCount_0f7a4 -/
theorem c_J6_bitCount_0f7a4 (l : Launch) (D : va_G) (cI : ClassId) (t : Nat) (ht : t < 64) : zRi l yJ6_bitCount_0f7a4 wsJ6_bitCount_0f7a4 0 0 D cI [.int (iI ((t : Nat) : Int))] [] (iI (((zPop t : Nat) : Int))) := by
  refine zRi_of (cc := cJ6_bitCount_0f7a4) (maxL := 1) (rt := .int) (by decide) rfl (Nat.le_of_ble_eq_true rfl) ?_
  intro p e s m args below meth c ls hF hr hlocks hP hK hl
  have hF : zFix p m c cJ6_bitCount_0f7a4 1 s args wsJ6_bitCount_0f7a4 RJ6 := hF
  obtain ⟨hx, hb, hml, hown, hts⟩ := id hF
  have hP : va_P D vwCl [] s.heap := hP
  have hl : lv_has ls 1 [(0, .int (iI ((t : Nat) : Int)))] := hl
  refine lv_iload_n hx hb dJ6_bitCount_0f7a4_0 rfl (lv_at hl 0 rfl) ?_
  refine lv_iload_n hx hb dJ6_bitCount_0f7a4_1 rfl (lv_at hl 0 rfl) ?_
  refine zr_ic (n := ((1 : Nat) : Int)) hx hb dJ6_bitCount_0f7a4_2 ?_
  refine lv_iushr hx hb dJ6_bitCount_0f7a4_3 rfl ?_
  refine lv_ldcw hx hb hown (hts (.constant RJ6 265 (1431655765)) (by decide +kernel)) dJ6_bitCount_0f7a4_4 ?_
  refine lv_iand hx hb dJ6_bitCount_0f7a4_7 ?_
  refine lv_isub hx hb dJ6_bitCount_0f7a4_8 ?_
  refine zr_top (w := .int (zb1 (iI ((t : Nat) : Int)))) rfl ?_
  refine lv_istore_n (lv' := [(0, .int (zb1 (iI ((t : Nat) : Int))))]) hx hb dJ6_bitCount_0f7a4_9 rfl hl (by decide) rfl (fun ls hl => ?_)
  refine lv_iload_n hx hb dJ6_bitCount_0f7a4_10 rfl (lv_at hl 0 rfl) ?_
  refine lv_ldcw hx hb hown (hts (.constant RJ6 266 (858993459)) (by decide +kernel)) dJ6_bitCount_0f7a4_11 ?_
  refine lv_iand hx hb dJ6_bitCount_0f7a4_14 ?_
  refine lv_iload_n hx hb dJ6_bitCount_0f7a4_15 rfl (lv_at hl 0 rfl) ?_
  refine zr_ic (n := ((2 : Nat) : Int)) hx hb dJ6_bitCount_0f7a4_16 ?_
  refine lv_iushr hx hb dJ6_bitCount_0f7a4_17 rfl ?_
  refine lv_ldcw hx hb hown (hts (.constant RJ6 266 (858993459)) (by decide +kernel)) dJ6_bitCount_0f7a4_18 ?_
  refine lv_iand hx hb dJ6_bitCount_0f7a4_21 ?_
  refine lv_iadd hx hb dJ6_bitCount_0f7a4_22 ?_
  refine zr_top (w := .int (zb2 (zb1 (iI ((t : Nat) : Int))))) rfl ?_
  refine lv_istore_n (lv' := [(0, .int (zb2 (zb1 (iI ((t : Nat) : Int)))))]) hx hb dJ6_bitCount_0f7a4_23 rfl hl (by decide) rfl (fun ls hl => ?_)
  refine lv_iload_n hx hb dJ6_bitCount_0f7a4_24 rfl (lv_at hl 0 rfl) ?_
  refine lv_iload_n hx hb dJ6_bitCount_0f7a4_25 rfl (lv_at hl 0 rfl) ?_
  refine zr_ic (n := ((4 : Nat) : Int)) hx hb dJ6_bitCount_0f7a4_26 ?_
  refine lv_iushr hx hb dJ6_bitCount_0f7a4_27 rfl ?_
  refine lv_iadd hx hb dJ6_bitCount_0f7a4_28 ?_
  refine lv_ldcw hx hb hown (hts (.constant RJ6 267 (252645135)) (by decide +kernel)) dJ6_bitCount_0f7a4_29 ?_
  refine lv_iand hx hb dJ6_bitCount_0f7a4_32 ?_
  refine zr_top (w := .int (zb3 (zb2 (zb1 (iI ((t : Nat) : Int)))))) rfl ?_
  refine lv_istore_n (lv' := [(0, .int (zb3 (zb2 (zb1 (iI ((t : Nat) : Int))))))]) hx hb dJ6_bitCount_0f7a4_33 rfl hl (by decide) rfl (fun ls hl => ?_)
  refine lv_iload_n hx hb dJ6_bitCount_0f7a4_34 rfl (lv_at hl 0 rfl) ?_
  refine lv_iload_n hx hb dJ6_bitCount_0f7a4_35 rfl (lv_at hl 0 rfl) ?_
  refine zr_bi (n := ((8 : Nat) : Int)) hx hb dJ6_bitCount_0f7a4_36 rfl ?_
  refine lv_iushr hx hb dJ6_bitCount_0f7a4_38 rfl ?_
  refine lv_iadd hx hb dJ6_bitCount_0f7a4_39 ?_
  refine zr_top (w := .int (zb4 (zb3 (zb2 (zb1 (iI ((t : Nat) : Int))))))) rfl ?_
  refine lv_istore_n (lv' := [(0, .int (zb4 (zb3 (zb2 (zb1 (iI ((t : Nat) : Int)))))))]) hx hb dJ6_bitCount_0f7a4_40 rfl hl (by decide) rfl (fun ls hl => ?_)
  refine lv_iload_n hx hb dJ6_bitCount_0f7a4_41 rfl (lv_at hl 0 rfl) ?_
  refine lv_iload_n hx hb dJ6_bitCount_0f7a4_42 rfl (lv_at hl 0 rfl) ?_
  refine zr_bi (n := ((16 : Nat) : Int)) hx hb dJ6_bitCount_0f7a4_43 rfl ?_
  refine lv_iushr hx hb dJ6_bitCount_0f7a4_45 rfl ?_
  refine lv_iadd hx hb dJ6_bitCount_0f7a4_46 ?_
  refine zr_top (w := .int (zb5 (zb4 (zb3 (zb2 (zb1 (iI ((t : Nat) : Int)))))))) rfl ?_
  refine lv_istore_n (lv' := [(0, .int (zb5 (zb4 (zb3 (zb2 (zb1 (iI ((t : Nat) : Int))))))))]) hx hb dJ6_bitCount_0f7a4_47 rfl hl (by decide) rfl (fun ls hl => ?_)
  refine lv_iload_n hx hb dJ6_bitCount_0f7a4_48 rfl (lv_at hl 0 rfl) ?_
  refine zr_bi (n := ((63 : Nat) : Int)) hx hb dJ6_bitCount_0f7a4_49 rfl ?_
  refine lv_iand hx hb dJ6_bitCount_0f7a4_51 ?_
  exact zRi_ret hx hb hr hlocks dJ6_bitCount_0f7a4_52 (zb_pop ht)
set_option maxHeartbeats 4000000 in
set_option maxRecDepth 100000 in
/-- X0_size -/
theorem c_X0_size (l : Launch) (D : va_G) (cI : ClassId) (B C n : Nat) (b : Nat → Int)  : zRi l yX0_size wsX0_size 0 0 D cI [.ref B] [(B, .inr (0, [.ref C, .int (iI ((n : Nat) : Int))])), (C, zArr cI 36 b)] (iI ((n : Int))) := by
  refine zRi_of (cc := cX0_size) (maxL := 1) (rt := .int) (by decide) rfl (Nat.le_of_ble_eq_true rfl) ?_
  intro p e s m args below meth c ls hF hr hlocks hP hK hl
  have hF : zFix p m c cX0_size 1 s args wsX0_size RX0 := hF
  obtain ⟨hx, hb, hml, hown, hts⟩ := id hF
  have hP : va_P D vwCl [(B, .inr (0, [.ref C, .int (iI ((n : Nat) : Int))])), (C, zArr cI 36 b)] s.heap := hP
  have hl : lv_has ls 1 [(0, .ref B)] := hl
  refine lv_aload_n hx hb dX0_size_0 rfl (lv_at hl 0 rfl) ?_
  refine va_get (D := D) (ci := 0) (v := .int (iI ((n : Nat) : Int))) (C := RX0) (T := TX0) (N := 2) hx hb hts (by decide +kernel) hown hK hP 0 rfl rfl 1 (by decide) (hts (.fieldLink RX0 15 "RentHarmony$Bids" "size" "I") (by decide +kernel)) (fun _ h9 => h9) rfl dX0_size_1 ?_
  exact zRi_ret hx hb hr hlocks dX0_size_4 rfl
set_option maxHeartbeats 4000000 in
set_option maxRecDepth 100000 in
/-- X0_has -/
theorem c_X0_has (l : Launch) (D : va_G) (cI : ClassId) (B C n : Nat) (b : Nat → Int) (z : Int) (hn : n ≤ 6) (hz : zB z) : zRi l yX0_has wsX0_has 0 0 D cI [.ref B, .int (iI (z))] [(B, .inr (0, [.ref C, .int (iI ((n : Nat) : Int))])), (C, zArr cI 36 b)] (iI (bZ (0 ≤ z ∧ z < (n : Int)))) := by
  refine zRi_of (cc := cX0_has) (maxL := 2) (rt := .boolean) (by decide) rfl (Nat.le_of_ble_eq_true rfl) ?_
  intro p e s m args below meth c ls hF hr hlocks hP hK hl
  have hF : zFix p m c cX0_has 2 s args wsX0_has RX0 := hF
  obtain ⟨hx, hb, hml, hown, hts⟩ := id hF
  have hP : va_P D vwCl [(B, .inr (0, [.ref C, .int (iI ((n : Nat) : Int))])), (C, zArr cI 36 b)] s.heap := hP
  have hl : lv_has ls 2 [(0, .ref B), (1, .int (iI (z)))] := hl
  have hz1 := hz.1
  have hz2 := hz.2
  refine lv_iload_n hx hb dX0_has_0 rfl (lv_at hl 1 rfl) ?_
  refine zr_if_lt (tgt := 16) hx hb dX0_has_1 (by decide) (zB_of (by omega) (by omega)) (fun c1 => ?_) (fun c1 => ?_)
  · refine zr_ic (n := ((0 : Nat) : Int)) hx hb dX0_has_16 ?_
    exact zRi_retz hx hb hr rfl hlocks dX0_has_17 (congrArg iI (bZ_f (by omega)).symm)
  · refine lv_iload_n hx hb dX0_has_4 rfl (lv_at hl 1 rfl) ?_
    refine lv_aload_n hx hb dX0_has_5 rfl (lv_at hl 0 rfl) ?_
    refine va_get (D := D) (ci := 0) (v := .int (iI ((n : Nat) : Int))) (C := RX0) (T := TX0) (N := 2) hx hb hts (by decide +kernel) hown hK hP 0 rfl rfl 1 (by decide) (hts (.fieldLink RX0 15 "RentHarmony$Bids" "size" "I") (by decide +kernel)) (fun _ h9 => h9) rfl dX0_has_6 ?_
    refine zr_icmp_ge (tgt := 16) hx hb dX0_has_9 (by decide) (zB_of (by omega) (by omega)) (zB_of (by omega) (by omega)) (fun c2 => ?_) (fun c2 => ?_)
    · refine zr_ic (n := ((0 : Nat) : Int)) hx hb dX0_has_16 ?_
      exact zRi_retz hx hb hr rfl hlocks dX0_has_17 (congrArg iI (bZ_f (by omega)).symm)
    · refine zr_ic (n := ((1 : Nat) : Int)) hx hb dX0_has_12 ?_
      refine lv_goto (tgt := 17) hx hb dX0_has_13 (by decide) ?_
      exact zRi_retz hx hb hr rfl hlocks dX0_has_17 (congrArg iI (bZ_t (by omega)).symm)
set_option maxHeartbeats 4000000 in
set_option maxRecDepth 100000 in
/-- X0_of -/
theorem c_X0_of (l : Launch) (D : va_G) (cI : ClassId) (B C n : Nat) (b : Nat → Int) (x y : Nat) (hn : n ≤ 6) (hx0 : x < n) (hy0 : y < n) : zRi l yX0_of wsX0_of 1 21 D cI [.ref B, .int (iI ((x : Nat) : Int)), .int (iI ((y : Nat) : Int))] [(B, .inr (0, [.ref C, .int (iI ((n : Nat) : Int))])), (C, zArr cI 36 b)] (iI (b (x * 6 + y))) := by
  refine zRi_of (cc := cX0_of) (maxL := 3) (rt := .int) (by decide) rfl (Nat.le_of_ble_eq_true rfl) ?_
  intro p e s m args below meth c ls hF hr hlocks hP hK hl
  have hF : zFix p m c cX0_of 3 s args wsX0_of RX0 := hF
  obtain ⟨hx, hb, hml, hown, hts⟩ := id hF
  have hP : va_P D vwCl [(B, .inr (0, [.ref C, .int (iI ((n : Nat) : Int))])), (C, zArr cI 36 b)] s.heap := hP
  have hl : lv_has ls 3 [(0, .ref B), (1, .int (iI ((x : Nat) : Int))), (2, .int (iI ((y : Nat) : Int)))] := hl
  refine lv_aload_n hx hb dX0_of_0 rfl (lv_at hl 0 rfl) ?_
  refine lv_iload_n hx hb dX0_of_1 rfl (lv_at hl 1 rfl) ?_
  refine zc_ri (As := [.int (iI ((x : Nat) : Int))]) (rest := []) hF (c_X0_has l D cI B C n b ((x : Nat) : Int) (by omega) (zB_of (by omega) (by omega))) (cwV 1 hts gX0_of_X0_has rfl rfl rfl (by decide +kernel) ⟨Nat.le_of_ble_eq_true rfl, Nat.le_of_ble_eq_true rfl⟩) hK hP [0, 1] rfl 0 rfl 0 rfl rfl rfl rfl hl.1 rfl (Nat.le_of_ble_eq_true rfl) dX0_of_2 ⟨Nat.zero_le _, Nat.zero_le _⟩ ?_
  refine zr_ifB_eq (tgt := 30) hx hb dX0_of_5 (by decide)  (fun c1 => ?_) (fun c1 => ?_)
  · exact absurd (by omega) c1
  · refine lv_aload_n hx hb dX0_of_8 rfl (lv_at hl 0 rfl) ?_
    refine lv_iload_n hx hb dX0_of_9 rfl (lv_at hl 2 rfl) ?_
    refine zc_ri (As := [.int (iI ((y : Nat) : Int))]) (rest := []) hF (c_X0_has l D cI B C n b ((y : Nat) : Int) (by omega) (zB_of (by omega) (by omega))) (cwV 1 hts gX0_of_X0_has rfl rfl rfl (by decide +kernel) ⟨Nat.le_of_ble_eq_true rfl, Nat.le_of_ble_eq_true rfl⟩) hK hP [0, 1] rfl 0 rfl 0 rfl rfl rfl rfl hl.1 rfl (Nat.le_of_ble_eq_true rfl) dX0_of_10 ⟨Nat.zero_le _, Nat.zero_le _⟩ ?_
    refine zr_ifB_eq (tgt := 30) hx hb dX0_of_13 (by decide)  (fun c2 => ?_) (fun c2 => ?_)
    · exact absurd (by omega) c2
    · refine lv_aload_n hx hb dX0_of_16 rfl (lv_at hl 0 rfl) ?_
      refine va_get (D := D) (ci := 0) (v := .ref C) (C := RX0) (T := TX0) (N := 2) hx hb hts (by decide +kernel) hown hK hP 0 rfl rfl 0 (by decide) (hts (.fieldLink RX0 9 "RentHarmony$Bids" "coins" "[I") (by decide +kernel)) (fun _ h9 => h9) rfl dX0_of_17 ?_
      refine lv_iload_n hx hb dX0_of_20 rfl (lv_at hl 1 rfl) ?_
      refine zr_bi (n := ((6 : Nat) : Int)) hx hb dX0_of_21 rfl ?_
      refine zr_mulN (x := x) (y := 6) hx hb dX0_of_23 ?_
      refine lv_iload_n hx hb dX0_of_24 rfl (lv_at hl 2 rfl) ?_
      refine zr_addN (x := x * 6) (y := y) hx hb dX0_of_25 ?_
      refine zr_iald hx hb hK hP 1 0 rfl rfl ((x * 6) + y) (by omega) (by omega) (by omega) dX0_of_26 ?_
      refine lv_goto (tgt := 31) hx hb dX0_of_27 (by decide) ?_
      exact zRi_ret hx hb hr hlocks dX0_of_31 rfl
set_option maxHeartbeats 4000000 in
set_option maxRecDepth 100000 in
/-- X0_set -/
theorem c_X0_set (l : Launch) (D : va_G) (cI : ClassId) (B C n : Nat) (b : Nat → Int) (x y : Nat) (v : Int) (hn : n ≤ 6) (hx0 : x < n) (hy0 : y < n) : zWv (S := Unit) l yX0_set wsX0_set 1 21 D cI [.ref B, .int (iI ((x : Nat) : Int)), .int (iI ((y : Nat) : Int)), .int (iI (v))] [(B, .inr (0, [.ref C, .int (iI ((n : Nat) : Int))])), (C, zArr cI 36 b)] (fun _ => True) (fun _ => [(B, .inr (0, [.ref C, .int (iI ((n : Nat) : Int))])), (C, zArr cI 36 (uZ b (x * 6 + y) v))]) := by
  refine zWv_of (cc := cX0_set) (maxL := 4) (by decide) rfl (Nat.le_of_ble_eq_true rfl) ?_
  intro p e s m args below meth c ls A hF hr hlocks hP hK hD hS hl
  have hF : zFix p m c cX0_set 4 s args wsX0_set RX0 := hF
  obtain ⟨hx, hb, hml, hown, hts⟩ := id hF
  have hP : va_P D vwCl [(B, .inr (0, [.ref C, .int (iI ((n : Nat) : Int))])), (C, zArr cI 36 b)] s.heap := hP
  have hD : va_D A [(B, .inr (0, [.ref C, .int (iI ((n : Nat) : Int))])), (C, zArr cI 36 b)] := hD
  skip
  have hl : lv_has ls 4 [(0, .ref B), (1, .int (iI ((x : Nat) : Int))), (2, .int (iI ((y : Nat) : Int))), (3, .int (iI (v)))] := hl
  refine lv_aload_n hx hb dX0_set_0 rfl (lv_at hl 0 rfl) ?_
  refine lv_iload_n hx hb dX0_set_1 rfl (lv_at hl 1 rfl) ?_
  refine zc_ri (As := [.int (iI ((x : Nat) : Int))]) (rest := []) hF (c_X0_has l D cI B C n b ((x : Nat) : Int) (by omega) (zB_of (by omega) (by omega))) (cwV 1 hts gX0_set_X0_has rfl rfl rfl (by decide +kernel) ⟨Nat.le_of_ble_eq_true rfl, Nat.le_of_ble_eq_true rfl⟩) hK hP [0, 1] rfl 0 rfl 0 rfl rfl rfl rfl hl.1 rfl (Nat.le_of_ble_eq_true rfl) dX0_set_2 ⟨Nat.zero_le _, Nat.zero_le _⟩ ?_
  refine zr_ifB_eq (tgt := 28) hx hb dX0_set_5 (by decide)  (fun c1 => ?_) (fun c1 => ?_)
  · exact absurd (by omega) c1
  · refine lv_aload_n hx hb dX0_set_8 rfl (lv_at hl 0 rfl) ?_
    refine lv_iload_n hx hb dX0_set_9 rfl (lv_at hl 2 rfl) ?_
    refine zc_ri (As := [.int (iI ((y : Nat) : Int))]) (rest := []) hF (c_X0_has l D cI B C n b ((y : Nat) : Int) (by omega) (zB_of (by omega) (by omega))) (cwV 1 hts gX0_set_X0_has rfl rfl rfl (by decide +kernel) ⟨Nat.le_of_ble_eq_true rfl, Nat.le_of_ble_eq_true rfl⟩) hK hP [0, 1] rfl 0 rfl 0 rfl rfl rfl rfl hl.1 rfl (Nat.le_of_ble_eq_true rfl) dX0_set_10 ⟨Nat.zero_le _, Nat.zero_le _⟩ ?_
    refine zr_ifB_eq (tgt := 28) hx hb dX0_set_13 (by decide)  (fun c2 => ?_) (fun c2 => ?_)
    · exact absurd (by omega) c2
    · refine lv_aload_n hx hb dX0_set_16 rfl (lv_at hl 0 rfl) ?_
      refine va_get (D := D) (ci := 0) (v := .ref C) (C := RX0) (T := TX0) (N := 2) hx hb hts (by decide +kernel) hown hK hP 0 rfl rfl 0 (by decide) (hts (.fieldLink RX0 9 "RentHarmony$Bids" "coins" "[I") (by decide +kernel)) (fun _ h9 => h9) rfl dX0_set_17 ?_
      refine lv_iload_n hx hb dX0_set_20 rfl (lv_at hl 1 rfl) ?_
      refine zr_bi (n := ((6 : Nat) : Int)) hx hb dX0_set_21 rfl ?_
      refine zr_mulN (x := x) (y := 6) hx hb dX0_set_23 ?_
      refine lv_iload_n hx hb dX0_set_24 rfl (lv_at hl 2 rfl) ?_
      refine zr_addN (x := x * 6) (y := y) hx hb dX0_set_25 ?_
      refine lv_iload_n hx hb dX0_set_26 rfl (lv_at hl 3 rfl) ?_
      refine zr_iast hx hb hK hP hD hS 1 0 rfl rfl ((x * 6) + y) (by omega) (by omega) (by omega) dX0_set_27 (fun H locs hP hD hS => ?_)
      have hP : va_P D vwCl [(B, .inr (0, [.ref C, .int (iI ((n : Nat) : Int))])), (C, zArr cI 36 (uZ b ((x * 6) + y) v))] H := hP
      have hD : va_D A [(B, .inr (0, [.ref C, .int (iI ((n : Nat) : Int))])), (C, zArr cI 36 (uZ b ((x * 6) + y) v))] := hD
      exact zWv_ret hx hb hr hlocks hS dX0_set_28 () trivial hP
set_option maxHeartbeats 4000000 in
set_option maxRecDepth 100000 in
/-- X0_copy -/
theorem c_X0_copy (l : Launch) (D : va_G) (cI : ClassId) (B C n : Nat) (b : Nat → Int) (B2 C2 n2 : Nat) (b2 : Nat → Int)  : zWv (S := Unit) l yX0_copy wsX0_copy 1 30 D cI [.ref B, .ref B2] [(B, .inr (0, [.ref C, .int (iI ((n : Nat) : Int))])), (C, zArr cI 36 b), (B2, .inr (0, [.ref C2, .int (iI ((n2 : Nat) : Int))])), (C2, zArr cI 36 b2)] (fun _ => True) (fun _ => [(B, .inr (0, [.ref C, .int (iI ((n2 : Nat) : Int))])), (C, zArr cI 36 b2), (B2, .inr (0, [.ref C2, .int (iI ((n2 : Nat) : Int))])), (C2, zArr cI 36 b2)]) := by
  refine zWv_of (cc := cX0_copy) (maxL := 2) (by decide) rfl (Nat.le_of_ble_eq_true rfl) ?_
  intro p e s m args below meth c ls A hF hr hlocks hP hK hD hS hl
  have hF : zFix p m c cX0_copy 2 s args wsX0_copy RX0 := hF
  obtain ⟨hx, hb, hml, hown, hts⟩ := id hF
  have hP : va_P D vwCl [(B, .inr (0, [.ref C, .int (iI ((n : Nat) : Int))])), (C, zArr cI 36 b), (B2, .inr (0, [.ref C2, .int (iI ((n2 : Nat) : Int))])), (C2, zArr cI 36 b2)] s.heap := hP
  have hD : va_D A [(B, .inr (0, [.ref C, .int (iI ((n : Nat) : Int))])), (C, zArr cI 36 b), (B2, .inr (0, [.ref C2, .int (iI ((n2 : Nat) : Int))])), (C2, zArr cI 36 b2)] := hD
  skip
  have hl : lv_has ls 2 [(0, .ref B), (1, .ref B2)] := hl
  refine lv_aload_n hx hb dX0_copy_0 rfl (lv_at hl 1 rfl) ?_
  refine va_get (D := D) (ci := 0) (v := .ref C2) (C := RX0) (T := TX0) (N := 2) hx hb hts (by decide +kernel) hown hK hP 2 rfl rfl 0 (by decide) (hts (.fieldLink RX0 9 "RentHarmony$Bids" "coins" "[I") (by decide +kernel)) (fun _ h9 => h9) rfl dX0_copy_1 ?_
  refine zr_ic (n := ((0 : Nat) : Int)) hx hb dX0_copy_4 ?_
  refine lv_aload_n hx hb dX0_copy_5 rfl (lv_at hl 0 rfl) ?_
  refine va_get (D := D) (ci := 0) (v := .ref C) (C := RX0) (T := TX0) (N := 2) hx hb hts (by decide +kernel) hown hK hP 0 rfl rfl 0 (by decide) (hts (.fieldLink RX0 9 "RentHarmony$Bids" "coins" "[I") (by decide +kernel)) (fun _ h9 => h9) rfl dX0_copy_6 ?_
  refine zr_ic (n := ((0 : Nat) : Int)) hx hb dX0_copy_9 ?_
  refine lv_aload_n hx hb dX0_copy_10 rfl (lv_at hl 0 rfl) ?_
  refine va_get (D := D) (ci := 0) (v := .ref C) (C := RX0) (T := TX0) (N := 2) hx hb hts (by decide +kernel) hown hK hP 0 rfl rfl 0 (by decide) (hts (.fieldLink RX0 9 "RentHarmony$Bids" "coins" "[I") (by decide +kernel)) (fun _ h9 => h9) rfl dX0_copy_11 ?_
  refine zr_alen hx hb hK hP 1 0 rfl rfl dX0_copy_14 ?_
  refine zr_copy (rest := []) hx hb (hml.trans hl.1.symm) hown (hts (.methodLink RX0 23 arraycopyName) (by decide +kernel)) (hts (.native arraycopyName) (by decide +kernel)) (hts (.static arraycopyName) (by decide +kernel)) (hts (.initialized "java/lang/System") (by decide +kernel)) hK hP hD hS 3 1 0 rfl rfl rfl (36) (by omega) (by omega) (by omega) (by decide) (Nat.le_of_ble_eq_true rfl) (by decide +kernel) dX0_copy_15 (fun H locs hP hD hS => ?_)
  have hP : va_P D vwCl [(B, .inr (0, [.ref C, .int (iI ((n : Nat) : Int))])), (C, zArr cI 36 (zCpy b2 b (36))), (B2, .inr (0, [.ref C2, .int (iI ((n2 : Nat) : Int))])), (C2, zArr cI 36 b2)] H := hP
  have hD : va_D A [(B, .inr (0, [.ref C, .int (iI ((n : Nat) : Int))])), (C, zArr cI 36 (zCpy b2 b (36))), (B2, .inr (0, [.ref C2, .int (iI ((n2 : Nat) : Int))])), (C2, zArr cI 36 b2)] := hD
  refine lv_aload_n hx hb dX0_copy_18 rfl (lv_at hl 0 rfl) ?_
  refine lv_aload_n hx hb dX0_copy_19 rfl (lv_at hl 1 rfl) ?_
  refine va_get (D := D) (ci := 0) (v := .int (iI ((n2 : Nat) : Int))) (C := RX0) (T := TX0) (N := 2) hx hb hts (by decide +kernel) hown hK hP 2 rfl rfl 1 (by decide) (hts (.fieldLink RX0 15 "RentHarmony$Bids" "size" "I") (by decide +kernel)) (fun _ h9 => h9) rfl dX0_copy_20 ?_
  refine va_put (D := D) (ci := 0) (v := .int (iI ((n2 : Nat) : Int))) (ty := .int) (C := RX0) (T := TX0) (N := 2) hx hb hts (by decide +kernel) tyX0 tyX0_ok nmX0 hown hK hP hD hS 0 rfl rfl 1 (by decide) (hts (.fieldLink RX0 15 "RentHarmony$Bids" "size" "I") (by decide +kernel)) (fun _ h9 => h9) rfl (by decide +kernel) rfl rfl (Nat.le_of_ble_eq_true rfl) dX0_copy_23 (fun H locs hP hD hS => ?_)
  have hP : va_P D vwCl [(B, .inr (0, [.ref C, .int (iI ((n2 : Nat) : Int))])), (C, zArr cI 36 (zCpy b2 b (36))), (B2, .inr (0, [.ref C2, .int (iI ((n2 : Nat) : Int))])), (C2, zArr cI 36 b2)] H := hP
  have hD : va_D A [(B, .inr (0, [.ref C, .int (iI ((n2 : Nat) : Int))])), (C, zArr cI 36 (zCpy b2 b (36))), (B2, .inr (0, [.ref C2, .int (iI ((n2 : Nat) : Int))])), (C2, zArr cI 36 b2)] := hD
  have hP : va_P D vwCl [(B, .inr (0, [.ref C, .int (iI ((n2 : Nat) : Int))])), (C, zArr cI 36 b2), (B2, .inr (0, [.ref C2, .int (iI ((n2 : Nat) : Int))])), (C2, zArr cI 36 b2)] H := z_ext hP 1 rfl (fun j hj => by unfold zCpy; rw [if_pos hj])
  exact zWv_ret hx hb hr hlocks hS dX0_copy_26 () trivial hP
set_option maxHeartbeats 4000000 in
set_option maxRecDepth 100000 in
/-- X0_grow -/
theorem c_X0_grow (l : Launch) (D : va_G) (cI : ClassId) (B C n : Nat) (b : Nat → Int) (hn : n < 6) : zWv (S := Unit) l yX0_grow wsX0_grow 2 44 D cI [.ref B] [(B, .inr (0, [.ref C, .int (iI ((n : Nat) : Int))])), (C, zArr cI 36 b)] (fun _ => True) (fun _ => [(B, .inr (0, [.ref C, .int (iI ((n + 1 : Nat) : Int))])), (C, zArr cI 36 (zGr b n (n + 1)))]) := by
  refine zWv_of (cc := cX0_grow) (maxL := 2) (by decide) rfl (Nat.le_of_ble_eq_true rfl) ?_
  intro p e s m args below meth c ls A hF hr hlocks hP hK hD hS hl
  have hF : zFix p m c cX0_grow 2 s args wsX0_grow RX0 := hF
  obtain ⟨hx, hb, hml, hown, hts⟩ := id hF
  have hP : va_P D vwCl [(B, .inr (0, [.ref C, .int (iI ((n : Nat) : Int))])), (C, zArr cI 36 b)] s.heap := hP
  have hD : va_D A [(B, .inr (0, [.ref C, .int (iI ((n : Nat) : Int))])), (C, zArr cI 36 b)] := hD
  skip
  have hl : lv_has ls 2 [(0, .ref B)] := hl
  refine lv_aload_n hx hb dX0_grow_0 rfl (lv_at hl 0 rfl) ?_
  refine va_get (D := D) (ci := 0) (v := .int (iI ((n : Nat) : Int))) (C := RX0) (T := TX0) (N := 2) hx hb hts (by decide +kernel) hown hK hP 0 rfl rfl 1 (by decide) (hts (.fieldLink RX0 15 "RentHarmony$Bids" "size" "I") (by decide +kernel)) (fun _ h9 => h9) rfl dX0_grow_1 ?_
  refine zr_bi (n := ((6 : Nat) : Int)) hx hb dX0_grow_4 rfl ?_
  refine zr_icmp_lt (tgt := 10) hx hb dX0_grow_6 (by decide) (zB_of (by omega) (by omega)) (zB_of (by omega) (by omega)) (fun c1 => ?_) (fun c1 => ?_)
  · refine lv_aload_n hx hb dX0_grow_10 rfl (lv_at hl 0 rfl) ?_
    refine lv_dup hx hb dX0_grow_11 rfl ?_
    refine va_get (D := D) (ci := 0) (v := .int (iI ((n : Nat) : Int))) (C := RX0) (T := TX0) (N := 2) hx hb hts (by decide +kernel) hown hK hP 0 rfl rfl 1 (by decide) (hts (.fieldLink RX0 15 "RentHarmony$Bids" "size" "I") (by decide +kernel)) (fun _ h9 => h9) rfl dX0_grow_12 ?_
    refine zr_ic (n := ((1 : Nat) : Int)) hx hb dX0_grow_15 ?_
    refine zr_addN (x := n) (y := 1) hx hb dX0_grow_16 ?_
    refine zr_topi (show ((n + 1 : Nat) : Int) = ((n + 1 : Nat) : Int) from (by omega)) ?_
    refine va_put (D := D) (ci := 0) (v := .int (iI ((n + 1 : Nat) : Int))) (ty := .int) (C := RX0) (T := TX0) (N := 2) hx hb hts (by decide +kernel) tyX0 tyX0_ok nmX0 hown hK hP hD hS 0 rfl rfl 1 (by decide) (hts (.fieldLink RX0 15 "RentHarmony$Bids" "size" "I") (by decide +kernel)) (fun _ h9 => h9) rfl (by decide +kernel) rfl rfl (Nat.le_of_ble_eq_true rfl) dX0_grow_17 (fun H locs hP hD hS => ?_)
    have hP : va_P D vwCl [(B, .inr (0, [.ref C, .int (iI ((n + 1 : Nat) : Int))])), (C, zArr cI 36 b)] H := hP
    have hD : va_D A [(B, .inr (0, [.ref C, .int (iI ((n + 1 : Nat) : Int))])), (C, zArr cI 36 b)] := hD
    refine zr_ic (n := ((0 : Nat) : Int)) hx hb dX0_grow_20 ?_
    refine lv_istore_n (lv' := [(1, .int (iI ((0 : Nat) : Int))), (0, .ref B)]) hx hb dX0_grow_21 rfl hl (by decide) rfl (fun ls hl => ?_)
    have LG : ∀ (k0 : Nat) (i : Nat), n + 1 - i < k0 → (hi : i ≤ n + 1) → ∀ (H : Heap) (locs : List Loc), va_P D vwCl [(B, .inr (0, [.ref C, .int (iI ((n + 1 : Nat) : Int))])), (C, zArr cI 36 (zGr b n i))] H → va_D A [(B, .inr (0, [.ref C, .int (iI ((n + 1 : Nat) : Int))])), (C, zArr cI 36 (zGr b n i))] → va_S A s.heap H locs → ∀ (ls : Array Slot), lv_has ls 2 [(0, .ref B), (1, .int (iI ((i : Nat) : Int)))] → W p l e (zRm 2 44) s m args below meth c H locs 0 0 (MQ below (va_Qv (S := Unit) (fun _ => True) (fun u t => va_P D vwCl ((fun _ => [(B, .inr (0, [.ref C, .int (iI ((n + 1 : Nat) : Int))])), (C, zArr cI 36 (zGr b n (n + 1)))]) u) t.heap) A) args s 0 0 A) (F0 m 22 ls []) := by
      intro k0
      induction k0 with
      | zero => intro i hk; exact absurd hk (Nat.not_lt_zero _)
      | succ k0 ih_LG =>
        intro i hk hi H locs hP hD hS ls hl
        refine lv_iload_n hx hb dX0_grow_22 rfl (lv_at hl 1 rfl) ?_
        refine lv_aload_n hx hb dX0_grow_23 rfl (lv_at hl 0 rfl) ?_
        refine va_get (D := D) (ci := 0) (v := .int (iI ((n + 1 : Nat) : Int))) (C := RX0) (T := TX0) (N := 2) hx hb hts (by decide +kernel) hown hK hP 0 rfl rfl 1 (by decide) (hts (.fieldLink RX0 15 "RentHarmony$Bids" "size" "I") (by decide +kernel)) (fun _ h9 => h9) rfl dX0_grow_24 ?_
        refine zr_icmp_ge (tgt := 60) hx hb dX0_grow_27 (by decide) (zB_of (by omega) (by omega)) (zB_of (by omega) (by omega)) (fun c2 => ?_) (fun c2 => ?_)
        · have e9 : i = n + 1 := by omega
          subst e9
          exact zWv_ret hx hb hr hlocks hS dX0_grow_60 () trivial hP
        · refine lv_aload_n hx hb dX0_grow_30 rfl (lv_at hl 0 rfl) ?_
          refine lv_aload_n hx hb dX0_grow_31 rfl (lv_at hl 0 rfl) ?_
          refine va_get (D := D) (ci := 0) (v := .int (iI ((n + 1 : Nat) : Int))) (C := RX0) (T := TX0) (N := 2) hx hb hts (by decide +kernel) hown hK hP 0 rfl rfl 1 (by decide) (hts (.fieldLink RX0 15 "RentHarmony$Bids" "size" "I") (by decide +kernel)) (fun _ h9 => h9) rfl dX0_grow_32 ?_
          refine zr_ic (n := ((1 : Nat) : Int)) hx hb dX0_grow_35 ?_
          refine zr_sub hx hb dX0_grow_36 ?_
          refine zr_topi (show (((n + 1 : Nat) : Int) - ((1 : Nat) : Int)) = ((n : Nat) : Int) from (by omega)) ?_
          refine lv_iload_n hx hb dX0_grow_37 rfl (lv_at hl 1 rfl) ?_
          refine zr_ic (n := ((0 : Nat) : Int)) hx hb dX0_grow_38 ?_
          refine zc_wv (As := [.int (iI ((n : Nat) : Int)), .int (iI ((i : Nat) : Int)), .int (iI ((0 : Nat) : Int))]) (rest := []) hF (c_X0_set l D cI B C (n + 1) (zGr b n i) n i ((0 : Nat) : Int) (by omega) (by omega) (by omega)) (cwV 3 hts gX0_grow_X0_set rfl rfl rfl (by decide +kernel) ⟨Nat.le_of_ble_eq_true rfl, Nat.le_of_ble_eq_true rfl⟩) hK hP hD hS [0, 1] rfl rfl (fun _ => rfl) 0 rfl 0 rfl rfl rfl rfl hl.1 rfl (Nat.le_of_ble_eq_true rfl) dX0_grow_39 ⟨Nat.zero_le _, Nat.zero_le _⟩ (fun u3 H locs hw hP hD hS => ?_)
          have hP : va_P D vwCl [(B, .inr (0, [.ref C, .int (iI ((n + 1 : Nat) : Int))])), (C, zArr cI 36 (uZ (zGr b n i) (n * 6 + i) ((0 : Nat) : Int)))] H := hP
          have hD : va_D A [(B, .inr (0, [.ref C, .int (iI ((n + 1 : Nat) : Int))])), (C, zArr cI 36 (uZ (zGr b n i) (n * 6 + i) ((0 : Nat) : Int)))] := hD
          refine lv_aload_n hx hb dX0_grow_42 rfl (lv_at hl 0 rfl) ?_
          refine lv_iload_n hx hb dX0_grow_43 rfl (lv_at hl 1 rfl) ?_
          refine lv_aload_n hx hb dX0_grow_44 rfl (lv_at hl 0 rfl) ?_
          refine va_get (D := D) (ci := 0) (v := .int (iI ((n + 1 : Nat) : Int))) (C := RX0) (T := TX0) (N := 2) hx hb hts (by decide +kernel) hown hK hP 0 rfl rfl 1 (by decide) (hts (.fieldLink RX0 15 "RentHarmony$Bids" "size" "I") (by decide +kernel)) (fun _ h9 => h9) rfl dX0_grow_45 ?_
          refine zr_ic (n := ((1 : Nat) : Int)) hx hb dX0_grow_48 ?_
          refine zr_sub hx hb dX0_grow_49 ?_
          refine zr_topi (show (((n + 1 : Nat) : Int) - ((1 : Nat) : Int)) = ((n : Nat) : Int) from (by omega)) ?_
          refine zr_ic (n := ((0 : Nat) : Int)) hx hb dX0_grow_50 ?_
          refine zc_wv (As := [.int (iI ((i : Nat) : Int)), .int (iI ((n : Nat) : Int)), .int (iI ((0 : Nat) : Int))]) (rest := []) hF (c_X0_set l D cI B C (n + 1) (uZ (zGr b n i) (n * 6 + i) ((0 : Nat) : Int)) i n ((0 : Nat) : Int) (by omega) (by omega) (by omega)) (cwV 3 hts gX0_grow_X0_set rfl rfl rfl (by decide +kernel) ⟨Nat.le_of_ble_eq_true rfl, Nat.le_of_ble_eq_true rfl⟩) hK hP hD hS [0, 1] rfl rfl (fun _ => rfl) 0 rfl 0 rfl rfl rfl rfl hl.1 rfl (Nat.le_of_ble_eq_true rfl) dX0_grow_51 ⟨Nat.zero_le _, Nat.zero_le _⟩ (fun u5 H locs hw hP hD hS => ?_)
          have hP : va_P D vwCl [(B, .inr (0, [.ref C, .int (iI ((n + 1 : Nat) : Int))])), (C, zArr cI 36 (uZ (uZ (zGr b n i) (n * 6 + i) ((0 : Nat) : Int)) (i * 6 + n) ((0 : Nat) : Int)))] H := hP
          have hD : va_D A [(B, .inr (0, [.ref C, .int (iI ((n + 1 : Nat) : Int))])), (C, zArr cI 36 (uZ (uZ (zGr b n i) (n * 6 + i) ((0 : Nat) : Int)) (i * 6 + n) ((0 : Nat) : Int)))] := hD
          refine zr_iinc (lv2 := [(1, .int (iI (((i : Nat) : Int) + 1))), (0, .ref B)]) hx hb dX0_grow_54 hl (k0 := 1) rfl (by decide) rfl (fun ls hl => ?_)
          have hl : lv_has ls 2 [(1, .int (iI ((i + 1 : Nat) : Int))), (0, .ref B)] := hl
          refine lv_goto (tgt := 22) hx hb dX0_grow_57 (by decide) ?_
          exact ih_LG (i + 1) (by omega) (by omega) _ _ hP hD hS _ (lv_sub hl [1, 0] rfl)
    exact LG ((n + 1 - (0)) + 1) (0) (Nat.lt_succ_self _) (by omega) _ _ hP hD hS _ (lv_sub hl [1, 0] rfl)
  · exact absurd c1 (by omega)
set_option maxHeartbeats 4000000 in
set_option maxRecDepth 100000 in
/-- X0_shrink -/
theorem c_X0_shrink (l : Launch) (D : va_G) (cI : ClassId) (B C n : Nat) (b : Nat → Int) (x y : Nat) (hn : n ≤ 6) (hx0 : x < n) (hy0 : y < n) : zWv (S := Unit) l yX0_shrink wsX0_shrink 2 44 D cI [.ref B, .int (iI ((x : Nat) : Int)), .int (iI ((y : Nat) : Int))] [(B, .inr (0, [.ref C, .int (iI ((n : Nat) : Int))])), (C, zArr cI 36 b)] (fun _ => True) (fun _ => [(B, .inr (0, [.ref C, .int (iI ((n - 1 : Nat) : Int))])), (C, zArr cI 36 (zSh x y (n - 1) b (n - 1)))]) := by
  refine zWv_of (cc := cX0_shrink) (maxL := 5) (by decide) rfl (Nat.le_of_ble_eq_true rfl) ?_
  intro p e s m args below meth c ls A hF hr hlocks hP hK hD hS hl
  have hF : zFix p m c cX0_shrink 5 s args wsX0_shrink RX0 := hF
  obtain ⟨hx, hb, hml, hown, hts⟩ := id hF
  have hP : va_P D vwCl [(B, .inr (0, [.ref C, .int (iI ((n : Nat) : Int))])), (C, zArr cI 36 b)] s.heap := hP
  have hD : va_D A [(B, .inr (0, [.ref C, .int (iI ((n : Nat) : Int))])), (C, zArr cI 36 b)] := hD
  skip
  have hl : lv_has ls 5 [(0, .ref B), (1, .int (iI ((x : Nat) : Int))), (2, .int (iI ((y : Nat) : Int)))] := hl
  refine lv_aload_n hx hb dX0_shrink_0 rfl (lv_at hl 0 rfl) ?_
  refine lv_iload_n hx hb dX0_shrink_1 rfl (lv_at hl 1 rfl) ?_
  refine zc_ri (As := [.int (iI ((x : Nat) : Int))]) (rest := []) hF (c_X0_has l D cI B C n b ((x : Nat) : Int) (by omega) (zB_of (by omega) (by omega))) (cwV 1 hts gX0_shrink_X0_has rfl rfl rfl (by decide +kernel) ⟨Nat.le_of_ble_eq_true rfl, Nat.le_of_ble_eq_true rfl⟩) hK hP [0, 1] rfl 0 rfl 0 rfl rfl rfl rfl hl.1 rfl (Nat.le_of_ble_eq_true rfl) dX0_shrink_2 ⟨Nat.zero_le _, Nat.zero_le _⟩ ?_
  refine zr_ifB_eq (tgt := 16) hx hb dX0_shrink_5 (by decide)  (fun c1 => ?_) (fun c1 => ?_)
  · exact absurd (by omega) c1
  · refine lv_aload_n hx hb dX0_shrink_8 rfl (lv_at hl 0 rfl) ?_
    refine lv_iload_n hx hb dX0_shrink_9 rfl (lv_at hl 2 rfl) ?_
    refine zc_ri (As := [.int (iI ((y : Nat) : Int))]) (rest := []) hF (c_X0_has l D cI B C n b ((y : Nat) : Int) (by omega) (zB_of (by omega) (by omega))) (cwV 1 hts gX0_shrink_X0_has rfl rfl rfl (by decide +kernel) ⟨Nat.le_of_ble_eq_true rfl, Nat.le_of_ble_eq_true rfl⟩) hK hP [0, 1] rfl 0 rfl 0 rfl rfl rfl rfl hl.1 rfl (Nat.le_of_ble_eq_true rfl) dX0_shrink_10 ⟨Nat.zero_le _, Nat.zero_le _⟩ ?_
    refine zr_ifB_ne (tgt := 17) hx hb dX0_shrink_13 (by decide)  (fun c2 => ?_) (fun c2 => ?_)
    · refine zr_ic (n := ((0 : Nat) : Int)) hx hb dX0_shrink_17 ?_
      refine lv_istore_n (lv' := [(3, .int (iI ((0 : Nat) : Int))), (0, .ref B), (1, .int (iI ((x : Nat) : Int))), (2, .int (iI ((y : Nat) : Int)))]) hx hb dX0_shrink_18 rfl hl (by decide) rfl (fun ls hl => ?_)
      have LO : ∀ (k0 : Nat) (k : Nat), n - 1 - k < k0 → (hk1 : k ≤ n - 1) → ∀ (H : Heap) (locs : List Loc), va_P D vwCl [(B, .inr (0, [.ref C, .int (iI ((n : Nat) : Int))])), (C, zArr cI 36 (zSh x y (n - 1) b k))] H → va_D A [(B, .inr (0, [.ref C, .int (iI ((n : Nat) : Int))])), (C, zArr cI 36 (zSh x y (n - 1) b k))] → va_S A s.heap H locs → ∀ (ls : Array Slot), lv_has ls 5 [(0, .ref B), (1, .int (iI ((x : Nat) : Int))), (2, .int (iI ((y : Nat) : Int))), (3, .int (iI ((k : Nat) : Int)))] → W p l e (zRm 2 44) s m args below meth c H locs 0 0 (MQ below (va_Qv (S := Unit) (fun _ => True) (fun u t => va_P D vwCl ((fun _ => [(B, .inr (0, [.ref C, .int (iI ((n - 1 : Nat) : Int))])), (C, zArr cI 36 (zSh x y (n - 1) b (n - 1)))]) u) t.heap) A) args s 0 0 A) (F0 m 19 ls []) := by
        intro k0
        induction k0 with
        | zero => intro k hk; exact absurd hk (Nat.not_lt_zero _)
        | succ k0 ih_LO =>
          intro k hk hk1 H locs hP hD hS ls hl
          refine lv_iload_n hx hb dX0_shrink_19 rfl (lv_at hl 3 rfl) ?_
          refine lv_aload_n hx hb dX0_shrink_20 rfl (lv_at hl 0 rfl) ?_
          refine va_get (D := D) (ci := 0) (v := .int (iI ((n : Nat) : Int))) (C := RX0) (T := TX0) (N := 2) hx hb hts (by decide +kernel) hown hK hP 0 rfl rfl 1 (by decide) (hts (.fieldLink RX0 15 "RentHarmony$Bids" "size" "I") (by decide +kernel)) (fun _ h9 => h9) rfl dX0_shrink_21 ?_
          refine zr_ic (n := ((1 : Nat) : Int)) hx hb dX0_shrink_24 ?_
          refine zr_sub hx hb dX0_shrink_25 ?_
          refine zr_icmp_ge (tgt := 93) hx hb dX0_shrink_26 (by decide) (zB_of (by omega) (by omega)) (zB_of (by omega) (by omega)) (fun c3 => ?_) (fun c3 => ?_)
          · refine lv_aload_n hx hb dX0_shrink_93 rfl (lv_at hl 0 rfl) ?_
            refine lv_dup hx hb dX0_shrink_94 rfl ?_
            refine va_get (D := D) (ci := 0) (v := .int (iI ((n : Nat) : Int))) (C := RX0) (T := TX0) (N := 2) hx hb hts (by decide +kernel) hown hK hP 0 rfl rfl 1 (by decide) (hts (.fieldLink RX0 15 "RentHarmony$Bids" "size" "I") (by decide +kernel)) (fun _ h9 => h9) rfl dX0_shrink_95 ?_
            refine zr_ic (n := ((1 : Nat) : Int)) hx hb dX0_shrink_98 ?_
            refine zr_sub hx hb dX0_shrink_99 ?_
            refine zr_topi (show (((n : Nat) : Int) - ((1 : Nat) : Int)) = ((n - 1 : Nat) : Int) from (by omega)) ?_
            refine va_put (D := D) (ci := 0) (v := .int (iI ((n - 1 : Nat) : Int))) (ty := .int) (C := RX0) (T := TX0) (N := 2) hx hb hts (by decide +kernel) tyX0 tyX0_ok nmX0 hown hK hP hD hS 0 rfl rfl 1 (by decide) (hts (.fieldLink RX0 15 "RentHarmony$Bids" "size" "I") (by decide +kernel)) (fun _ h9 => h9) rfl (by decide +kernel) rfl rfl (Nat.le_of_ble_eq_true rfl) dX0_shrink_100 (fun H locs hP hD hS => ?_)
            have hP : va_P D vwCl [(B, .inr (0, [.ref C, .int (iI ((n - 1 : Nat) : Int))])), (C, zArr cI 36 (zSh x y (n - 1) b k))] H := hP
            have hD : va_D A [(B, .inr (0, [.ref C, .int (iI ((n - 1 : Nat) : Int))])), (C, zArr cI 36 (zSh x y (n - 1) b k))] := hD
            have e9 : k = n - 1 := by omega
            subst e9
            exact zWv_ret hx hb hr hlocks hS dX0_shrink_103 () trivial hP
          · refine zr_ic (n := ((0 : Nat) : Int)) hx hb dX0_shrink_29 ?_
            refine lv_istore (lv' := [(4, .int (iI ((0 : Nat) : Int))), (0, .ref B), (1, .int (iI ((x : Nat) : Int))), (2, .int (iI ((y : Nat) : Int))), (3, .int (iI ((k : Nat) : Int)))]) hx hb dX0_shrink_30 hl (by decide) rfl (fun ls hl => ?_)
            have LI : ∀ (k0 : Nat) (r : Nat), n - 1 - r < k0 → (hr1 : r ≤ n - 1) → ∀ (H : Heap) (locs : List Loc), va_P D vwCl [(B, .inr (0, [.ref C, .int (iI ((n : Nat) : Int))])), (C, zArr cI 36 (zSh1 x y k (zSh x y (n - 1) b k) r))] H → va_D A [(B, .inr (0, [.ref C, .int (iI ((n : Nat) : Int))])), (C, zArr cI 36 (zSh1 x y k (zSh x y (n - 1) b k) r))] → va_S A s.heap H locs → ∀ (ls : Array Slot), lv_has ls 5 [(0, .ref B), (1, .int (iI ((x : Nat) : Int))), (2, .int (iI ((y : Nat) : Int))), (3, .int (iI ((k : Nat) : Int))), (4, .int (iI ((r : Nat) : Int)))] → W p l e (zRm 2 44) s m args below meth c H locs 0 0 (MQ below (va_Qv (S := Unit) (fun _ => True) (fun u t => va_P D vwCl ((fun _ => [(B, .inr (0, [.ref C, .int (iI ((n - 1 : Nat) : Int))])), (C, zArr cI 36 (zSh x y (n - 1) b (n - 1)))]) u) t.heap) A) args s 0 0 A) (F0 m 32 ls []) := by
              intro k0
              induction k0 with
              | zero => intro r hk; exact absurd hk (Nat.not_lt_zero _)
              | succ k0 ih_LI =>
                intro r hk hr1 H locs hP hD hS ls hl
                refine lv_iload hx hb dX0_shrink_32 (lv_at hl 4 rfl) ?_
                refine lv_aload_n hx hb dX0_shrink_34 rfl (lv_at hl 0 rfl) ?_
                refine va_get (D := D) (ci := 0) (v := .int (iI ((n : Nat) : Int))) (C := RX0) (T := TX0) (N := 2) hx hb hts (by decide +kernel) hown hK hP 0 rfl rfl 1 (by decide) (hts (.fieldLink RX0 15 "RentHarmony$Bids" "size" "I") (by decide +kernel)) (fun _ h9 => h9) rfl dX0_shrink_35 ?_
                refine zr_ic (n := ((1 : Nat) : Int)) hx hb dX0_shrink_38 ?_
                refine zr_sub hx hb dX0_shrink_39 ?_
                refine zr_icmp_ge (tgt := 87) hx hb dX0_shrink_40 (by decide) (zB_of (by omega) (by omega)) (zB_of (by omega) (by omega)) (fun c4 => ?_) (fun c4 => ?_)
                · have e8 : r = n - 1 := by omega
                  have hP : va_P D vwCl [(B, .inr (0, [.ref C, .int (iI ((n : Nat) : Int))])), (C, zArr cI 36 (zSh x y (n - 1) b (k + 1)))] H := by rw [e8] at hP; exact hP
                  have hD : va_D A [(B, .inr (0, [.ref C, .int (iI ((n : Nat) : Int))])), (C, zArr cI 36 (zSh x y (n - 1) b (k + 1)))] := by rw [e8] at hD; exact hD
                  refine zr_iinc (lv2 := [(3, .int (iI (((k : Nat) : Int) + 1))), (0, .ref B), (1, .int (iI ((x : Nat) : Int))), (2, .int (iI ((y : Nat) : Int))), (4, .int (iI ((r : Nat) : Int)))]) hx hb dX0_shrink_87 hl (k0 := 3) rfl (by decide) rfl (fun ls hl => ?_)
                  have hl : lv_has ls 5 [(3, .int (iI ((k + 1 : Nat) : Int))), (0, .ref B), (1, .int (iI ((x : Nat) : Int))), (2, .int (iI ((y : Nat) : Int))), (4, .int (iI ((r : Nat) : Int)))] := hl
                  refine lv_goto (tgt := 19) hx hb dX0_shrink_90 (by decide) ?_
                  exact ih_LO (k + 1) (by omega) (by omega) _ _ hP hD hS _ (lv_sub hl [1, 2, 3, 0] rfl)
                · refine lv_aload_n hx hb dX0_shrink_43 rfl (lv_at hl 0 rfl) ?_
                  refine lv_iload_n hx hb dX0_shrink_44 rfl (lv_at hl 3 rfl) ?_
                  refine lv_iload hx hb dX0_shrink_45 (lv_at hl 4 rfl) ?_
                  refine lv_aload_n hx hb dX0_shrink_47 rfl (lv_at hl 0 rfl) ?_
                  refine lv_iload_n hx hb dX0_shrink_48 rfl (lv_at hl 3 rfl) ?_
                  refine lv_iload_n hx hb dX0_shrink_49 rfl (lv_at hl 1 rfl) ?_
                  refine zr_icmp_ge (tgt := 57) hx hb dX0_shrink_50 (by decide) (zB_of (by omega) (by omega)) (zB_of (by omega) (by omega)) (fun c5 => ?_) (fun c5 => ?_)
                  · refine lv_iload_n hx hb dX0_shrink_57 rfl (lv_at hl 3 rfl) ?_
                    refine zr_ic (n := ((1 : Nat) : Int)) hx hb dX0_shrink_58 ?_
                    refine zr_addN (x := k) (y := 1) hx hb dX0_shrink_59 ?_
                    refine lv_iload hx hb dX0_shrink_60 (lv_at hl 4 rfl) ?_
                    refine lv_iload_n hx hb dX0_shrink_62 rfl (lv_at hl 2 rfl) ?_
                    refine zr_icmp_ge (tgt := 71) hx hb dX0_shrink_63 (by decide) (zB_of (by omega) (by omega)) (zB_of (by omega) (by omega)) (fun c6 => ?_) (fun c6 => ?_)
                    · refine lv_iload hx hb dX0_shrink_71 (lv_at hl 4 rfl) ?_
                      refine zr_ic (n := ((1 : Nat) : Int)) hx hb dX0_shrink_73 ?_
                      refine zr_addN (x := r) (y := 1) hx hb dX0_shrink_74 ?_
                      refine zc_ri (As := [.int (iI ((k + 1 : Nat) : Int)), .int (iI ((r + 1 : Nat) : Int))]) (rest := [.int (iI ((r : Nat) : Int)), .int (iI ((k : Nat) : Int)), .ref B]) hF (c_X0_of l D cI B C n (zSh1 x y k (zSh x y (n - 1) b k) r) (k + 1) (r + 1) (by omega) (by omega) (by omega)) (cwV 2 hts gX0_shrink_X0_of rfl rfl rfl (by decide +kernel) ⟨Nat.le_of_ble_eq_true rfl, Nat.le_of_ble_eq_true rfl⟩) hK hP [0, 1] rfl 0 rfl 0 rfl rfl rfl rfl hl.1 rfl (Nat.le_of_ble_eq_true rfl) dX0_shrink_75 ⟨Nat.zero_le _, Nat.zero_le _⟩ ?_
                      refine zc_wv (As := [.int (iI ((k : Nat) : Int)), .int (iI ((r : Nat) : Int)), .int (iI ((zSh1 x y k (zSh x y (n - 1) b k) r) ((k + 1) * 6 + (r + 1))))]) (rest := []) hF (c_X0_set l D cI B C n (zSh1 x y k (zSh x y (n - 1) b k) r) k r ((zSh1 x y k (zSh x y (n - 1) b k) r) ((k + 1) * 6 + (r + 1))) (by omega) (by omega) (by omega)) (cwV 3 hts gX0_shrink_X0_set rfl rfl rfl (by decide +kernel) ⟨Nat.le_of_ble_eq_true rfl, Nat.le_of_ble_eq_true rfl⟩) hK hP hD hS [0, 1] rfl rfl (fun _ => rfl) 0 rfl 0 rfl rfl rfl rfl hl.1 rfl (Nat.le_of_ble_eq_true rfl) dX0_shrink_78 ⟨Nat.zero_le _, Nat.zero_le _⟩ (fun u7 H locs hw hP hD hS => ?_)
                      have hP : va_P D vwCl [(B, .inr (0, [.ref C, .int (iI ((n : Nat) : Int))])), (C, zArr cI 36 (uZ (zSh1 x y k (zSh x y (n - 1) b k) r) (k * 6 + r) ((zSh1 x y k (zSh x y (n - 1) b k) r) ((k + 1) * 6 + (r + 1)))))] H := hP
                      have hD : va_D A [(B, .inr (0, [.ref C, .int (iI ((n : Nat) : Int))])), (C, zArr cI 36 (uZ (zSh1 x y k (zSh x y (n - 1) b k) r) (k * 6 + r) ((zSh1 x y k (zSh x y (n - 1) b k) r) ((k + 1) * 6 + (r + 1)))))] := hD
                      refine zr_iinc (lv2 := [(4, .int (iI (((r : Nat) : Int) + 1))), (0, .ref B), (1, .int (iI ((x : Nat) : Int))), (2, .int (iI ((y : Nat) : Int))), (3, .int (iI ((k : Nat) : Int)))]) hx hb dX0_shrink_81 hl (k0 := 4) rfl (by decide) rfl (fun ls hl => ?_)
                      have hl : lv_has ls 5 [(4, .int (iI ((r + 1 : Nat) : Int))), (0, .ref B), (1, .int (iI ((x : Nat) : Int))), (2, .int (iI ((y : Nat) : Int))), (3, .int (iI ((k : Nat) : Int)))] := hl
                      refine lv_goto (tgt := 32) hx hb dX0_shrink_84 (by decide) ?_
                      have e1 : (if k < x then k else k + 1) = k + 1 := by split <;> omega
                      have e2 : (if r < y then r else r + 1) = r + 1 := by split <;> omega
                      have e3 : zSh1 x y k (zSh x y (n - 1) b k) (r + 1) = uZ (zSh1 x y k (zSh x y (n - 1) b k) r) (k * 6 + r) (zSh1 x y k (zSh x y (n - 1) b k) r ((k + 1) * 6 + (r + 1))) := by show uZ _ _ _ = _; rw [e1, e2]
                      have hP : va_P D vwCl [(B, .inr (0, [.ref C, .int (iI ((n : Nat) : Int))])), (C, zArr cI 36 (zSh1 x y k (zSh x y (n - 1) b k) (r + 1)))] H := by rw [e3]; exact hP
                      have hD : va_D A [(B, .inr (0, [.ref C, .int (iI ((n : Nat) : Int))])), (C, zArr cI 36 (zSh1 x y k (zSh x y (n - 1) b k) (r + 1)))] := by rw [e3]; exact hD
                      exact ih_LI (r + 1) (by omega) (by omega) _ _ hP hD hS _ (lv_sub hl [1, 2, 3, 4, 0] rfl)
                    · refine lv_iload hx hb dX0_shrink_66 (lv_at hl 4 rfl) ?_
                      refine lv_goto (tgt := 75) hx hb dX0_shrink_68 (by decide) ?_
                      refine zc_ri (As := [.int (iI ((k + 1 : Nat) : Int)), .int (iI ((r : Nat) : Int))]) (rest := [.int (iI ((r : Nat) : Int)), .int (iI ((k : Nat) : Int)), .ref B]) hF (c_X0_of l D cI B C n (zSh1 x y k (zSh x y (n - 1) b k) r) (k + 1) r (by omega) (by omega) (by omega)) (cwV 2 hts gX0_shrink_X0_of rfl rfl rfl (by decide +kernel) ⟨Nat.le_of_ble_eq_true rfl, Nat.le_of_ble_eq_true rfl⟩) hK hP [0, 1] rfl 0 rfl 0 rfl rfl rfl rfl hl.1 rfl (Nat.le_of_ble_eq_true rfl) dX0_shrink_75 ⟨Nat.zero_le _, Nat.zero_le _⟩ ?_
                      refine zc_wv (As := [.int (iI ((k : Nat) : Int)), .int (iI ((r : Nat) : Int)), .int (iI ((zSh1 x y k (zSh x y (n - 1) b k) r) ((k + 1) * 6 + r)))]) (rest := []) hF (c_X0_set l D cI B C n (zSh1 x y k (zSh x y (n - 1) b k) r) k r ((zSh1 x y k (zSh x y (n - 1) b k) r) ((k + 1) * 6 + r)) (by omega) (by omega) (by omega)) (cwV 3 hts gX0_shrink_X0_set rfl rfl rfl (by decide +kernel) ⟨Nat.le_of_ble_eq_true rfl, Nat.le_of_ble_eq_true rfl⟩) hK hP hD hS [0, 1] rfl rfl (fun _ => rfl) 0 rfl 0 rfl rfl rfl rfl hl.1 rfl (Nat.le_of_ble_eq_true rfl) dX0_shrink_78 ⟨Nat.zero_le _, Nat.zero_le _⟩ (fun u9 H locs hw hP hD hS => ?_)
                      have hP : va_P D vwCl [(B, .inr (0, [.ref C, .int (iI ((n : Nat) : Int))])), (C, zArr cI 36 (uZ (zSh1 x y k (zSh x y (n - 1) b k) r) (k * 6 + r) ((zSh1 x y k (zSh x y (n - 1) b k) r) ((k + 1) * 6 + r))))] H := hP
                      have hD : va_D A [(B, .inr (0, [.ref C, .int (iI ((n : Nat) : Int))])), (C, zArr cI 36 (uZ (zSh1 x y k (zSh x y (n - 1) b k) r) (k * 6 + r) ((zSh1 x y k (zSh x y (n - 1) b k) r) ((k + 1) * 6 + r))))] := hD
                      refine zr_iinc (lv2 := [(4, .int (iI (((r : Nat) : Int) + 1))), (0, .ref B), (1, .int (iI ((x : Nat) : Int))), (2, .int (iI ((y : Nat) : Int))), (3, .int (iI ((k : Nat) : Int)))]) hx hb dX0_shrink_81 hl (k0 := 4) rfl (by decide) rfl (fun ls hl => ?_)
                      have hl : lv_has ls 5 [(4, .int (iI ((r + 1 : Nat) : Int))), (0, .ref B), (1, .int (iI ((x : Nat) : Int))), (2, .int (iI ((y : Nat) : Int))), (3, .int (iI ((k : Nat) : Int)))] := hl
                      refine lv_goto (tgt := 32) hx hb dX0_shrink_84 (by decide) ?_
                      have e1 : (if k < x then k else k + 1) = k + 1 := by split <;> omega
                      have e2 : (if r < y then r else r + 1) = r := by split <;> omega
                      have e3 : zSh1 x y k (zSh x y (n - 1) b k) (r + 1) = uZ (zSh1 x y k (zSh x y (n - 1) b k) r) (k * 6 + r) (zSh1 x y k (zSh x y (n - 1) b k) r ((k + 1) * 6 + (r))) := by show uZ _ _ _ = _; rw [e1, e2]
                      have hP : va_P D vwCl [(B, .inr (0, [.ref C, .int (iI ((n : Nat) : Int))])), (C, zArr cI 36 (zSh1 x y k (zSh x y (n - 1) b k) (r + 1)))] H := by rw [e3]; exact hP
                      have hD : va_D A [(B, .inr (0, [.ref C, .int (iI ((n : Nat) : Int))])), (C, zArr cI 36 (zSh1 x y k (zSh x y (n - 1) b k) (r + 1)))] := by rw [e3]; exact hD
                      exact ih_LI (r + 1) (by omega) (by omega) _ _ hP hD hS _ (lv_sub hl [1, 2, 3, 4, 0] rfl)
                  · refine lv_iload_n hx hb dX0_shrink_53 rfl (lv_at hl 3 rfl) ?_
                    refine lv_goto (tgt := 60) hx hb dX0_shrink_54 (by decide) ?_
                    refine lv_iload hx hb dX0_shrink_60 (lv_at hl 4 rfl) ?_
                    refine lv_iload_n hx hb dX0_shrink_62 rfl (lv_at hl 2 rfl) ?_
                    refine zr_icmp_ge (tgt := 71) hx hb dX0_shrink_63 (by decide) (zB_of (by omega) (by omega)) (zB_of (by omega) (by omega)) (fun c11 => ?_) (fun c11 => ?_)
                    · refine lv_iload hx hb dX0_shrink_71 (lv_at hl 4 rfl) ?_
                      refine zr_ic (n := ((1 : Nat) : Int)) hx hb dX0_shrink_73 ?_
                      refine zr_addN (x := r) (y := 1) hx hb dX0_shrink_74 ?_
                      refine zc_ri (As := [.int (iI ((k : Nat) : Int)), .int (iI ((r + 1 : Nat) : Int))]) (rest := [.int (iI ((r : Nat) : Int)), .int (iI ((k : Nat) : Int)), .ref B]) hF (c_X0_of l D cI B C n (zSh1 x y k (zSh x y (n - 1) b k) r) k (r + 1) (by omega) (by omega) (by omega)) (cwV 2 hts gX0_shrink_X0_of rfl rfl rfl (by decide +kernel) ⟨Nat.le_of_ble_eq_true rfl, Nat.le_of_ble_eq_true rfl⟩) hK hP [0, 1] rfl 0 rfl 0 rfl rfl rfl rfl hl.1 rfl (Nat.le_of_ble_eq_true rfl) dX0_shrink_75 ⟨Nat.zero_le _, Nat.zero_le _⟩ ?_
                      refine zc_wv (As := [.int (iI ((k : Nat) : Int)), .int (iI ((r : Nat) : Int)), .int (iI ((zSh1 x y k (zSh x y (n - 1) b k) r) (k * 6 + (r + 1))))]) (rest := []) hF (c_X0_set l D cI B C n (zSh1 x y k (zSh x y (n - 1) b k) r) k r ((zSh1 x y k (zSh x y (n - 1) b k) r) (k * 6 + (r + 1))) (by omega) (by omega) (by omega)) (cwV 3 hts gX0_shrink_X0_set rfl rfl rfl (by decide +kernel) ⟨Nat.le_of_ble_eq_true rfl, Nat.le_of_ble_eq_true rfl⟩) hK hP hD hS [0, 1] rfl rfl (fun _ => rfl) 0 rfl 0 rfl rfl rfl rfl hl.1 rfl (Nat.le_of_ble_eq_true rfl) dX0_shrink_78 ⟨Nat.zero_le _, Nat.zero_le _⟩ (fun u12 H locs hw hP hD hS => ?_)
                      have hP : va_P D vwCl [(B, .inr (0, [.ref C, .int (iI ((n : Nat) : Int))])), (C, zArr cI 36 (uZ (zSh1 x y k (zSh x y (n - 1) b k) r) (k * 6 + r) ((zSh1 x y k (zSh x y (n - 1) b k) r) (k * 6 + (r + 1)))))] H := hP
                      have hD : va_D A [(B, .inr (0, [.ref C, .int (iI ((n : Nat) : Int))])), (C, zArr cI 36 (uZ (zSh1 x y k (zSh x y (n - 1) b k) r) (k * 6 + r) ((zSh1 x y k (zSh x y (n - 1) b k) r) (k * 6 + (r + 1)))))] := hD
                      refine zr_iinc (lv2 := [(4, .int (iI (((r : Nat) : Int) + 1))), (0, .ref B), (1, .int (iI ((x : Nat) : Int))), (2, .int (iI ((y : Nat) : Int))), (3, .int (iI ((k : Nat) : Int)))]) hx hb dX0_shrink_81 hl (k0 := 4) rfl (by decide) rfl (fun ls hl => ?_)
                      have hl : lv_has ls 5 [(4, .int (iI ((r + 1 : Nat) : Int))), (0, .ref B), (1, .int (iI ((x : Nat) : Int))), (2, .int (iI ((y : Nat) : Int))), (3, .int (iI ((k : Nat) : Int)))] := hl
                      refine lv_goto (tgt := 32) hx hb dX0_shrink_84 (by decide) ?_
                      have e1 : (if k < x then k else k + 1) = k := by split <;> omega
                      have e2 : (if r < y then r else r + 1) = r + 1 := by split <;> omega
                      have e3 : zSh1 x y k (zSh x y (n - 1) b k) (r + 1) = uZ (zSh1 x y k (zSh x y (n - 1) b k) r) (k * 6 + r) (zSh1 x y k (zSh x y (n - 1) b k) r ((k) * 6 + (r + 1))) := by show uZ _ _ _ = _; rw [e1, e2]
                      have hP : va_P D vwCl [(B, .inr (0, [.ref C, .int (iI ((n : Nat) : Int))])), (C, zArr cI 36 (zSh1 x y k (zSh x y (n - 1) b k) (r + 1)))] H := by rw [e3]; exact hP
                      have hD : va_D A [(B, .inr (0, [.ref C, .int (iI ((n : Nat) : Int))])), (C, zArr cI 36 (zSh1 x y k (zSh x y (n - 1) b k) (r + 1)))] := by rw [e3]; exact hD
                      exact ih_LI (r + 1) (by omega) (by omega) _ _ hP hD hS _ (lv_sub hl [1, 2, 3, 4, 0] rfl)
                    · refine lv_iload hx hb dX0_shrink_66 (lv_at hl 4 rfl) ?_
                      refine lv_goto (tgt := 75) hx hb dX0_shrink_68 (by decide) ?_
                      refine zc_ri (As := [.int (iI ((k : Nat) : Int)), .int (iI ((r : Nat) : Int))]) (rest := [.int (iI ((r : Nat) : Int)), .int (iI ((k : Nat) : Int)), .ref B]) hF (c_X0_of l D cI B C n (zSh1 x y k (zSh x y (n - 1) b k) r) k r (by omega) (by omega) (by omega)) (cwV 2 hts gX0_shrink_X0_of rfl rfl rfl (by decide +kernel) ⟨Nat.le_of_ble_eq_true rfl, Nat.le_of_ble_eq_true rfl⟩) hK hP [0, 1] rfl 0 rfl 0 rfl rfl rfl rfl hl.1 rfl (Nat.le_of_ble_eq_true rfl) dX0_shrink_75 ⟨Nat.zero_le _, Nat.zero_le _⟩ ?_
                      refine zc_wv (As := [.int (iI ((k : Nat) : Int)), .int (iI ((r : Nat) : Int)), .int (iI ((zSh1 x y k (zSh x y (n - 1) b k) r) (k * 6 + r)))]) (rest := []) hF (c_X0_set l D cI B C n (zSh1 x y k (zSh x y (n - 1) b k) r) k r ((zSh1 x y k (zSh x y (n - 1) b k) r) (k * 6 + r)) (by omega) (by omega) (by omega)) (cwV 3 hts gX0_shrink_X0_set rfl rfl rfl (by decide +kernel) ⟨Nat.le_of_ble_eq_true rfl, Nat.le_of_ble_eq_true rfl⟩) hK hP hD hS [0, 1] rfl rfl (fun _ => rfl) 0 rfl 0 rfl rfl rfl rfl hl.1 rfl (Nat.le_of_ble_eq_true rfl) dX0_shrink_78 ⟨Nat.zero_le _, Nat.zero_le _⟩ (fun u14 H locs hw hP hD hS => ?_)
                      have hP : va_P D vwCl [(B, .inr (0, [.ref C, .int (iI ((n : Nat) : Int))])), (C, zArr cI 36 (uZ (zSh1 x y k (zSh x y (n - 1) b k) r) (k * 6 + r) ((zSh1 x y k (zSh x y (n - 1) b k) r) (k * 6 + r))))] H := hP
                      have hD : va_D A [(B, .inr (0, [.ref C, .int (iI ((n : Nat) : Int))])), (C, zArr cI 36 (uZ (zSh1 x y k (zSh x y (n - 1) b k) r) (k * 6 + r) ((zSh1 x y k (zSh x y (n - 1) b k) r) (k * 6 + r))))] := hD
                      refine zr_iinc (lv2 := [(4, .int (iI (((r : Nat) : Int) + 1))), (0, .ref B), (1, .int (iI ((x : Nat) : Int))), (2, .int (iI ((y : Nat) : Int))), (3, .int (iI ((k : Nat) : Int)))]) hx hb dX0_shrink_81 hl (k0 := 4) rfl (by decide) rfl (fun ls hl => ?_)
                      have hl : lv_has ls 5 [(4, .int (iI ((r + 1 : Nat) : Int))), (0, .ref B), (1, .int (iI ((x : Nat) : Int))), (2, .int (iI ((y : Nat) : Int))), (3, .int (iI ((k : Nat) : Int)))] := hl
                      refine lv_goto (tgt := 32) hx hb dX0_shrink_84 (by decide) ?_
                      have e1 : (if k < x then k else k + 1) = k := by split <;> omega
                      have e2 : (if r < y then r else r + 1) = r := by split <;> omega
                      have e3 : zSh1 x y k (zSh x y (n - 1) b k) (r + 1) = uZ (zSh1 x y k (zSh x y (n - 1) b k) r) (k * 6 + r) (zSh1 x y k (zSh x y (n - 1) b k) r ((k) * 6 + (r))) := by show uZ _ _ _ = _; rw [e1, e2]
                      have hP : va_P D vwCl [(B, .inr (0, [.ref C, .int (iI ((n : Nat) : Int))])), (C, zArr cI 36 (zSh1 x y k (zSh x y (n - 1) b k) (r + 1)))] H := by rw [e3]; exact hP
                      have hD : va_D A [(B, .inr (0, [.ref C, .int (iI ((n : Nat) : Int))])), (C, zArr cI 36 (zSh1 x y k (zSh x y (n - 1) b k) (r + 1)))] := by rw [e3]; exact hD
                      exact ih_LI (r + 1) (by omega) (by omega) _ _ hP hD hS _ (lv_sub hl [1, 2, 3, 4, 0] rfl)
            exact LI ((n - 1 - (0)) + 1) (0) (Nat.lt_succ_self _) (by omega) _ _ hP hD hS _ (lv_sub hl [1, 2, 3, 4, 0] rfl)
      exact LO ((n - 1 - (0)) + 1) (0) (Nat.lt_succ_self _) (by omega) _ _ hP hD hS _ (lv_sub hl [1, 2, 3, 0] rfl)
    · exact absurd (by omega) c2
end
section
set_option maxHeartbeats 4000000 in
set_option maxRecDepth 100000 in
/-- X1_worth -/
theorem c_X1_worth (l : Launch) (D : va_G) (cI : ClassId) (G GB GW GR : Nat) (bo wo ro : Nat → Int)  : zRi l yX1_worth wsX1_worth 0 0 D cI [.ref G] [(G, .inr (1, [.ref GB, .ref GW, .ref GR])), (GB, zArr cI 64 bo), (GW, zArr cI 64 wo), (GR, zArr cI 6 ro)] (iI (bo 0)) := by
  refine zRi_of (cc := cX1_worth) (maxL := 1) (rt := .int) (by decide) rfl (Nat.le_of_ble_eq_true rfl) ?_
  intro p e s m args below meth c ls hF hr hlocks hP hK hl
  have hF : zFix p m c cX1_worth 1 s args wsX1_worth RX1 := hF
  obtain ⟨hx, hb, hml, hown, hts⟩ := id hF
  have hP : va_P D vwCl [(G, .inr (1, [.ref GB, .ref GW, .ref GR])), (GB, zArr cI 64 bo), (GW, zArr cI 64 wo), (GR, zArr cI 6 ro)] s.heap := hP
  have hl : lv_has ls 1 [(0, .ref G)] := hl
  refine lv_aload_n hx hb dX1_worth_0 rfl (lv_at hl 0 rfl) ?_
  refine va_get (D := D) (ci := 1) (v := .ref GB) (C := RX1) (T := TX1) (N := 3) hx hb hts (by decide +kernel) hown hK hP 0 rfl rfl 0 (by decide) (hts (.fieldLink RX1 9 "RentHarmony$Giving" "bestOfRest" "[I") (by decide +kernel)) (fun _ h9 => h9) rfl dX1_worth_1 ?_
  refine zr_ic (n := ((0 : Nat) : Int)) hx hb dX1_worth_4 ?_
  refine zr_iald hx hb hK hP 1 0 rfl rfl (0) (by omega) (by omega) (by omega) dX1_worth_5 ?_
  exact zRi_ret hx hb hr hlocks dX1_worth_6 rfl
set_option maxHeartbeats 4000000 in
set_option maxRecDepth 100000 in
/-- X1_ways -/
theorem c_X1_ways (l : Launch) (D : va_G) (cI : ClassId) (G GB GW GR : Nat) (bo wo ro : Nat → Int)  : zRi l yX1_ways wsX1_ways 0 0 D cI [.ref G] [(G, .inr (1, [.ref GB, .ref GW, .ref GR])), (GB, zArr cI 64 bo), (GW, zArr cI 64 wo), (GR, zArr cI 6 ro)] (iI (wo 0)) := by
  refine zRi_of (cc := cX1_ways) (maxL := 1) (rt := .int) (by decide) rfl (Nat.le_of_ble_eq_true rfl) ?_
  intro p e s m args below meth c ls hF hr hlocks hP hK hl
  have hF : zFix p m c cX1_ways 1 s args wsX1_ways RX1 := hF
  obtain ⟨hx, hb, hml, hown, hts⟩ := id hF
  have hP : va_P D vwCl [(G, .inr (1, [.ref GB, .ref GW, .ref GR])), (GB, zArr cI 64 bo), (GW, zArr cI 64 wo), (GR, zArr cI 6 ro)] s.heap := hP
  have hl : lv_has ls 1 [(0, .ref G)] := hl
  refine lv_aload_n hx hb dX1_ways_0 rfl (lv_at hl 0 rfl) ?_
  refine va_get (D := D) (ci := 1) (v := .ref GW) (C := RX1) (T := TX1) (N := 3) hx hb hts (by decide +kernel) hown hK hP 0 rfl rfl 1 (by decide) (hts (.fieldLink RX1 15 "RentHarmony$Giving" "waysOfRest" "[I") (by decide +kernel)) (fun _ h9 => h9) rfl dX1_ways_1 ?_
  refine zr_ic (n := ((0 : Nat) : Int)) hx hb dX1_ways_4 ?_
  refine zr_iald hx hb hK hP 2 0 rfl rfl (0) (by omega) (by omega) (by omega) dX1_ways_5 ?_
  exact zRi_ret hx hb hr hlocks dX1_ways_6 rfl
set_option maxHeartbeats 4000000 in
set_option maxRecDepth 100000 in
/-- X1_roomOf -/
theorem c_X1_roomOf (l : Launch) (D : va_G) (cI : ClassId) (G GB GW GR : Nat) (bo wo ro : Nat → Int) (j : Nat) (hj : j < 6) : zRi l yX1_roomOf wsX1_roomOf 0 0 D cI [.ref G, .int (iI ((j : Nat) : Int))] [(G, .inr (1, [.ref GB, .ref GW, .ref GR])), (GB, zArr cI 64 bo), (GW, zArr cI 64 wo), (GR, zArr cI 6 ro)] (iI (ro j)) := by
  refine zRi_of (cc := cX1_roomOf) (maxL := 2) (rt := .int) (by decide) rfl (Nat.le_of_ble_eq_true rfl) ?_
  intro p e s m args below meth c ls hF hr hlocks hP hK hl
  have hF : zFix p m c cX1_roomOf 2 s args wsX1_roomOf RX1 := hF
  obtain ⟨hx, hb, hml, hown, hts⟩ := id hF
  have hP : va_P D vwCl [(G, .inr (1, [.ref GB, .ref GW, .ref GR])), (GB, zArr cI 64 bo), (GW, zArr cI 64 wo), (GR, zArr cI 6 ro)] s.heap := hP
  have hl : lv_has ls 2 [(0, .ref G), (1, .int (iI ((j : Nat) : Int)))] := hl
  refine lv_iload_n hx hb dX1_roomOf_0 rfl (lv_at hl 1 rfl) ?_
  refine zr_if_lt (tgt := 22) hx hb dX1_roomOf_1 (by decide) (zB_of (by omega) (by omega)) (fun c1 => ?_) (fun c1 => ?_)
  · exact absurd c1 (by omega)
  · refine lv_iload_n hx hb dX1_roomOf_4 rfl (lv_at hl 1 rfl) ?_
    refine lv_aload_n hx hb dX1_roomOf_5 rfl (lv_at hl 0 rfl) ?_
    refine va_get (D := D) (ci := 1) (v := .ref GR) (C := RX1) (T := TX1) (N := 3) hx hb hts (by decide +kernel) hown hK hP 0 rfl rfl 2 (by decide) (hts (.fieldLink RX1 18 "RentHarmony$Giving" "rooms" "[I") (by decide +kernel)) (fun _ h9 => h9) rfl dX1_roomOf_6 ?_
    refine zr_alen hx hb hK hP 3 0 rfl rfl dX1_roomOf_9 ?_
    refine zr_icmp_ge (tgt := 22) hx hb dX1_roomOf_10 (by decide) (zB_of (by omega) (by omega)) (zB_of (by omega) (by omega)) (fun c2 => ?_) (fun c2 => ?_)
    · exact absurd c2 (by omega)
    · refine lv_aload_n hx hb dX1_roomOf_13 rfl (lv_at hl 0 rfl) ?_
      refine va_get (D := D) (ci := 1) (v := .ref GR) (C := RX1) (T := TX1) (N := 3) hx hb hts (by decide +kernel) hown hK hP 0 rfl rfl 2 (by decide) (hts (.fieldLink RX1 18 "RentHarmony$Giving" "rooms" "[I") (by decide +kernel)) (fun _ h9 => h9) rfl dX1_roomOf_14 ?_
      refine lv_iload_n hx hb dX1_roomOf_17 rfl (lv_at hl 1 rfl) ?_
      refine zr_iald hx hb hK hP 3 0 rfl rfl (j) (by omega) (by omega) (by omega) dX1_roomOf_18 ?_
      refine lv_goto (tgt := 23) hx hb dX1_roomOf_19 (by decide) ?_
      exact zRi_ret hx hb hr hlocks dX1_roomOf_23 rfl
set_option maxHeartbeats 4000000 in
set_option maxRecDepth 100000 in
/-- X1_weigh -/
theorem c_X1_weigh (l : Launch) (D : va_G) (cI : ClassId) (G GB GW GR : Nat) (bo wo ro : Nat → Int) (B C n : Nat) (b : Nat → Int) (t : Nat) (hn : n ≤ 6) (hb0 : ∀ k, 0 ≤ b k ∧ b k ≤ 999) (ht : t < 2 ^ n) (hf : t ≠ 2 ^ n - 1) (hDP : ∀ u, t < u → u < 2 ^ n → bo u = zBest (zD n b u) ∧ wo u = zWays (zD n b u)) : zWv (S := Unit) l yX1_weigh wsX1_weigh 2 43 D cI [.ref G, .ref B, .int (iI ((t : Nat) : Int))] [(G, .inr (1, [.ref GB, .ref GW, .ref GR])), (GB, zArr cI 64 bo), (GW, zArr cI 64 wo), (GR, zArr cI 6 ro), (B, .inr (0, [.ref C, .int (iI ((n : Nat) : Int))])), (C, zArr cI 36 b)] (fun _ => True) (fun _ => [(G, .inr (1, [.ref GB, .ref GW, .ref GR])), (GB, zArr cI 64 (uZ bo t (zBest (zD n b t)))), (GW, zArr cI 64 (uZ wo t (zWays (zD n b t)))), (GR, zArr cI 6 ro), (B, .inr (0, [.ref C, .int (iI ((n : Nat) : Int))])), (C, zArr cI 36 b)]) := by
  refine zWv_of (cc := cX1_weigh) (maxL := 9) (by decide) rfl (Nat.le_of_ble_eq_true rfl) ?_
  intro p e s m args below meth c ls A hF hr hlocks hP hK hD hS hl
  have hF : zFix p m c cX1_weigh 9 s args wsX1_weigh RX1 := hF
  obtain ⟨hx, hb, hml, hown, hts⟩ := id hF
  have hP : va_P D vwCl [(G, .inr (1, [.ref GB, .ref GW, .ref GR])), (GB, zArr cI 64 bo), (GW, zArr cI 64 wo), (GR, zArr cI 6 ro), (B, .inr (0, [.ref C, .int (iI ((n : Nat) : Int))])), (C, zArr cI 36 b)] s.heap := hP
  have hD : va_D A [(G, .inr (1, [.ref GB, .ref GW, .ref GR])), (GB, zArr cI 64 bo), (GW, zArr cI 64 wo), (GR, zArr cI 6 ro), (B, .inr (0, [.ref C, .int (iI ((n : Nat) : Int))])), (C, zArr cI 36 b)] := hD
  skip
  have hl : lv_has ls 9 [(0, .ref G), (1, .ref B), (2, .int (iI ((t : Nat) : Int)))] := hl
  have hpw := (zT_full hn).2.2
  have h64 : t < 64 := by omega
  have hpop := zT_notfull hn ht hf
  refine lv_iload_n hx hb dX1_weigh_0 rfl (lv_at hl 2 rfl) ?_
  refine zc_riS (As := [.int (iI ((t : Nat) : Int))]) (rest := []) hF (c_J6_bitCount_0f7a4 l D cI t (by omega)) (va_cwS 1 hts gX1_weigh_J6_bitCount_0f7a4 rfl rfl rfl (by decide +kernel) ⟨Nat.le_of_ble_eq_true rfl, Nat.le_of_ble_eq_true rfl⟩) hK hP [] rfl 0 rfl rfl hl.1 rfl (Nat.le_of_ble_eq_true rfl) dX1_weigh_1 ⟨Nat.zero_le _, Nat.zero_le _⟩ ?_
  refine lv_istore_n (lv' := [(3, .int (iI ((zPop t : Nat) : Int))), (0, .ref G), (1, .ref B), (2, .int (iI ((t : Nat) : Int)))]) hx hb dX1_weigh_4 rfl hl (by decide) rfl (fun ls hl => ?_)
  refine zr_ic (n := -1) hx hb dX1_weigh_5 ?_
  refine lv_istore (lv' := [(4, .int (iI (-1))), (3, .int (iI ((zPop t : Nat) : Int))), (0, .ref G), (1, .ref B), (2, .int (iI ((t : Nat) : Int)))]) hx hb dX1_weigh_6 hl (by decide) rfl (fun ls hl => ?_)
  refine zr_ic (n := ((0 : Nat) : Int)) hx hb dX1_weigh_8 ?_
  refine lv_istore (lv' := [(5, .int (iI ((0 : Nat) : Int))), (4, .int (iI (-1))), (3, .int (iI ((zPop t : Nat) : Int))), (0, .ref G), (1, .ref B), (2, .int (iI ((t : Nat) : Int)))]) hx hb dX1_weigh_9 hl (by decide) rfl (fun ls hl => ?_)
  refine zr_ic (n := ((0 : Nat) : Int)) hx hb dX1_weigh_11 ?_
  refine lv_istore (lv' := [(6, .int (iI ((0 : Nat) : Int))), (5, .int (iI ((0 : Nat) : Int))), (4, .int (iI (-1))), (3, .int (iI ((zPop t : Nat) : Int))), (0, .ref G), (1, .ref B), (2, .int (iI ((t : Nat) : Int)))]) hx hb dX1_weigh_12 hl (by decide) rfl (fun ls hl => ?_)
  have LW : ∀ (k0 : Nat) (r : Nat), n - r < k0 → (hr1 : r ≤ n) → ∀ (H : Heap) (locs : List Loc), va_P D vwCl [(G, .inr (1, [.ref GB, .ref GW, .ref GR])), (GB, zArr cI 64 bo), (GW, zArr cI 64 wo), (GR, zArr cI 6 ro), (B, .inr (0, [.ref C, .int (iI ((n : Nat) : Int))])), (C, zArr cI 36 b)] H → va_D A [(G, .inr (1, [.ref GB, .ref GW, .ref GR])), (GB, zArr cI 64 bo), (GW, zArr cI 64 wo), (GR, zArr cI 6 ro), (B, .inr (0, [.ref C, .int (iI ((n : Nat) : Int))])), (C, zArr cI 36 b)] → va_S A s.heap H locs → ∀ (ls : Array Slot), lv_has ls 9 [(0, .ref G), (1, .ref B), (2, .int (iI ((t : Nat) : Int))), (3, .int (iI ((zPop t : Nat) : Int))), (4, .int (iI (zBest (zFold (zF n b t) r)))), (5, .int (iI (zWays (zFold (zF n b t) r)))), (6, .int (iI ((r : Nat) : Int)))] → W p l e (zRm 2 43) s m args below meth c H locs 0 0 (MQ below (va_Qv (S := Unit) (fun _ => True) (fun u9 t9 => va_P D vwCl ((fun _ => [(G, .inr (1, [.ref GB, .ref GW, .ref GR])), (GB, zArr cI 64 (uZ bo t (zBest (zD n b t)))), (GW, zArr cI 64 (uZ wo t (zWays (zD n b t)))), (GR, zArr cI 6 ro), (B, .inr (0, [.ref C, .int (iI ((n : Nat) : Int))])), (C, zArr cI 36 b)]) u9) t9.heap) A) args s 0 0 A) (F0 m 14 ls []) := by
    intro k0
    induction k0 with
    | zero => intro r hk; exact absurd hk (Nat.not_lt_zero _)
    | succ k0 ih_LW =>
      intro r hk hr1 H locs hP hD hS ls hl
      refine lv_iload hx hb dX1_weigh_14 (lv_at hl 6 rfl) ?_
      refine lv_aload_n hx hb dX1_weigh_16 rfl (lv_at hl 1 rfl) ?_
      refine zc_ri (As := []) (rest := [.int (iI ((r : Nat) : Int))]) hF (c_X0_size l D cI B C n b ) (cwV 0 hts gX1_weigh_X0_size rfl rfl rfl (by decide +kernel) ⟨Nat.le_of_ble_eq_true rfl, Nat.le_of_ble_eq_true rfl⟩) hK hP [4, 5] rfl 0 rfl 0 rfl rfl rfl rfl hl.1 rfl (Nat.le_of_ble_eq_true rfl) dX1_weigh_17 ⟨Nat.zero_le _, Nat.zero_le _⟩ ?_
      refine zr_icmp_ge (tgt := 96) hx hb dX1_weigh_20 (by decide) (zB_of (by omega) (by omega)) (zB_of (by omega) (by omega)) (fun c1 => ?_) (fun c1 => ?_)
      · refine lv_aload_n hx hb dX1_weigh_96 rfl (lv_at hl 0 rfl) ?_
        refine va_get (D := D) (ci := 1) (v := .ref GB) (C := RX1) (T := TX1) (N := 3) hx hb hts (by decide +kernel) hown hK hP 0 rfl rfl 0 (by decide) (hts (.fieldLink RX1 9 "RentHarmony$Giving" "bestOfRest" "[I") (by decide +kernel)) (fun _ h9 => h9) rfl dX1_weigh_97 ?_
        refine lv_iload_n hx hb dX1_weigh_100 rfl (lv_at hl 2 rfl) ?_
        refine lv_iload hx hb dX1_weigh_101 (lv_at hl 4 rfl) ?_
        refine zr_iast hx hb hK hP hD hS 1 0 rfl rfl (t) (by omega) (by omega) (by omega) dX1_weigh_103 (fun H locs hP hD hS => ?_)
        have hP : va_P D vwCl [(G, .inr (1, [.ref GB, .ref GW, .ref GR])), (GB, zArr cI 64 (uZ bo (t) (zBest (zFold (zF n b t) r)))), (GW, zArr cI 64 wo), (GR, zArr cI 6 ro), (B, .inr (0, [.ref C, .int (iI ((n : Nat) : Int))])), (C, zArr cI 36 b)] H := hP
        have hD : va_D A [(G, .inr (1, [.ref GB, .ref GW, .ref GR])), (GB, zArr cI 64 (uZ bo (t) (zBest (zFold (zF n b t) r)))), (GW, zArr cI 64 wo), (GR, zArr cI 6 ro), (B, .inr (0, [.ref C, .int (iI ((n : Nat) : Int))])), (C, zArr cI 36 b)] := hD
        refine lv_aload_n hx hb dX1_weigh_104 rfl (lv_at hl 0 rfl) ?_
        refine va_get (D := D) (ci := 1) (v := .ref GW) (C := RX1) (T := TX1) (N := 3) hx hb hts (by decide +kernel) hown hK hP 0 rfl rfl 1 (by decide) (hts (.fieldLink RX1 15 "RentHarmony$Giving" "waysOfRest" "[I") (by decide +kernel)) (fun _ h9 => h9) rfl dX1_weigh_105 ?_
        refine lv_iload_n hx hb dX1_weigh_108 rfl (lv_at hl 2 rfl) ?_
        refine lv_iload hx hb dX1_weigh_109 (lv_at hl 5 rfl) ?_
        refine zr_iast hx hb hK hP hD hS 2 0 rfl rfl (t) (by omega) (by omega) (by omega) dX1_weigh_111 (fun H locs hP hD hS => ?_)
        have hP : va_P D vwCl [(G, .inr (1, [.ref GB, .ref GW, .ref GR])), (GB, zArr cI 64 (uZ bo (t) (zBest (zFold (zF n b t) r)))), (GW, zArr cI 64 (uZ wo (t) (zWays (zFold (zF n b t) r)))), (GR, zArr cI 6 ro), (B, .inr (0, [.ref C, .int (iI ((n : Nat) : Int))])), (C, zArr cI 36 b)] H := hP
        have hD : va_D A [(G, .inr (1, [.ref GB, .ref GW, .ref GR])), (GB, zArr cI 64 (uZ bo (t) (zBest (zFold (zF n b t) r)))), (GW, zArr cI 64 (uZ wo (t) (zWays (zFold (zF n b t) r)))), (GR, zArr cI 6 ro), (B, .inr (0, [.ref C, .int (iI ((n : Nat) : Int))])), (C, zArr cI 36 b)] := hD
        have e9 : r = n := by omega
        rw [e9, ← zD_fold hn ht hf] at hP
        exact zWv_ret hx hb hr hlocks hS dX1_weigh_112 () trivial hP
      · have hbw := zF_bound hn hb0 ht r (by omega)
        refine lv_iload_n hx hb dX1_weigh_23 rfl (lv_at hl 2 rfl) ?_
        refine lv_iload hx hb dX1_weigh_24 (lv_at hl 6 rfl) ?_
        refine lv_ishr hx hb dX1_weigh_26 ?_
        refine zr_ic (n := ((1 : Nat) : Int)) hx hb dX1_weigh_27 ?_
        refine lv_iand hx hb dX1_weigh_28 ?_
        refine zr_top (w := .int (iI (bZ (t.testBit r = true)))) (congrArg Value.int (zb_bit h64 (by omega))) ?_
        refine zr_ifB_ne (tgt := 90) hx hb dX1_weigh_29 (by decide)  (fun c2 => ?_) (fun c2 => ?_)
        · have hT : zT t r = true := c2
          refine zr_iinc (lv2 := [(6, .int (iI (((r : Nat) : Int) + 1))), (0, .ref G), (1, .ref B), (2, .int (iI ((t : Nat) : Int))), (3, .int (iI ((zPop t : Nat) : Int))), (4, .int (iI (zBest (zFold (zF n b t) r)))), (5, .int (iI (zWays (zFold (zF n b t) r))))]) hx hb dX1_weigh_90 hl (k0 := 6) rfl (by decide) rfl (fun ls hl => ?_)
          have hl : lv_has ls 9 [(6, .int (iI ((r + 1 : Nat) : Int))), (0, .ref G), (1, .ref B), (2, .int (iI ((t : Nat) : Int))), (3, .int (iI ((zPop t : Nat) : Int))), (4, .int (iI (zBest (zFold (zF n b t) r)))), (5, .int (iI (zWays (zFold (zF n b t) r))))] := hl
          refine lv_goto (tgt := 14) hx hb dX1_weigh_93 (by decide) ?_
          have hl : lv_has ls 9 [(6, .int (iI ((r + 1 : Nat) : Int))), (0, .ref G), (1, .ref B), (2, .int (iI ((t : Nat) : Int))), (3, .int (iI ((zPop t : Nat) : Int))), (4, .int (iI (zBest (zFold (zF n b t) (r + 1))))), (5, .int (iI (zWays (zFold (zF n b t) r))))] := by rw [show (zBest (zFold (zF n b t) (r + 1))) = (zBest (zFold (zF n b t) r)) from by rw [zF_taken hT]]; exact hl
          have hl : lv_has ls 9 [(6, .int (iI ((r + 1 : Nat) : Int))), (0, .ref G), (1, .ref B), (2, .int (iI ((t : Nat) : Int))), (3, .int (iI ((zPop t : Nat) : Int))), (4, .int (iI (zBest (zFold (zF n b t) (r + 1))))), (5, .int (iI (zWays (zFold (zF n b t) (r + 1)))))] := by rw [show (zWays (zFold (zF n b t) (r + 1))) = (zWays (zFold (zF n b t) r)) from by rw [zF_taken hT]]; exact hl
          exact ih_LW (r + 1) (by omega) (by omega) _ _ hP hD hS _ (lv_sub hl [1, 2, 3, 4, 5, 6, 0] rfl)
        · have hT : ¬ zT t r = true := c2
          obtain ⟨g, hg1, hg2, hg3, hg4⟩ := zF_free hn hb0 ht (by omega : r < n) hT
          obtain ⟨ho1, ho2, ho3⟩ := zT_or hn ht (by omega : r < n) (by simpa using hT)
          obtain ⟨hd1, hd2⟩ := hDP _ ho1 ho2
          rw [hg1] at hd1 hd2
          have hd1 : bo (t ||| 1 <<< r) = g.1 := hd1
          have hd2 : wo (t ||| 1 <<< r) = g.2.1 := hd2
          have hbk := hb0 (zPop t * 6 + r)
          have ho4 : (t ||| 1 <<< r) < 64 := by omega
          have hbw := zF_bound hn hb0 ht r (by omega)
          refine lv_iload_n hx hb dX1_weigh_32 rfl (lv_at hl 2 rfl) ?_
          refine zr_ic (n := ((1 : Nat) : Int)) hx hb dX1_weigh_33 ?_
          refine lv_iload hx hb dX1_weigh_34 (lv_at hl 6 rfl) ?_
          refine lv_ishl hx hb dX1_weigh_36 ?_
          refine lv_ior hx hb dX1_weigh_37 ?_
          refine zr_top (w := .int (iI ((t ||| 1 <<< r : Nat) : Int))) (congrArg Value.int (zb_or h64 (by omega))) ?_
          refine lv_istore (lv' := [(7, .int (iI ((t ||| 1 <<< r : Nat) : Int))), (0, .ref G), (1, .ref B), (2, .int (iI ((t : Nat) : Int))), (3, .int (iI ((zPop t : Nat) : Int))), (4, .int (iI (zBest (zFold (zF n b t) r)))), (5, .int (iI (zWays (zFold (zF n b t) r)))), (6, .int (iI ((r : Nat) : Int)))]) hx hb dX1_weigh_38 hl (by decide) rfl (fun ls hl => ?_)
          refine lv_aload_n hx hb dX1_weigh_40 rfl (lv_at hl 2 rfl) ?_
          refine lv_iload_n hx hb dX1_weigh_41 rfl (lv_at hl 4 rfl) ?_
          refine lv_iload hx hb dX1_weigh_42 (lv_at hl 7 rfl) ?_
          refine zc_ri (As := [.int (iI ((zPop t : Nat) : Int)), .int (iI ((r : Nat) : Int))]) (rest := []) hF (c_X0_of l D cI B C n b (zPop t) r (by omega) (by omega) (by omega)) (cwV 2 hts gX1_weigh_X0_of rfl rfl rfl (by decide +kernel) ⟨Nat.le_of_ble_eq_true rfl, Nat.le_of_ble_eq_true rfl⟩) hK hP [4, 5] rfl 0 rfl 0 rfl rfl rfl rfl hl.1 rfl (Nat.le_of_ble_eq_true rfl) dX1_weigh_44 ⟨Nat.zero_le _, Nat.zero_le _⟩ ?_
          refine lv_aload_n hx hb dX1_weigh_47 rfl (lv_at hl 1 rfl) ?_
          refine va_get (D := D) (ci := 1) (v := .ref GB) (C := RX1) (T := TX1) (N := 3) hx hb hts (by decide +kernel) hown hK hP 0 rfl rfl 0 (by decide) (hts (.fieldLink RX1 9 "RentHarmony$Giving" "bestOfRest" "[I") (by decide +kernel)) (fun _ h9 => h9) rfl dX1_weigh_48 ?_
          refine lv_iload hx hb dX1_weigh_51 (lv_at hl 0 rfl) ?_
          refine zr_iald hx hb hK hP 1 0 rfl rfl (t ||| 1 <<< r) (by omega) (by omega) (by omega) dX1_weigh_53 ?_
          refine zr_add hx hb dX1_weigh_54 ?_
          refine lv_istore (lv' := [(8, .int (iI ((b ((zPop t) * 6 + r)) + (bo (t ||| 1 <<< r))))), (7, .int (iI ((t ||| 1 <<< r : Nat) : Int))), (0, .ref G), (1, .ref B), (2, .int (iI ((t : Nat) : Int))), (3, .int (iI ((zPop t : Nat) : Int))), (4, .int (iI (zBest (zFold (zF n b t) r)))), (5, .int (iI (zWays (zFold (zF n b t) r)))), (6, .int (iI ((r : Nat) : Int)))]) hx hb dX1_weigh_55 hl (by decide) rfl (fun ls hl => ?_)
          refine lv_iload hx hb dX1_weigh_57 (lv_at hl 0 rfl) ?_
          refine lv_iload hx hb dX1_weigh_59 (lv_at hl 6 rfl) ?_
          refine zr_icmp_le (tgt := 71) hx hb dX1_weigh_61 (by decide) (zB_of (by omega) (by omega)) (zB_of (by omega) (by omega)) (fun c3 => ?_) (fun c3 => ?_)
          · refine lv_iload hx hb dX1_weigh_71 (lv_at hl 0 rfl) ?_
            refine lv_iload hx hb dX1_weigh_73 (lv_at hl 6 rfl) ?_
            refine zr_icmp_ne (tgt := 90) hx hb dX1_weigh_75 (by decide) (zB_of (by omega) (by omega)) (zB_of (by omega) (by omega)) (fun c4 => ?_) (fun c4 => ?_)
            · refine zr_iinc (lv2 := [(6, .int (iI (((r : Nat) : Int) + 1))), (8, .int (iI ((b ((zPop t) * 6 + r)) + (bo (t ||| 1 <<< r))))), (7, .int (iI ((t ||| 1 <<< r : Nat) : Int))), (0, .ref G), (1, .ref B), (2, .int (iI ((t : Nat) : Int))), (3, .int (iI ((zPop t : Nat) : Int))), (4, .int (iI (zBest (zFold (zF n b t) r)))), (5, .int (iI (zWays (zFold (zF n b t) r))))]) hx hb dX1_weigh_90 hl (k0 := 8) rfl (by decide) rfl (fun ls hl => ?_)
              have hl : lv_has ls 9 [(6, .int (iI ((r + 1 : Nat) : Int))), (8, .int (iI ((b ((zPop t) * 6 + r)) + (bo (t ||| 1 <<< r))))), (7, .int (iI ((t ||| 1 <<< r : Nat) : Int))), (0, .ref G), (1, .ref B), (2, .int (iI ((t : Nat) : Int))), (3, .int (iI ((zPop t : Nat) : Int))), (4, .int (iI (zBest (zFold (zF n b t) r)))), (5, .int (iI (zWays (zFold (zF n b t) r))))] := hl
              refine lv_goto (tgt := 14) hx hb dX1_weigh_93 (by decide) ?_
              have hl : lv_has ls 9 [(6, .int (iI ((r + 1 : Nat) : Int))), (8, .int (iI ((b ((zPop t) * 6 + r)) + (bo (t ||| 1 <<< r))))), (7, .int (iI ((t ||| 1 <<< r : Nat) : Int))), (0, .ref G), (1, .ref B), (2, .int (iI ((t : Nat) : Int))), (3, .int (iI ((zPop t : Nat) : Int))), (4, .int (iI (zBest (zFold (zF n b t) (r + 1))))), (5, .int (iI (zWays (zFold (zF n b t) r))))] := by rw [show (zBest (zFold (zF n b t) (r + 1))) = (zBest (zFold (zF n b t) r)) from by rw [hg3]; split <;> omega]; exact hl
              have hl : lv_has ls 9 [(6, .int (iI ((r + 1 : Nat) : Int))), (8, .int (iI ((b ((zPop t) * 6 + r)) + (bo (t ||| 1 <<< r))))), (7, .int (iI ((t ||| 1 <<< r : Nat) : Int))), (0, .ref G), (1, .ref B), (2, .int (iI ((t : Nat) : Int))), (3, .int (iI ((zPop t : Nat) : Int))), (4, .int (iI (zBest (zFold (zF n b t) (r + 1))))), (5, .int (iI (zWays (zFold (zF n b t) (r + 1)))))] := by rw [show (zWays (zFold (zF n b t) (r + 1))) = (zWays (zFold (zF n b t) r)) from by rw [hg4]; split; omega; split <;> omega]; exact hl
              exact ih_LW (r + 1) (by omega) (by omega) _ _ hP hD hS _ (lv_sub hl [3, 4, 5, 6, 7, 8, 0] rfl)
            · refine lv_iload hx hb dX1_weigh_78 (lv_at hl 7 rfl) ?_
              refine lv_aload_n hx hb dX1_weigh_80 rfl (lv_at hl 2 rfl) ?_
              refine va_get (D := D) (ci := 1) (v := .ref GW) (C := RX1) (T := TX1) (N := 3) hx hb hts (by decide +kernel) hown hK hP 0 rfl rfl 1 (by decide) (hts (.fieldLink RX1 15 "RentHarmony$Giving" "waysOfRest" "[I") (by decide +kernel)) (fun _ h9 => h9) rfl dX1_weigh_81 ?_
              refine lv_iload hx hb dX1_weigh_84 (lv_at hl 1 rfl) ?_
              refine zr_iald hx hb hK hP 2 0 rfl rfl (t ||| 1 <<< r) (by omega) (by omega) (by omega) dX1_weigh_86 ?_
              refine zr_add hx hb dX1_weigh_87 ?_
              refine lv_istore (lv' := [(5, .int (iI ((zWays (zFold (zF n b t) r)) + (wo (t ||| 1 <<< r))))), (8, .int (iI ((b ((zPop t) * 6 + r)) + (bo (t ||| 1 <<< r))))), (7, .int (iI ((t ||| 1 <<< r : Nat) : Int))), (0, .ref G), (1, .ref B), (2, .int (iI ((t : Nat) : Int))), (3, .int (iI ((zPop t : Nat) : Int))), (4, .int (iI (zBest (zFold (zF n b t) r)))), (6, .int (iI ((r : Nat) : Int)))]) hx hb dX1_weigh_88 hl (by decide) rfl (fun ls hl => ?_)
              refine zr_iinc (lv2 := [(6, .int (iI (((r : Nat) : Int) + 1))), (5, .int (iI ((zWays (zFold (zF n b t) r)) + (wo (t ||| 1 <<< r))))), (8, .int (iI ((b ((zPop t) * 6 + r)) + (bo (t ||| 1 <<< r))))), (7, .int (iI ((t ||| 1 <<< r : Nat) : Int))), (0, .ref G), (1, .ref B), (2, .int (iI ((t : Nat) : Int))), (3, .int (iI ((zPop t : Nat) : Int))), (4, .int (iI (zBest (zFold (zF n b t) r))))]) hx hb dX1_weigh_90 hl (k0 := 8) rfl (by decide) rfl (fun ls hl => ?_)
              have hl : lv_has ls 9 [(6, .int (iI ((r + 1 : Nat) : Int))), (5, .int (iI ((zWays (zFold (zF n b t) r)) + (wo (t ||| 1 <<< r))))), (8, .int (iI ((b ((zPop t) * 6 + r)) + (bo (t ||| 1 <<< r))))), (7, .int (iI ((t ||| 1 <<< r : Nat) : Int))), (0, .ref G), (1, .ref B), (2, .int (iI ((t : Nat) : Int))), (3, .int (iI ((zPop t : Nat) : Int))), (4, .int (iI (zBest (zFold (zF n b t) r))))] := hl
              refine lv_goto (tgt := 14) hx hb dX1_weigh_93 (by decide) ?_
              have hl : lv_has ls 9 [(6, .int (iI ((r + 1 : Nat) : Int))), (5, .int (iI ((zWays (zFold (zF n b t) r)) + (wo (t ||| 1 <<< r))))), (8, .int (iI ((b ((zPop t) * 6 + r)) + (bo (t ||| 1 <<< r))))), (7, .int (iI ((t ||| 1 <<< r : Nat) : Int))), (0, .ref G), (1, .ref B), (2, .int (iI ((t : Nat) : Int))), (3, .int (iI ((zPop t : Nat) : Int))), (4, .int (iI (zBest (zFold (zF n b t) (r + 1)))))] := by rw [show (zBest (zFold (zF n b t) (r + 1))) = (zBest (zFold (zF n b t) r)) from by rw [hg3]; split <;> omega]; exact hl
              have hl : lv_has ls 9 [(6, .int (iI ((r + 1 : Nat) : Int))), (5, .int (iI (zWays (zFold (zF n b t) (r + 1))))), (8, .int (iI ((b ((zPop t) * 6 + r)) + (bo (t ||| 1 <<< r))))), (7, .int (iI ((t ||| 1 <<< r : Nat) : Int))), (0, .ref G), (1, .ref B), (2, .int (iI ((t : Nat) : Int))), (3, .int (iI ((zPop t : Nat) : Int))), (4, .int (iI (zBest (zFold (zF n b t) (r + 1)))))] := by rw [show (zWays (zFold (zF n b t) (r + 1))) = ((zWays (zFold (zF n b t) r)) + (wo (t ||| 1 <<< r))) from by rw [hg4]; split; omega; split <;> omega]; exact hl
              exact ih_LW (r + 1) (by omega) (by omega) _ _ hP hD hS _ (lv_sub hl [4, 5, 6, 7, 8, 1, 0] rfl)
          · refine lv_iload hx hb dX1_weigh_64 (lv_at hl 0 rfl) ?_
            refine lv_istore (lv' := [(4, .int (iI ((b ((zPop t) * 6 + r)) + (bo (t ||| 1 <<< r))))), (8, .int (iI ((b ((zPop t) * 6 + r)) + (bo (t ||| 1 <<< r))))), (7, .int (iI ((t ||| 1 <<< r : Nat) : Int))), (0, .ref G), (1, .ref B), (2, .int (iI ((t : Nat) : Int))), (3, .int (iI ((zPop t : Nat) : Int))), (5, .int (iI (zWays (zFold (zF n b t) r)))), (6, .int (iI ((r : Nat) : Int)))]) hx hb dX1_weigh_66 hl (by decide) rfl (fun ls hl => ?_)
            refine zr_ic (n := ((0 : Nat) : Int)) hx hb dX1_weigh_68 ?_
            refine lv_istore (lv' := [(5, .int (iI ((0 : Nat) : Int))), (4, .int (iI ((b ((zPop t) * 6 + r)) + (bo (t ||| 1 <<< r))))), (8, .int (iI ((b ((zPop t) * 6 + r)) + (bo (t ||| 1 <<< r))))), (7, .int (iI ((t ||| 1 <<< r : Nat) : Int))), (0, .ref G), (1, .ref B), (2, .int (iI ((t : Nat) : Int))), (3, .int (iI ((zPop t : Nat) : Int))), (6, .int (iI ((r : Nat) : Int)))]) hx hb dX1_weigh_69 hl (by decide) rfl (fun ls hl => ?_)
            refine lv_iload hx hb dX1_weigh_71 (lv_at hl 2 rfl) ?_
            refine lv_iload hx hb dX1_weigh_73 (lv_at hl 1 rfl) ?_
            refine zr_icmp_ne (tgt := 90) hx hb dX1_weigh_75 (by decide) (zB_of (by omega) (by omega)) (zB_of (by omega) (by omega)) (fun c5 => ?_) (fun c5 => ?_)
            · exact absurd rfl c5
            · refine lv_iload hx hb dX1_weigh_78 (lv_at hl 0 rfl) ?_
              refine lv_aload_n hx hb dX1_weigh_80 rfl (lv_at hl 4 rfl) ?_
              refine va_get (D := D) (ci := 1) (v := .ref GW) (C := RX1) (T := TX1) (N := 3) hx hb hts (by decide +kernel) hown hK hP 0 rfl rfl 1 (by decide) (hts (.fieldLink RX1 15 "RentHarmony$Giving" "waysOfRest" "[I") (by decide +kernel)) (fun _ h9 => h9) rfl dX1_weigh_81 ?_
              refine lv_iload hx hb dX1_weigh_84 (lv_at hl 3 rfl) ?_
              refine zr_iald hx hb hK hP 2 0 rfl rfl (t ||| 1 <<< r) (by omega) (by omega) (by omega) dX1_weigh_86 ?_
              refine zr_add hx hb dX1_weigh_87 ?_
              refine lv_istore (lv' := [(5, .int (iI (((0 : Nat) : Int) + (wo (t ||| 1 <<< r))))), (4, .int (iI ((b ((zPop t) * 6 + r)) + (bo (t ||| 1 <<< r))))), (8, .int (iI ((b ((zPop t) * 6 + r)) + (bo (t ||| 1 <<< r))))), (7, .int (iI ((t ||| 1 <<< r : Nat) : Int))), (0, .ref G), (1, .ref B), (2, .int (iI ((t : Nat) : Int))), (3, .int (iI ((zPop t : Nat) : Int))), (6, .int (iI ((r : Nat) : Int)))]) hx hb dX1_weigh_88 hl (by decide) rfl (fun ls hl => ?_)
              refine zr_iinc (lv2 := [(6, .int (iI (((r : Nat) : Int) + 1))), (5, .int (iI (((0 : Nat) : Int) + (wo (t ||| 1 <<< r))))), (4, .int (iI ((b ((zPop t) * 6 + r)) + (bo (t ||| 1 <<< r))))), (8, .int (iI ((b ((zPop t) * 6 + r)) + (bo (t ||| 1 <<< r))))), (7, .int (iI ((t ||| 1 <<< r : Nat) : Int))), (0, .ref G), (1, .ref B), (2, .int (iI ((t : Nat) : Int))), (3, .int (iI ((zPop t : Nat) : Int)))]) hx hb dX1_weigh_90 hl (k0 := 8) rfl (by decide) rfl (fun ls hl => ?_)
              have hl : lv_has ls 9 [(6, .int (iI ((r + 1 : Nat) : Int))), (5, .int (iI (((0 : Nat) : Int) + (wo (t ||| 1 <<< r))))), (4, .int (iI ((b ((zPop t) * 6 + r)) + (bo (t ||| 1 <<< r))))), (8, .int (iI ((b ((zPop t) * 6 + r)) + (bo (t ||| 1 <<< r))))), (7, .int (iI ((t ||| 1 <<< r : Nat) : Int))), (0, .ref G), (1, .ref B), (2, .int (iI ((t : Nat) : Int))), (3, .int (iI ((zPop t : Nat) : Int)))] := hl
              refine lv_goto (tgt := 14) hx hb dX1_weigh_93 (by decide) ?_
              have hl : lv_has ls 9 [(6, .int (iI ((r + 1 : Nat) : Int))), (5, .int (iI (((0 : Nat) : Int) + (wo (t ||| 1 <<< r))))), (4, .int (iI (zBest (zFold (zF n b t) (r + 1))))), (8, .int (iI ((b ((zPop t) * 6 + r)) + (bo (t ||| 1 <<< r))))), (7, .int (iI ((t ||| 1 <<< r : Nat) : Int))), (0, .ref G), (1, .ref B), (2, .int (iI ((t : Nat) : Int))), (3, .int (iI ((zPop t : Nat) : Int)))] := by rw [show (zBest (zFold (zF n b t) (r + 1))) = ((b ((zPop t) * 6 + r)) + (bo (t ||| 1 <<< r))) from by rw [hg3]; split <;> omega]; exact hl
              have hl : lv_has ls 9 [(6, .int (iI ((r + 1 : Nat) : Int))), (5, .int (iI (zWays (zFold (zF n b t) (r + 1))))), (4, .int (iI (zBest (zFold (zF n b t) (r + 1))))), (8, .int (iI ((b ((zPop t) * 6 + r)) + (bo (t ||| 1 <<< r))))), (7, .int (iI ((t ||| 1 <<< r : Nat) : Int))), (0, .ref G), (1, .ref B), (2, .int (iI ((t : Nat) : Int))), (3, .int (iI ((zPop t : Nat) : Int)))] := by rw [show (zWays (zFold (zF n b t) (r + 1))) = (((0 : Nat) : Int) + (wo (t ||| 1 <<< r))) from by rw [hg4]; split; omega; split <;> omega]; exact hl
              exact ih_LW (r + 1) (by omega) (by omega) _ _ hP hD hS _ (lv_sub hl [5, 6, 7, 8, 2, 1, 0] rfl)
  have hl : lv_has ls 9 [(6, .int (iI ((0 : Nat) : Int))), (5, .int (iI ((0 : Nat) : Int))), (4, .int (iI (zBest (zFold (zF n b t) 0)))), (3, .int (iI ((zPop t : Nat) : Int))), (0, .ref G), (1, .ref B), (2, .int (iI ((t : Nat) : Int)))] := by rw [show (zBest (zFold (zF n b t) 0)) = (-1) from rfl]; exact hl
  have hl : lv_has ls 9 [(6, .int (iI ((0 : Nat) : Int))), (5, .int (iI (zWays (zFold (zF n b t) 0)))), (4, .int (iI (zBest (zFold (zF n b t) 0)))), (3, .int (iI ((zPop t : Nat) : Int))), (0, .ref G), (1, .ref B), (2, .int (iI ((t : Nat) : Int)))] := by rw [show (zWays (zFold (zF n b t) 0)) = ((0 : Nat) : Int) from rfl]; exact hl
  exact LW ((n - (0)) + 1) (0) (Nat.lt_succ_self _) (by omega) _ _ hP hD hS _ (lv_sub hl [4, 5, 6, 3, 2, 1, 0] rfl)
set_option maxHeartbeats 4000000 in
set_option maxRecDepth 100000 in
/-- X1_firstBestRoom -/
theorem c_X1_firstBestRoom (l : Launch) (D : va_G) (cI : ClassId) (G GB GW GR : Nat) (bo wo ro : Nat → Int) (B C n : Nat) (b : Nat → Int) (t : Nat) (hn : n ≤ 6) (hb0 : ∀ k, 0 ≤ b k ∧ b k ≤ 999) (ht : t < 2 ^ n) (hf : t ≠ 2 ^ n - 1) (hDP : ∀ u, u < 2 ^ n → bo u = zBest (zD n b u)) : zRi l yX1_firstBestRoom wsX1_firstBestRoom 2 43 D cI [.ref G, .ref B, .int (iI ((zPop t : Nat) : Int)), .int (iI ((t : Nat) : Int))] [(G, .inr (1, [.ref GB, .ref GW, .ref GR])), (GB, zArr cI 64 bo), (GW, zArr cI 64 wo), (GR, zArr cI 6 ro), (B, .inr (0, [.ref C, .int (iI ((n : Nat) : Int))])), (C, zArr cI 36 b)] (iI (((zHd n b t : Nat) : Int))) := by
  refine zRi_of (cc := cX1_firstBestRoom) (maxL := 5) (rt := .int) (by decide) rfl (Nat.le_of_ble_eq_true rfl) ?_
  intro p e s m args below meth c ls hF hr hlocks hP hK hl
  have hF : zFix p m c cX1_firstBestRoom 5 s args wsX1_firstBestRoom RX1 := hF
  obtain ⟨hx, hb, hml, hown, hts⟩ := id hF
  have hP : va_P D vwCl [(G, .inr (1, [.ref GB, .ref GW, .ref GR])), (GB, zArr cI 64 bo), (GW, zArr cI 64 wo), (GR, zArr cI 6 ro), (B, .inr (0, [.ref C, .int (iI ((n : Nat) : Int))])), (C, zArr cI 36 b)] s.heap := hP
  have hl : lv_has ls 5 [(0, .ref G), (1, .ref B), (2, .int (iI ((zPop t : Nat) : Int))), (3, .int (iI ((t : Nat) : Int)))] := hl
  have hpw := (zT_full hn).2.2
  have h64 : t < 64 := by omega
  have hpop := zT_notfull hn ht hf
  obtain ⟨y, hs1, hs2, hs3, hs4, hs5, hs6⟩ := zHd_spec (b := b) hn ht hf
  refine zr_ic (n := ((0 : Nat) : Int)) hx hb dX1_firstBestRoom_0 ?_
  refine lv_istore (lv' := [(4, .int (iI ((0 : Nat) : Int))), (0, .ref G), (1, .ref B), (2, .int (iI ((zPop t : Nat) : Int))), (3, .int (iI ((t : Nat) : Int)))]) hx hb dX1_firstBestRoom_1 hl (by decide) rfl (fun ls hl => ?_)
  have LF : ∀ (k0 : Nat) (i : Nat), n - i < k0 → (hi : i ≤ n) → (hno : ∀ q, q < i → zT t q = false → b (zPop t * 6 + q) + zBest (zD n b (t ||| 1 <<< q)) ≠ zBest (zD n b t)) → ∀ (ls : Array Slot), lv_has ls 5 [(0, .ref G), (1, .ref B), (2, .int (iI ((zPop t : Nat) : Int))), (3, .int (iI ((t : Nat) : Int))), (4, .int (iI ((i : Nat) : Int)))] → W p l e (zRm 2 43) s m args below meth c s.heap [] 0 0 (MQ below (vp_Si (fun x => x = (iI (((zHd n b t : Nat) : Int))))) args s 0 0 (fun _ => False)) (F0 m 3 ls []) := by
    intro k0
    induction k0 with
    | zero => intro i hk; exact absurd hk (Nat.not_lt_zero _)
    | succ k0 ih_LF =>
      intro i hk hi hno ls hl
      refine lv_iload hx hb dX1_firstBestRoom_3 (lv_at hl 4 rfl) ?_
      refine lv_aload_n hx hb dX1_firstBestRoom_5 rfl (lv_at hl 1 rfl) ?_
      refine zc_ri (As := []) (rest := [.int (iI ((i : Nat) : Int))]) hF (c_X0_size l D cI B C n b ) (cwV 0 hts gX1_firstBestRoom_X0_size rfl rfl rfl (by decide +kernel) ⟨Nat.le_of_ble_eq_true rfl, Nat.le_of_ble_eq_true rfl⟩) hK hP [4, 5] rfl 0 rfl 0 rfl rfl rfl rfl hl.1 rfl (Nat.le_of_ble_eq_true rfl) dX1_firstBestRoom_6 ⟨Nat.zero_le _, Nat.zero_le _⟩ ?_
      refine zr_icmp_ge (tgt := 58) hx hb dX1_firstBestRoom_9 (by decide) (zB_of (by omega) (by omega)) (zB_of (by omega) (by omega)) (fun c1 => ?_) (fun c1 => ?_)
      · exact absurd (by rw [hs3]; exact hs4) (hno _ (by omega) hs2)
      · refine lv_iload_n hx hb dX1_firstBestRoom_12 rfl (lv_at hl 3 rfl) ?_
        refine lv_iload hx hb dX1_firstBestRoom_13 (lv_at hl 4 rfl) ?_
        refine lv_ishr hx hb dX1_firstBestRoom_15 ?_
        refine zr_ic (n := ((1 : Nat) : Int)) hx hb dX1_firstBestRoom_16 ?_
        refine lv_iand hx hb dX1_firstBestRoom_17 ?_
        refine zr_top (w := .int (iI (bZ (t.testBit i = true)))) (congrArg Value.int (zb_bit h64 (by omega))) ?_
        refine zr_ifB_ne (tgt := 52) hx hb dX1_firstBestRoom_18 (by decide)  (fun c2 => ?_) (fun c2 => ?_)
        · have hT : zT t i = true := c2
          refine zr_iinc (lv2 := [(4, .int (iI (((i : Nat) : Int) + 1))), (0, .ref G), (1, .ref B), (2, .int (iI ((zPop t : Nat) : Int))), (3, .int (iI ((t : Nat) : Int)))]) hx hb dX1_firstBestRoom_52 hl (k0 := 4) rfl (by decide) rfl (fun ls hl => ?_)
          have hl : lv_has ls 5 [(4, .int (iI ((i + 1 : Nat) : Int))), (0, .ref G), (1, .ref B), (2, .int (iI ((zPop t : Nat) : Int))), (3, .int (iI ((t : Nat) : Int)))] := hl
          refine lv_goto (tgt := 3) hx hb dX1_firstBestRoom_55 (by decide) ?_
          exact ih_LF (i + 1) (by omega) (by omega) (lt_s hno (fun hTq => absurd (hT.symm.trans hTq) (by decide))) _ (lv_sub hl [1, 2, 3, 4, 0] rfl)
        · have hT : zT t i = false := by simpa using (show ¬ zT t i = true from c2)
          obtain ⟨ho1, ho2, ho3⟩ := zT_or hn ht (by omega : i < n) hT
          obtain ⟨g, hg⟩ := zD_some (b := b) hn ho2
          obtain ⟨g2, hg2⟩ := zD_some (b := b) hn ht
          have hgb := zD_bound hn hb0 hg
          have hgb2 := zD_bound hn hb0 hg2
          have hd1 := hDP _ ho2
          have hd2 := hDP _ ht
          rw [hg] at hd1
          rw [hg2] at hd2
          have hd1 : bo (t ||| 1 <<< i) = g.1 := hd1
          have hd2 : bo t = g2.1 := hd2
          have hbk := hb0 (zPop t * 6 + i)
          have ho4 : (t ||| 1 <<< i) < 64 := by omega
          refine lv_aload_n hx hb dX1_firstBestRoom_21 rfl (lv_at hl 1 rfl) ?_
          refine lv_iload_n hx hb dX1_firstBestRoom_22 rfl (lv_at hl 2 rfl) ?_
          refine lv_iload hx hb dX1_firstBestRoom_23 (lv_at hl 4 rfl) ?_
          refine zc_ri (As := [.int (iI ((zPop t : Nat) : Int)), .int (iI ((i : Nat) : Int))]) (rest := []) hF (c_X0_of l D cI B C n b (zPop t) i (by omega) (by omega) (by omega)) (cwV 2 hts gX1_firstBestRoom_X0_of rfl rfl rfl (by decide +kernel) ⟨Nat.le_of_ble_eq_true rfl, Nat.le_of_ble_eq_true rfl⟩) hK hP [4, 5] rfl 0 rfl 0 rfl rfl rfl rfl hl.1 rfl (Nat.le_of_ble_eq_true rfl) dX1_firstBestRoom_25 ⟨Nat.zero_le _, Nat.zero_le _⟩ ?_
          refine lv_aload_n hx hb dX1_firstBestRoom_28 rfl (lv_at hl 0 rfl) ?_
          refine va_get (D := D) (ci := 1) (v := .ref GB) (C := RX1) (T := TX1) (N := 3) hx hb hts (by decide +kernel) hown hK hP 0 rfl rfl 0 (by decide) (hts (.fieldLink RX1 9 "RentHarmony$Giving" "bestOfRest" "[I") (by decide +kernel)) (fun _ h9 => h9) rfl dX1_firstBestRoom_29 ?_
          refine lv_iload_n hx hb dX1_firstBestRoom_32 rfl (lv_at hl 3 rfl) ?_
          refine zr_ic (n := ((1 : Nat) : Int)) hx hb dX1_firstBestRoom_33 ?_
          refine lv_iload hx hb dX1_firstBestRoom_34 (lv_at hl 4 rfl) ?_
          refine lv_ishl hx hb dX1_firstBestRoom_36 ?_
          refine lv_ior hx hb dX1_firstBestRoom_37 ?_
          refine zr_top (w := .int (iI ((t ||| 1 <<< i : Nat) : Int))) (congrArg Value.int (zb_or h64 (by omega))) ?_
          refine zr_iald hx hb hK hP 1 0 rfl rfl (t ||| 1 <<< i) (by omega) (by omega) (by omega) dX1_firstBestRoom_38 ?_
          refine zr_add hx hb dX1_firstBestRoom_39 ?_
          refine lv_aload_n hx hb dX1_firstBestRoom_40 rfl (lv_at hl 0 rfl) ?_
          refine va_get (D := D) (ci := 1) (v := .ref GB) (C := RX1) (T := TX1) (N := 3) hx hb hts (by decide +kernel) hown hK hP 0 rfl rfl 0 (by decide) (hts (.fieldLink RX1 9 "RentHarmony$Giving" "bestOfRest" "[I") (by decide +kernel)) (fun _ h9 => h9) rfl dX1_firstBestRoom_41 ?_
          refine lv_iload_n hx hb dX1_firstBestRoom_44 rfl (lv_at hl 3 rfl) ?_
          refine zr_iald hx hb hK hP 1 0 rfl rfl (t) (by omega) (by omega) (by omega) dX1_firstBestRoom_45 ?_
          refine zr_icmp_ne (tgt := 52) hx hb dX1_firstBestRoom_46 (by decide) (zB_of (by omega) (by omega)) (zB_of (by omega) (by omega)) (fun c3 => ?_) (fun c3 => ?_)
          · have hne := c3
            refine zr_iinc (lv2 := [(4, .int (iI (((i : Nat) : Int) + 1))), (0, .ref G), (1, .ref B), (2, .int (iI ((zPop t : Nat) : Int))), (3, .int (iI ((t : Nat) : Int)))]) hx hb dX1_firstBestRoom_52 hl (k0 := 4) rfl (by decide) rfl (fun ls hl => ?_)
            have hl : lv_has ls 5 [(4, .int (iI ((i + 1 : Nat) : Int))), (0, .ref G), (1, .ref B), (2, .int (iI ((zPop t : Nat) : Int))), (3, .int (iI ((t : Nat) : Int)))] := hl
            refine lv_goto (tgt := 3) hx hb dX1_firstBestRoom_55 (by decide) ?_
            exact ih_LF (i + 1) (by omega) (by omega) (lt_s hno (fun _ => by rw [← hDP _ ho2, ← hDP _ ht]; exact hne)) _ (lv_sub hl [1, 2, 3, 4, 0] rfl)
          · have hroom : i = zHd n b t := by
              rcases Nat.lt_trichotomy i (zHd n b t) with q | q | q
              · exact absurd (by rw [← hDP _ ho2, ← hDP _ ht]; exact c3) (hs6 i q hT)
              · exact q
              · exact absurd (by rw [hs3]; exact hs4) (hno _ q hs2)
            refine lv_iload hx hb dX1_firstBestRoom_49 (lv_at hl 4 rfl) ?_
            exact zRi_ret hx hb hr hlocks dX1_firstBestRoom_51 (congrArg iI (congrArg Nat.cast (hroom)))
  exact LF ((n - (0)) + 1) (0) (Nat.lt_succ_self _) (Nat.zero_le _) (fun q hq _ => absurd hq (Nat.not_lt_zero _)) _ (lv_sub hl [1, 2, 3, 4, 0] rfl)
end
section
theorem zD_full {n : Nat} {b : Nat → Int} (hn : n ≤ 6) : zD n b (2 ^ n - 1) = some (0, 1, []) := by
  unfold zD
  rw [(zT_full hn).1, Nat.sub_self]
  rfl
theorem zPop_le {n u : Nat} (hn : n ≤ 6) (hu : u < 2 ^ n) : zPop u ≤ n := by have := zT_cnt hn hu; omega
theorem zGetD_app {p q : List Nat} {j : Nat} (h : j < p.length) : (p ++ q).getD j 0 = p.getD j 0 := by
  rw [List.getD_eq_getElem?_getD, List.getD_eq_getElem?_getD, List.getElem?_append_left h]
theorem zGetD_snoc {p : List Nat} {r : Nat} : (p ++ [r]).getD p.length 0 = r := by
  rw [List.getD_eq_getElem?_getD, List.getElem?_append_right (Nat.le_refl _), Nat.sub_self]
  rfl
theorem zSnoc {p : List Nat} {r k : Nat} {ro : Nat → Int} (hl : p.length = k) (h : ∀ j, j < k → ro j = ((p.getD j 0 : Nat) : Int)) : ∀ j, j < k + 1 → uZ ro k (r : Int) j = (((p ++ [r]).getD j 0 : Nat) : Int) := by
  intro j hj
  by_cases e : j = k
  · subst e; rw [uZ_s, ← hl, zGetD_snoc]
  · rw [uZ_n _ _ e, h j (by omega), zGetD_app (by omega)]
theorem zRooms_step {n u : Nat} {b : Nat → Int} {l pre : List Nat} (hn : n ≤ 6) (hu : u < 2 ^ n) (hf : u ≠ 2 ^ n - 1) (h : l = pre ++ zRooms (zD n b u)) : l = (pre ++ [zHd n b u]) ++ zRooms (zD n b (u ||| 1 <<< zHd n b u)) := by
  obtain ⟨y, -, -, h3, -, h5, -⟩ := zHd_spec (b := b) hn hu hf
  rw [h, h5, h3, List.append_assoc]
  rfl
/-- the cells behind a giving: worth, ways, rooms -/
def zGiven (n : Nat) (b : Nat → Int) (u : (Nat → Int) × (Nat → Int) × (Nat → Int)) : Prop := u.1 0 = zWo n b ∧ u.2.1 0 = zWy n b ∧ ∀ j, j < n → u.2.2 j = ((zRo n b j : Nat) : Int)
theorem c_X1_roomOfN (l : Launch) (D : va_G) (cI : ClassId) (G GB GW GR : Nat) (bo wo ro : Nat → Int) (g : Nat → Nat) (j : Nat) (hj : j < 6) (hg : ro j = ((g j : Nat) : Int)) : zRi l yX1_roomOf wsX1_roomOf 0 0 D cI [.ref G, .int (iI ((j : Nat) : Int))] [(G, .inr (1, [.ref GB, .ref GW, .ref GR])), (GB, zArr cI 64 bo), (GW, zArr cI 64 wo), (GR, zArr cI 6 ro)] (iI ((g j : Nat) : Int)) := by
  rw [← hg]
  exact c_X1_roomOf l D cI G GB GW GR bo wo ro j hj

set_option maxHeartbeats 4000000 in
set_option maxRecDepth 100000 in
/-- X1_choose -/
theorem c_X1_choose (l : Launch) (D : va_G) (cI : ClassId) (G GB GW GR : Nat) (bo wo ro : Nat → Int) (B C n : Nat) (b : Nat → Int) (hn : n ≤ 6) (hb0 : ∀ k, 0 ≤ b k ∧ b k ≤ 999) : zWv (S := (Nat → Int) × (Nat → Int) × (Nat → Int)) l yX1_choose wsX1_choose 3 71 D cI [.ref G, .ref B] [(G, .inr (1, [.ref GB, .ref GW, .ref GR])), (GB, zArr cI 64 bo), (GW, zArr cI 64 wo), (GR, zArr cI 6 ro), (B, .inr (0, [.ref C, .int (iI ((n : Nat) : Int))])), (C, zArr cI 36 b)] (zGiven n b) (fun u8 => [(G, .inr (1, [.ref GB, .ref GW, .ref GR])), (GB, zArr cI 64 u8.1), (GW, zArr cI 64 u8.2.1), (GR, zArr cI 6 u8.2.2), (B, .inr (0, [.ref C, .int (iI ((n : Nat) : Int))])), (C, zArr cI 36 b)]) := by
  refine zWv_of (cc := cX1_choose) (maxL := 5) (by decide) rfl (Nat.le_of_ble_eq_true rfl) ?_
  intro p e s m args below meth c ls A hF hr hlocks hP hK hD hS hl
  have hF : zFix p m c cX1_choose 5 s args wsX1_choose RX1 := hF
  obtain ⟨hx, hb, hml, hown, hts⟩ := id hF
  have hP : va_P D vwCl [(G, .inr (1, [.ref GB, .ref GW, .ref GR])), (GB, zArr cI 64 bo), (GW, zArr cI 64 wo), (GR, zArr cI 6 ro), (B, .inr (0, [.ref C, .int (iI ((n : Nat) : Int))])), (C, zArr cI 36 b)] s.heap := hP
  have hD : va_D A [(G, .inr (1, [.ref GB, .ref GW, .ref GR])), (GB, zArr cI 64 bo), (GW, zArr cI 64 wo), (GR, zArr cI 6 ro), (B, .inr (0, [.ref C, .int (iI ((n : Nat) : Int))])), (C, zArr cI 36 b)] := hD
  skip
  have hl : lv_has ls 5 [(0, .ref G), (1, .ref B)] := hl
  have hpw := (zT_full hn).2
  refine zr_ic (n := ((1 : Nat) : Int)) hx hb dX1_choose_0 ?_
  refine lv_aload_n hx hb dX1_choose_1 rfl (lv_at hl 1 rfl) ?_
  refine zc_ri (As := []) (rest := [.int (iI ((1 : Nat) : Int))]) hF (c_X0_size l D cI B C n b ) (cwV 0 hts gX1_choose_X0_size rfl rfl rfl (by decide +kernel) ⟨Nat.le_of_ble_eq_true rfl, Nat.le_of_ble_eq_true rfl⟩) hK hP [4, 5] rfl 0 rfl 0 rfl rfl rfl rfl hl.1 rfl (Nat.le_of_ble_eq_true rfl) dX1_choose_2 ⟨Nat.zero_le _, Nat.zero_le _⟩ ?_
  refine lv_ishl hx hb dX1_choose_5 ?_
  refine zr_top (w := .int (iI ((2 ^ n : Nat) : Int))) (congrArg Value.int (zb_shl hn)) ?_
  refine zr_ic (n := ((1 : Nat) : Int)) hx hb dX1_choose_6 ?_
  refine zr_sub hx hb dX1_choose_7 ?_
  refine zr_topi (show (((2 ^ n : Nat) : Int) - ((1 : Nat) : Int)) = ((2 ^ n - 1 : Nat) : Int) from (by omega)) ?_
  refine lv_istore_n (lv' := [(2, .int (iI ((2 ^ n - 1 : Nat) : Int))), (0, .ref G), (1, .ref B)]) hx hb dX1_choose_8 rfl hl (by decide) rfl (fun ls hl => ?_)
  refine lv_aload_n hx hb dX1_choose_9 rfl (lv_at hl 1 rfl) ?_
  refine va_get (D := D) (ci := 1) (v := .ref GB) (C := RX1) (T := TX1) (N := 3) hx hb hts (by decide +kernel) hown hK hP 0 rfl rfl 0 (by decide) (hts (.fieldLink RX1 9 "RentHarmony$Giving" "bestOfRest" "[I") (by decide +kernel)) (fun _ h9 => h9) rfl dX1_choose_10 ?_
  refine lv_iload_n hx hb dX1_choose_13 rfl (lv_at hl 0 rfl) ?_
  refine zr_ic (n := ((0 : Nat) : Int)) hx hb dX1_choose_14 ?_
  refine zr_iast hx hb hK hP hD hS 1 0 rfl rfl (2 ^ n - 1) (by omega) (by omega) (by omega) dX1_choose_15 (fun H locs hP hD hS => ?_)
  have hP : va_P D vwCl [(G, .inr (1, [.ref GB, .ref GW, .ref GR])), (GB, zArr cI 64 (uZ bo (2 ^ n - 1) ((0 : Nat) : Int))), (GW, zArr cI 64 wo), (GR, zArr cI 6 ro), (B, .inr (0, [.ref C, .int (iI ((n : Nat) : Int))])), (C, zArr cI 36 b)] H := hP
  have hD : va_D A [(G, .inr (1, [.ref GB, .ref GW, .ref GR])), (GB, zArr cI 64 (uZ bo (2 ^ n - 1) ((0 : Nat) : Int))), (GW, zArr cI 64 wo), (GR, zArr cI 6 ro), (B, .inr (0, [.ref C, .int (iI ((n : Nat) : Int))])), (C, zArr cI 36 b)] := hD
  refine lv_aload_n hx hb dX1_choose_16 rfl (lv_at hl 1 rfl) ?_
  refine va_get (D := D) (ci := 1) (v := .ref GW) (C := RX1) (T := TX1) (N := 3) hx hb hts (by decide +kernel) hown hK hP 0 rfl rfl 1 (by decide) (hts (.fieldLink RX1 15 "RentHarmony$Giving" "waysOfRest" "[I") (by decide +kernel)) (fun _ h9 => h9) rfl dX1_choose_17 ?_
  refine lv_iload_n hx hb dX1_choose_20 rfl (lv_at hl 0 rfl) ?_
  refine zr_ic (n := ((1 : Nat) : Int)) hx hb dX1_choose_21 ?_
  refine zr_iast hx hb hK hP hD hS 2 0 rfl rfl (2 ^ n - 1) (by omega) (by omega) (by omega) dX1_choose_22 (fun H locs hP hD hS => ?_)
  have hP : va_P D vwCl [(G, .inr (1, [.ref GB, .ref GW, .ref GR])), (GB, zArr cI 64 (uZ bo (2 ^ n - 1) ((0 : Nat) : Int))), (GW, zArr cI 64 (uZ wo (2 ^ n - 1) ((1 : Nat) : Int))), (GR, zArr cI 6 ro), (B, .inr (0, [.ref C, .int (iI ((n : Nat) : Int))])), (C, zArr cI 36 b)] H := hP
  have hD : va_D A [(G, .inr (1, [.ref GB, .ref GW, .ref GR])), (GB, zArr cI 64 (uZ bo (2 ^ n - 1) ((0 : Nat) : Int))), (GW, zArr cI 64 (uZ wo (2 ^ n - 1) ((1 : Nat) : Int))), (GR, zArr cI 6 ro), (B, .inr (0, [.ref C, .int (iI ((n : Nat) : Int))])), (C, zArr cI 36 b)] := hD
  refine lv_iload_n hx hb dX1_choose_23 rfl (lv_at hl 0 rfl) ?_
  refine zr_ic (n := ((1 : Nat) : Int)) hx hb dX1_choose_24 ?_
  refine zr_sub hx hb dX1_choose_25 ?_
  refine lv_istore_n (lv' := [(3, .int (iI (((2 ^ n - 1 : Nat) : Int) - ((1 : Nat) : Int)))), (2, .int (iI ((2 ^ n - 1 : Nat) : Int))), (0, .ref G), (1, .ref B)]) hx hb dX1_choose_26 rfl hl (by decide) rfl (fun ls hl => ?_)
  have L1 : ∀ (k0 : Nat) (j : Nat) (bo1 : Nat → Int) (wo1 : Nat → Int), j < k0 → (hj : j ≤ 2 ^ n - 1) → (hDP : ∀ u, j ≤ u → u < 2 ^ n → bo1 u = zBest (zD n b u) ∧ wo1 u = zWays (zD n b u)) → ∀ (H : Heap) (locs : List Loc), va_P D vwCl [(G, .inr (1, [.ref GB, .ref GW, .ref GR])), (GB, zArr cI 64 bo1), (GW, zArr cI 64 wo1), (GR, zArr cI 6 ro), (B, .inr (0, [.ref C, .int (iI ((n : Nat) : Int))])), (C, zArr cI 36 b)] H → va_D A [(G, .inr (1, [.ref GB, .ref GW, .ref GR])), (GB, zArr cI 64 bo1), (GW, zArr cI 64 wo1), (GR, zArr cI 6 ro), (B, .inr (0, [.ref C, .int (iI ((n : Nat) : Int))])), (C, zArr cI 36 b)] → va_S A s.heap H locs → ∀ (ls : Array Slot), lv_has ls 5 [(0, .ref G), (1, .ref B), (2, .int (iI ((2 ^ n - 1 : Nat) : Int))), (3, .int (iI ((j : Int) - 1)))] → W p l e (zRm 3 71) s m args below meth c H locs 0 0 (MQ below (va_Qv (S := (Nat → Int) × (Nat → Int) × (Nat → Int)) (zGiven n b) (fun u9 t9 => va_P D vwCl ((fun u8 => [(G, .inr (1, [.ref GB, .ref GW, .ref GR])), (GB, zArr cI 64 u8.1), (GW, zArr cI 64 u8.2.1), (GR, zArr cI 6 u8.2.2), (B, .inr (0, [.ref C, .int (iI ((n : Nat) : Int))])), (C, zArr cI 36 b)]) u9) t9.heap) A) args s 0 0 A) (F0 m 27 ls []) := by
    intro k0
    induction k0 with
    | zero => intro j bo1 wo1 hk; exact absurd hk (Nat.not_lt_zero _)
    | succ k0 ih_L1 =>
      intro j bo1 wo1 hk hj hDP H locs hP hD hS ls hl
      refine lv_iload_n hx hb dX1_choose_27 rfl (lv_at hl 3 rfl) ?_
      refine zr_if_lt (tgt := 43) hx hb dX1_choose_28 (by decide) (zB_of (by omega) (by omega)) (fun c1 => ?_) (fun c1 => ?_)
      · have hj0 : j = 0 := by omega
        have hDP : ∀ u, u < 2 ^ n → bo1 u = zBest (zD n b u) ∧ wo1 u = zWays (zD n b u) := fun u hu => hDP u (by omega) hu
        refine zr_ic (n := ((0 : Nat) : Int)) hx hb dX1_choose_43 ?_
        refine lv_istore_n (lv' := [(3, .int (iI ((0 : Nat) : Int))), (0, .ref G), (1, .ref B), (2, .int (iI ((2 ^ n - 1 : Nat) : Int)))]) hx hb dX1_choose_44 rfl hl (by decide) rfl (fun ls hl => ?_)
        refine zr_ic (n := ((0 : Nat) : Int)) hx hb dX1_choose_45 ?_
        refine lv_istore (lv' := [(4, .int (iI ((0 : Nat) : Int))), (3, .int (iI ((0 : Nat) : Int))), (0, .ref G), (1, .ref B), (2, .int (iI ((2 ^ n - 1 : Nat) : Int)))]) hx hb dX1_choose_46 hl (by decide) rfl (fun ls hl => ?_)
        have L2 : ∀ (k0 : Nat) (u : Nat) (pre : List Nat) (ro1 : Nat → Int), n - zPop u < k0 → (hu : u < 2 ^ n) → (hple : zPop u ≤ n) → (hpre : zRooms (zD n b 0) = pre ++ zRooms (zD n b u)) → (hlen : pre.length = zPop u) → (hro : ∀ j, j < zPop u → ro1 j = ((pre.getD j 0 : Nat) : Int)) → ∀ (H : Heap) (locs : List Loc), va_P D vwCl [(G, .inr (1, [.ref GB, .ref GW, .ref GR])), (GB, zArr cI 64 bo1), (GW, zArr cI 64 wo1), (GR, zArr cI 6 ro1), (B, .inr (0, [.ref C, .int (iI ((n : Nat) : Int))])), (C, zArr cI 36 b)] H → va_D A [(G, .inr (1, [.ref GB, .ref GW, .ref GR])), (GB, zArr cI 64 bo1), (GW, zArr cI 64 wo1), (GR, zArr cI 6 ro1), (B, .inr (0, [.ref C, .int (iI ((n : Nat) : Int))])), (C, zArr cI 36 b)] → va_S A s.heap H locs → ∀ (ls : Array Slot), lv_has ls 5 [(0, .ref G), (1, .ref B), (2, .int (iI ((2 ^ n - 1 : Nat) : Int))), (3, .int (iI ((u : Nat) : Int))), (4, .int (iI ((zPop u : Nat) : Int)))] → W p l e (zRm 3 71) s m args below meth c H locs 0 0 (MQ below (va_Qv (S := (Nat → Int) × (Nat → Int) × (Nat → Int)) (zGiven n b) (fun u9 t9 => va_P D vwCl ((fun u8 => [(G, .inr (1, [.ref GB, .ref GW, .ref GR])), (GB, zArr cI 64 u8.1), (GW, zArr cI 64 u8.2.1), (GR, zArr cI 6 u8.2.2), (B, .inr (0, [.ref C, .int (iI ((n : Nat) : Int))])), (C, zArr cI 36 b)]) u9) t9.heap) A) args s 0 0 A) (F0 m 48 ls []) := by
          intro k0
          induction k0 with
          | zero => intro u pre ro1 hk; exact absurd hk (Nat.not_lt_zero _)
          | succ k0 ih_L2 =>
            intro u pre ro1 hk hu hple hpre hlen hro H locs hP hD hS ls hl
            refine lv_iload hx hb dX1_choose_48 (lv_at hl 4 rfl) ?_
            refine lv_aload_n hx hb dX1_choose_50 rfl (lv_at hl 1 rfl) ?_
            refine zc_ri (As := []) (rest := [.int (iI ((zPop u : Nat) : Int))]) hF (c_X0_size l D cI B C n b ) (cwV 0 hts gX1_choose_X0_size rfl rfl rfl (by decide +kernel) ⟨Nat.le_of_ble_eq_true rfl, Nat.le_of_ble_eq_true rfl⟩) hK hP [4, 5] rfl 0 rfl 0 rfl rfl rfl rfl hl.1 rfl (Nat.le_of_ble_eq_true rfl) dX1_choose_51 ⟨Nat.zero_le _, Nat.zero_le _⟩ ?_
            refine zr_icmp_ge (tgt := 90) hx hb dX1_choose_54 (by decide) (zB_of (by omega) (by omega)) (zB_of (by omega) (by omega)) (fun c2 => ?_) (fun c2 => ?_)
            · have hle := zPop_le hn hu
              have e9 : zPop u = n := by omega
              exact zWv_ret hx hb hr hlocks hS dX1_choose_90 (bo1, wo1, ro1) ⟨(hDP 0 (zT_full hn).2.1).1, (hDP 0 (zT_full hn).2.1).2, fun j hj => by show ro1 j = (((zRooms (zD n b 0)).getD j 0 : Nat) : Int); rw [hpre, zGetD_app (by omega)]; exact hro j (by omega)⟩ hP
            · have hf : u ≠ 2 ^ n - 1 := fun e8 => by have h8 := (zT_full hn).1; rw [← e8] at h8; omega
              obtain ⟨y9, hs1, hs2, -⟩ := zHd_spec (b := b) hn hu hf
              obtain ⟨ho1, ho2, ho3⟩ := zT_or hn hu hs1 hs2
              have h64 : u < 64 := by omega
              refine lv_aload_n hx hb dX1_choose_57 rfl (lv_at hl 0 rfl) ?_
              refine va_get (D := D) (ci := 1) (v := .ref GR) (C := RX1) (T := TX1) (N := 3) hx hb hts (by decide +kernel) hown hK hP 0 rfl rfl 2 (by decide) (hts (.fieldLink RX1 18 "RentHarmony$Giving" "rooms" "[I") (by decide +kernel)) (fun _ h9 => h9) rfl dX1_choose_58 ?_
              refine lv_iload hx hb dX1_choose_61 (lv_at hl 4 rfl) ?_
              refine lv_aload_n hx hb dX1_choose_63 rfl (lv_at hl 0 rfl) ?_
              refine lv_aload_n hx hb dX1_choose_64 rfl (lv_at hl 1 rfl) ?_
              refine lv_iload hx hb dX1_choose_65 (lv_at hl 4 rfl) ?_
              refine lv_iload_n hx hb dX1_choose_67 rfl (lv_at hl 3 rfl) ?_
              refine zc_ri (As := [.ref B, .int (iI ((zPop u : Nat) : Int)), .int (iI ((u : Nat) : Int))]) (rest := [.int (iI ((zPop u : Nat) : Int)), .ref GR]) hF (c_X1_firstBestRoom l D cI G GB GW GR bo1 wo1 ro1 B C n b u (by omega) (by assumption) (by omega) (by omega) (fun u h2 => (hDP u h2).1)) (cwV 3 hts gX1_choose_X1_firstBestRoom rfl rfl rfl (by decide +kernel) ⟨Nat.le_of_ble_eq_true rfl, Nat.le_of_ble_eq_true rfl⟩) hK hP [0, 1, 2, 3, 4, 5] rfl 0 rfl 0 rfl rfl rfl rfl hl.1 rfl (Nat.le_of_ble_eq_true rfl) dX1_choose_68 ⟨Nat.zero_le _, Nat.zero_le _⟩ ?_
              refine zr_iast hx hb hK hP hD hS 3 0 rfl rfl (zPop u) (by omega) (by omega) (by omega) dX1_choose_71 (fun H locs hP hD hS => ?_)
              have hP : va_P D vwCl [(G, .inr (1, [.ref GB, .ref GW, .ref GR])), (GB, zArr cI 64 bo1), (GW, zArr cI 64 wo1), (GR, zArr cI 6 (uZ ro1 (zPop u) ((zHd n b u : Nat) : Int))), (B, .inr (0, [.ref C, .int (iI ((n : Nat) : Int))])), (C, zArr cI 36 b)] H := hP
              have hD : va_D A [(G, .inr (1, [.ref GB, .ref GW, .ref GR])), (GB, zArr cI 64 bo1), (GW, zArr cI 64 wo1), (GR, zArr cI 6 (uZ ro1 (zPop u) ((zHd n b u : Nat) : Int))), (B, .inr (0, [.ref C, .int (iI ((n : Nat) : Int))])), (C, zArr cI 36 b)] := hD
              refine lv_iload_n hx hb dX1_choose_72 rfl (lv_at hl 3 rfl) ?_
              refine zr_ic (n := ((1 : Nat) : Int)) hx hb dX1_choose_73 ?_
              refine lv_aload_n hx hb dX1_choose_74 rfl (lv_at hl 0 rfl) ?_
              refine va_get (D := D) (ci := 1) (v := .ref GR) (C := RX1) (T := TX1) (N := 3) hx hb hts (by decide +kernel) hown hK hP 0 rfl rfl 2 (by decide) (hts (.fieldLink RX1 18 "RentHarmony$Giving" "rooms" "[I") (by decide +kernel)) (fun _ h9 => h9) rfl dX1_choose_75 ?_
              refine lv_iload hx hb dX1_choose_78 (lv_at hl 4 rfl) ?_
              refine zr_iald hx hb hK hP 3 0 rfl rfl (zPop u) (by omega) (by omega) (by omega) dX1_choose_80 ?_
              refine zr_topi (show ((uZ ro1 (zPop u) ((zHd n b u : Nat) : Int)) (zPop u)) = ((zHd n b u : Nat) : Int) from (uZ_s _ _ _)) ?_
              refine lv_ishl hx hb dX1_choose_81 ?_
              refine lv_ior hx hb dX1_choose_82 ?_
              refine zr_top (w := .int (iI ((u ||| 1 <<< zHd n b u : Nat) : Int))) (congrArg Value.int (zb_or h64 (by omega))) ?_
              refine lv_istore_n (lv' := [(3, .int (iI ((u ||| 1 <<< zHd n b u : Nat) : Int))), (0, .ref G), (1, .ref B), (2, .int (iI ((2 ^ n - 1 : Nat) : Int))), (4, .int (iI ((zPop u : Nat) : Int)))]) hx hb dX1_choose_83 rfl hl (by decide) rfl (fun ls hl => ?_)
              refine zr_iinc (lv2 := [(4, .int (iI (((zPop u : Nat) : Int) + 1))), (3, .int (iI ((u ||| 1 <<< zHd n b u : Nat) : Int))), (0, .ref G), (1, .ref B), (2, .int (iI ((2 ^ n - 1 : Nat) : Int)))]) hx hb dX1_choose_84 hl (k0 := 4) rfl (by decide) rfl (fun ls hl => ?_)
              have hl : lv_has ls 5 [(4, .int (iI ((zPop u + 1 : Nat) : Int))), (3, .int (iI ((u ||| 1 <<< zHd n b u : Nat) : Int))), (0, .ref G), (1, .ref B), (2, .int (iI ((2 ^ n - 1 : Nat) : Int)))] := hl
              refine lv_goto (tgt := 48) hx hb dX1_choose_87 (by decide) ?_
              have hl : lv_has ls 5 [(4, .int (iI ((zPop (u ||| 1 <<< zHd n b u) : Nat) : Int))), (3, .int (iI ((u ||| 1 <<< zHd n b u : Nat) : Int))), (0, .ref G), (1, .ref B), (2, .int (iI ((2 ^ n - 1 : Nat) : Int)))] := by rw [show ((zPop (u ||| 1 <<< zHd n b u) : Nat) : Int) = ((zPop u + 1 : Nat) : Int) from by rw [ho3]]; exact hl
              exact ih_L2 (u ||| 1 <<< zHd n b u) (pre ++ [zHd n b u]) ((uZ ro1 (zPop u) ((zHd n b u : Nat) : Int))) (by omega) ho2 (zPop_le hn ho2) (zRooms_step hn hu hf hpre) (by rw [List.length_append, hlen, ho3]; rfl) (by rw [ho3]; exact zSnoc hlen hro) _ _ hP hD hS _ (lv_sub hl [2, 3, 4, 1, 0] rfl)
        have hl : lv_has ls 5 [(4, .int (iI ((zPop 0 : Nat) : Int))), (3, .int (iI ((0 : Nat) : Int))), (0, .ref G), (1, .ref B), (2, .int (iI ((2 ^ n - 1 : Nat) : Int)))] := by rw [show ((zPop 0 : Nat) : Int) = ((0 : Nat) : Int) from rfl]; exact hl
        exact L2 ((n - zPop (0)) + 1) (0) ([]) (ro) (Nat.lt_succ_self _) (zT_full hn).2.1 (by rw [zPop_0]; exact Nat.zero_le _) rfl rfl (fun j hj => absurd hj (Nat.not_lt_zero _)) _ _ hP hD hS _ (lv_sub hl [2, 3, 4, 1, 0] rfl)
      · refine lv_aload_n hx hb dX1_choose_31 rfl (lv_at hl 0 rfl) ?_
        refine lv_aload_n hx hb dX1_choose_32 rfl (lv_at hl 1 rfl) ?_
        refine lv_iload_n hx hb dX1_choose_33 rfl (lv_at hl 3 rfl) ?_
        refine zr_topi (show ((j : Int) - 1) = ((j - 1 : Nat) : Int) from (by omega)) ?_
        refine zc_wv (As := [.ref B, .int (iI ((j - 1 : Nat) : Int))]) (rest := []) hF (c_X1_weigh l D cI G GB GW GR bo1 wo1 ro B C n b (j - 1) (by omega) (by assumption) (by omega) (by omega) (fun u h1 h2 => hDP u (by omega) h2)) (cwV 2 hts gX1_choose_X1_weigh rfl rfl rfl (by decide +kernel) ⟨Nat.le_of_ble_eq_true rfl, Nat.le_of_ble_eq_true rfl⟩) hK hP hD hS [0, 1, 2, 3, 4, 5] rfl rfl (fun _ => rfl) 0 rfl 0 rfl rfl rfl rfl hl.1 rfl (Nat.le_of_ble_eq_true rfl) dX1_choose_34 ⟨Nat.zero_le _, Nat.zero_le _⟩ (fun u3 H locs hw hP hD hS => ?_)
        have hP : va_P D vwCl [(G, .inr (1, [.ref GB, .ref GW, .ref GR])), (GB, zArr cI 64 (uZ bo1 (j - 1) (zBest (zD n b (j - 1))))), (GW, zArr cI 64 (uZ wo1 (j - 1) (zWays (zD n b (j - 1))))), (GR, zArr cI 6 ro), (B, .inr (0, [.ref C, .int (iI ((n : Nat) : Int))])), (C, zArr cI 36 b)] H := hP
        have hD : va_D A [(G, .inr (1, [.ref GB, .ref GW, .ref GR])), (GB, zArr cI 64 (uZ bo1 (j - 1) (zBest (zD n b (j - 1))))), (GW, zArr cI 64 (uZ wo1 (j - 1) (zWays (zD n b (j - 1))))), (GR, zArr cI 6 ro), (B, .inr (0, [.ref C, .int (iI ((n : Nat) : Int))])), (C, zArr cI 36 b)] := hD
        refine zr_iinc (lv2 := [(3, .int (iI (((j : Int) - 1) + (-1)))), (0, .ref G), (1, .ref B), (2, .int (iI ((2 ^ n - 1 : Nat) : Int)))]) hx hb dX1_choose_37 hl (k0 := 3) rfl (by decide) rfl (fun ls hl => ?_)
        refine lv_goto (tgt := 27) hx hb dX1_choose_40 (by decide) ?_
        have hl : lv_has ls 5 [(3, .int (iI (((j - 1 : Nat) : Int) - 1))), (0, .ref G), (1, .ref B), (2, .int (iI ((2 ^ n - 1 : Nat) : Int)))] := by rw [show (((j - 1 : Nat) : Int) - 1) = (((j : Int) - 1) + (-1)) from by omega]; exact hl
        exact ih_L1 (j - 1) ((uZ bo1 (j - 1) (zBest (zD n b (j - 1))))) ((uZ wo1 (j - 1) (zWays (zD n b (j - 1))))) (by omega) (by omega) (fun u h1 h2 => by by_cases q : j - 1 < u; exact ⟨(uZ_n _ _ (by omega)).trans (hDP u (by omega) h2).1, (uZ_n _ _ (by omega)).trans (hDP u (by omega) h2).2⟩; have e8 : u = j - 1 := (by omega); rw [e8, uZ_s, uZ_s]; exact ⟨rfl, rfl⟩) _ _ hP hD hS _ (lv_sub hl [1, 2, 3, 0] rfl)
  have hl : lv_has ls 5 [(3, .int (iI (((2 ^ n - 1 : Nat) : Int) - 1))), (2, .int (iI ((2 ^ n - 1 : Nat) : Int))), (0, .ref G), (1, .ref B)] := by rw [show (((2 ^ n - 1 : Nat) : Int) - 1) = (((2 ^ n - 1 : Nat) : Int) - ((1 : Nat) : Int)) from by omega]; exact hl
  exact L1 (((2 ^ n - 1)) + 1) (2 ^ n - 1) ((uZ bo (2 ^ n - 1) ((0 : Nat) : Int))) ((uZ wo (2 ^ n - 1) ((1 : Nat) : Int))) (Nat.lt_succ_self _) (Nat.le_refl _) (fun u h1 h2 => by have e8 : u = 2 ^ n - 1 := (by omega); rw [e8, uZ_s, uZ_s, zD_full hn]; exact ⟨rfl, rfl⟩) _ _ hP hD hS _ (lv_sub hl [2, 3, 1, 0] rfl)
end
section
abbrev zEn (b : Nat → Int) (g : Nat → Nat) (a c : Nat) : Prop := b (a * 6 + g a) < b (a * 6 + g c)
def zOwn (b : Nat → Int) (g : Nat → Nat) (j : Nat) : Int := b (j * 6 + g j)
def zPay (b : Nat → Int) (g : Nat → Nat) (fr : Nat → Int) (sh : Int) (j : Nat) : Int := b (j * 6 + g j) - (fr j + sh)
/-- by how much more the room of another brings, its early rebate left out -/
def zWt (b : Nat → Int) (g : Nat → Nat) (a c : Nat) : Int := b (a * 6 + g c) - b (c * 6 + g c)
def zEnvd (b : Nat → Int) (g : Nat → Nat) (a : Nat) : Nat → Int
  | 0 => 0
  | m + 1 => zEnvd b g a m + bZ (zEn b g a m)
def zLc (b : Nat → Int) (g : Nat → Nat) (ch : Nat → Int) (a : Nat) : Nat → Int
  | 0 => 1
  | m + 1 => if zEn b g a m then max (zLc b g ch a m) (ch m + 1) else zLc b g ch a m
def zBor (w : Nat → Nat → Int) (e : Nat → Int) (a : Nat) : Nat → Int
  | 0 => e a
  | m + 1 => max (zBor w e a m) (w a m + e m)
def zFact (n : Nat) (b : Nat → Int) (g : Nat → Nat) (fr : Nat → Int) (sh : Int) (j : Nat) : Nat → Int
  | 0 => ((g j : Nat) : Int)
  | 1 => b (j * 6 + g j)
  | 2 => fr j + sh
  | 3 => zPay b g fr sh j
  | 4 => fr j
  | _ => zEnvd b g j n
def zTot (n : Nat) (b : Nat → Int) (g : Nat → Nat) (fr : Nat → Int) (rc sh po wo wy : Int) : Nat → Int
  | 0 => (n : Int)
  | 1 => rc
  | 2 => wo
  | 3 => zSum fr n + sh * (n : Int)
  | 4 => po
  | 5 => wy
  | _ => zSum (zPay b g fr sh) n
theorem zEnvd_b (b : Nat → Int) (g : Nat → Nat) (a : Nat) : ∀ m : Nat, 0 ≤ zEnvd b g a m ∧ zEnvd b g a m ≤ m
  | 0 => by show (0 : Int) ≤ 0 ∧ (0 : Int) ≤ 0; omega
  | m + 1 => by
    have h := zEnvd_b b g a m
    show 0 ≤ zEnvd b g a m + bZ _ ∧ zEnvd b g a m + bZ _ ≤ ((m + 1 : Nat) : Int)
    rcases bZ_01 (zEn b g a m) with q | q <;> rw [q] <;> omega
theorem zBor_b {w : Nat → Nat → Int} {e : Nat → Int} {a : Nat} {M : Int} (h0 : 0 ≤ e a ∧ e a ≤ M) : ∀ m, (∀ c, c < m → w a c + e c ≤ M) → 0 ≤ zBor w e a m ∧ zBor w e a m ≤ M
  | 0, _ => h0
  | m + 1, h => by
    have h1 := zBor_b h0 m (fun c hc => h c (by omega))
    have h2 := h m (by omega)
    show 0 ≤ max (zBor w e a m) (w a m + e m) ∧ max (zBor w e a m) (w a m + e m) ≤ M
    omega
theorem zLc_b {b : Nat → Int} {g : Nat → Nat} {ch : Nat → Int} {a : Nat} {M : Int} (hM : 1 ≤ M) : ∀ m, (∀ c, c < m → ch c + 1 ≤ M) → 1 ≤ zLc b g ch a m ∧ zLc b g ch a m ≤ M
  | 0, _ => ⟨Int.le_refl _, hM⟩
  | m + 1, h => by
    have h1 := zLc_b (b := b) (g := g) (ch := ch) (a := a) hM m (fun c hc => h c (by omega))
    have h2 := h m (by omega)
    show 1 ≤ (if zEn b g a m then max (zLc b g ch a m) (ch m + 1) else zLc b g ch a m) ∧ (if zEn b g a m then max (zLc b g ch a m) (ch m + 1) else zLc b g ch a m) ≤ M
    split <;> omega

set_option maxHeartbeats 4000000 in
set_option maxRecDepth 100000 in
/-- X2_ownBidOf -/
theorem c_X2_ownBidOf (l : Launch) (D : va_G) (cI : ClassId) (h B C G GB GW GR TB TG FR CH n : Nat) (b bo wo ro fr : Nat → Int) (rc sh po : Int) (g : Nat → Nat) (j : Nat) (hn : n ≤ 6) (hb0 : ∀ k, 0 ≤ b k ∧ b k ≤ 999) (hro : ∀ j, j < n → ro j = ((g j : Nat) : Int)) (hgn : ∀ j, j < n → g j < n) (hj : j < n) : zRi l yX2_ownBidOf wsX2_ownBidOf 2 43 D cI [.ref h, .int (iI ((j : Nat) : Int))] [(h, .inr (2, [.ref B, .ref G, .ref TB, .ref TG, .ref FR, .ref CH, .int (iI (rc)), .int (iI (sh)), .int (iI (po))])), (B, .inr (0, [.ref C, .int (iI ((n : Nat) : Int))])), (C, zArr cI 36 b), (G, .inr (1, [.ref GB, .ref GW, .ref GR])), (GB, zArr cI 64 bo), (GW, zArr cI 64 wo), (GR, zArr cI 6 ro), (FR, zArr cI 6 fr)] (iI (b (j * 6 + g j))) := by
  refine zRi_of (cc := cX2_ownBidOf) (maxL := 2) (rt := .int) (by decide) rfl (Nat.le_of_ble_eq_true rfl) ?_
  intro p e s m args below meth c ls hF hr hlocks hP hK hl
  have hF : zFix p m c cX2_ownBidOf 2 s args wsX2_ownBidOf RX2 := hF
  obtain ⟨hx, hb, hml, hown, hts⟩ := id hF
  have hP : va_P D vwCl [(h, .inr (2, [.ref B, .ref G, .ref TB, .ref TG, .ref FR, .ref CH, .int (iI (rc)), .int (iI (sh)), .int (iI (po))])), (B, .inr (0, [.ref C, .int (iI ((n : Nat) : Int))])), (C, zArr cI 36 b), (G, .inr (1, [.ref GB, .ref GW, .ref GR])), (GB, zArr cI 64 bo), (GW, zArr cI 64 wo), (GR, zArr cI 6 ro), (FR, zArr cI 6 fr)] s.heap := hP
  have hl : lv_has ls 2 [(0, .ref h), (1, .int (iI ((j : Nat) : Int)))] := hl
  refine lv_aload_n hx hb dX2_ownBidOf_0 rfl (lv_at hl 0 rfl) ?_
  refine va_get (D := D) (ci := 2) (v := .ref B) (C := RX2) (T := TX2) (N := 9) hx hb hts (by decide +kernel) hown hK hP 0 rfl rfl 0 (by decide) (hts (.fieldLink RX2 10 "RentHarmony" "bids" "LRentHarmony$Bids;") (by decide +kernel)) (fun _ h9 => h9) rfl dX2_ownBidOf_1 ?_
  refine lv_iload_n hx hb dX2_ownBidOf_4 rfl (lv_at hl 1 rfl) ?_
  refine lv_aload_n hx hb dX2_ownBidOf_5 rfl (lv_at hl 0 rfl) ?_
  refine va_get (D := D) (ci := 2) (v := .ref G) (C := RX2) (T := TX2) (N := 9) hx hb hts (by decide +kernel) hown hK hP 0 rfl rfl 1 (by decide) (hts (.fieldLink RX2 19 "RentHarmony" "giving" "LRentHarmony$Giving;") (by decide +kernel)) (fun _ h9 => h9) rfl dX2_ownBidOf_6 ?_
  refine lv_iload_n hx hb dX2_ownBidOf_9 rfl (lv_at hl 1 rfl) ?_
  refine zc_ri (As := [.int (iI ((j : Nat) : Int))]) (rest := [.int (iI ((j : Nat) : Int)), .ref B]) hF (c_X1_roomOfN l D cI G GB GW GR bo wo ro g j (by omega) (hro _ (by omega))) (cwV 1 hts gX2_ownBidOf_X1_roomOf rfl rfl rfl (by decide +kernel) ⟨Nat.le_of_ble_eq_true rfl, Nat.le_of_ble_eq_true rfl⟩) hK hP [3, 4, 5, 6] rfl 0 rfl 0 rfl rfl rfl rfl hl.1 rfl (Nat.le_of_ble_eq_true rfl) dX2_ownBidOf_10 ⟨Nat.zero_le _, Nat.zero_le _⟩ ?_
  have hf1 := hgn j (by omega)
  refine zc_ri (As := [.int (iI ((j : Nat) : Int)), .int (iI ((g j : Nat) : Int))]) (rest := []) hF (c_X0_of l D cI B C n b j (g j) (by omega) (by omega) (by omega)) (cwV 2 hts gX2_ownBidOf_X0_of rfl rfl rfl (by decide +kernel) ⟨Nat.le_of_ble_eq_true rfl, Nat.le_of_ble_eq_true rfl⟩) hK hP [1, 2] rfl 0 rfl 0 rfl rfl rfl rfl hl.1 rfl (Nat.le_of_ble_eq_true rfl) dX2_ownBidOf_13 ⟨Nat.zero_le _, Nat.zero_le _⟩ ?_
  exact zRi_ret hx hb hr hlocks dX2_ownBidOf_16 rfl
set_option maxHeartbeats 4000000 in
set_option maxRecDepth 100000 in
/-- X2_firstRebateOf -/
theorem c_X2_firstRebateOf (l : Launch) (D : va_G) (cI : ClassId) (h B C G GB GW GR TB TG FR CH n : Nat) (b bo wo ro fr : Nat → Int) (rc sh po : Int) (g : Nat → Nat) (j : Nat) (hn : n ≤ 6) (hb0 : ∀ k, 0 ≤ b k ∧ b k ≤ 999) (hro : ∀ j, j < n → ro j = ((g j : Nat) : Int)) (hgn : ∀ j, j < n → g j < n) (hj : j < n) : zRi l yX2_firstRebateOf wsX2_firstRebateOf 1 21 D cI [.ref h, .int (iI ((j : Nat) : Int))] [(h, .inr (2, [.ref B, .ref G, .ref TB, .ref TG, .ref FR, .ref CH, .int (iI (rc)), .int (iI (sh)), .int (iI (po))])), (B, .inr (0, [.ref C, .int (iI ((n : Nat) : Int))])), (C, zArr cI 36 b), (G, .inr (1, [.ref GB, .ref GW, .ref GR])), (GB, zArr cI 64 bo), (GW, zArr cI 64 wo), (GR, zArr cI 6 ro), (FR, zArr cI 6 fr)] (iI (fr j)) := by
  refine zRi_of (cc := cX2_firstRebateOf) (maxL := 2) (rt := .int) (by decide) rfl (Nat.le_of_ble_eq_true rfl) ?_
  intro p e s m args below meth c ls hF hr hlocks hP hK hl
  have hF : zFix p m c cX2_firstRebateOf 2 s args wsX2_firstRebateOf RX2 := hF
  obtain ⟨hx, hb, hml, hown, hts⟩ := id hF
  have hP : va_P D vwCl [(h, .inr (2, [.ref B, .ref G, .ref TB, .ref TG, .ref FR, .ref CH, .int (iI (rc)), .int (iI (sh)), .int (iI (po))])), (B, .inr (0, [.ref C, .int (iI ((n : Nat) : Int))])), (C, zArr cI 36 b), (G, .inr (1, [.ref GB, .ref GW, .ref GR])), (GB, zArr cI 64 bo), (GW, zArr cI 64 wo), (GR, zArr cI 6 ro), (FR, zArr cI 6 fr)] s.heap := hP
  have hl : lv_has ls 2 [(0, .ref h), (1, .int (iI ((j : Nat) : Int)))] := hl
  refine lv_aload_n hx hb dX2_firstRebateOf_0 rfl (lv_at hl 0 rfl) ?_
  refine va_get (D := D) (ci := 2) (v := .ref B) (C := RX2) (T := TX2) (N := 9) hx hb hts (by decide +kernel) hown hK hP 0 rfl rfl 0 (by decide) (hts (.fieldLink RX2 10 "RentHarmony" "bids" "LRentHarmony$Bids;") (by decide +kernel)) (fun _ h9 => h9) rfl dX2_firstRebateOf_1 ?_
  refine lv_iload_n hx hb dX2_firstRebateOf_4 rfl (lv_at hl 1 rfl) ?_
  refine zc_ri (As := [.int (iI ((j : Nat) : Int))]) (rest := []) hF (c_X0_has l D cI B C n b ((j : Nat) : Int) (by omega) (zB_of (by omega) (by omega))) (cwV 1 hts gX2_firstRebateOf_X0_has rfl rfl rfl (by decide +kernel) ⟨Nat.le_of_ble_eq_true rfl, Nat.le_of_ble_eq_true rfl⟩) hK hP [1, 2] rfl 0 rfl 0 rfl rfl rfl rfl hl.1 rfl (Nat.le_of_ble_eq_true rfl) dX2_firstRebateOf_5 ⟨Nat.zero_le _, Nat.zero_le _⟩ ?_
  refine zr_ifB_eq (tgt := 20) hx hb dX2_firstRebateOf_8 (by decide)  (fun c1 => ?_) (fun c1 => ?_)
  · exact absurd (by omega) c1
  · refine lv_aload_n hx hb dX2_firstRebateOf_11 rfl (lv_at hl 0 rfl) ?_
    refine va_get (D := D) (ci := 2) (v := .ref FR) (C := RX2) (T := TX2) (N := 9) hx hb hts (by decide +kernel) hown hK hP 0 rfl rfl 4 (by decide) (hts (.fieldLink RX2 29 "RentHarmony" "firstRebates" "[I") (by decide +kernel)) (fun _ h9 => h9) rfl dX2_firstRebateOf_12 ?_
    refine lv_iload_n hx hb dX2_firstRebateOf_15 rfl (lv_at hl 1 rfl) ?_
    refine zr_iald hx hb hK hP 7 0 rfl rfl (j) (by omega) (by omega) (by omega) dX2_firstRebateOf_16 ?_
    refine lv_goto (tgt := 21) hx hb dX2_firstRebateOf_17 (by decide) ?_
    exact zRi_ret hx hb hr hlocks dX2_firstRebateOf_21 rfl
set_option maxHeartbeats 4000000 in
set_option maxRecDepth 100000 in
/-- X2_rebateOf -/
theorem c_X2_rebateOf (l : Launch) (D : va_G) (cI : ClassId) (h B C G GB GW GR TB TG FR CH n : Nat) (b bo wo ro fr : Nat → Int) (rc sh po : Int) (g : Nat → Nat) (j : Nat) (hn : n ≤ 6) (hb0 : ∀ k, 0 ≤ b k ∧ b k ≤ 999) (hro : ∀ j, j < n → ro j = ((g j : Nat) : Int)) (hgn : ∀ j, j < n → g j < n) (hj : j < n) : zRi l yX2_rebateOf wsX2_rebateOf 2 42 D cI [.ref h, .int (iI ((j : Nat) : Int))] [(h, .inr (2, [.ref B, .ref G, .ref TB, .ref TG, .ref FR, .ref CH, .int (iI (rc)), .int (iI (sh)), .int (iI (po))])), (B, .inr (0, [.ref C, .int (iI ((n : Nat) : Int))])), (C, zArr cI 36 b), (G, .inr (1, [.ref GB, .ref GW, .ref GR])), (GB, zArr cI 64 bo), (GW, zArr cI 64 wo), (GR, zArr cI 6 ro), (FR, zArr cI 6 fr)] (iI (fr j + sh)) := by
  refine zRi_of (cc := cX2_rebateOf) (maxL := 2) (rt := .int) (by decide) rfl (Nat.le_of_ble_eq_true rfl) ?_
  intro p e s m args below meth c ls hF hr hlocks hP hK hl
  have hF : zFix p m c cX2_rebateOf 2 s args wsX2_rebateOf RX2 := hF
  obtain ⟨hx, hb, hml, hown, hts⟩ := id hF
  have hP : va_P D vwCl [(h, .inr (2, [.ref B, .ref G, .ref TB, .ref TG, .ref FR, .ref CH, .int (iI (rc)), .int (iI (sh)), .int (iI (po))])), (B, .inr (0, [.ref C, .int (iI ((n : Nat) : Int))])), (C, zArr cI 36 b), (G, .inr (1, [.ref GB, .ref GW, .ref GR])), (GB, zArr cI 64 bo), (GW, zArr cI 64 wo), (GR, zArr cI 6 ro), (FR, zArr cI 6 fr)] s.heap := hP
  have hl : lv_has ls 2 [(0, .ref h), (1, .int (iI ((j : Nat) : Int)))] := hl
  refine lv_aload_n hx hb dX2_rebateOf_0 rfl (lv_at hl 0 rfl) ?_
  refine lv_iload_n hx hb dX2_rebateOf_1 rfl (lv_at hl 1 rfl) ?_
  refine zc_ri (As := [.int (iI ((j : Nat) : Int))]) (rest := []) hF (c_X2_firstRebateOf l D cI h B C G GB GW GR TB TG FR CH n b bo wo ro fr rc sh po g j (by omega) (by assumption) (by assumption) (by assumption) (by omega)) (cwV 1 hts gX2_rebateOf_X2_firstRebateOf rfl rfl rfl (by decide +kernel) ⟨Nat.le_of_ble_eq_true rfl, Nat.le_of_ble_eq_true rfl⟩) hK hP [0, 1, 2, 3, 4, 5, 6, 7] rfl 0 rfl 0 rfl rfl rfl rfl hl.1 rfl (Nat.le_of_ble_eq_true rfl) dX2_rebateOf_2 ⟨Nat.zero_le _, Nat.zero_le _⟩ ?_
  refine lv_aload_n hx hb dX2_rebateOf_5 rfl (lv_at hl 0 rfl) ?_
  refine va_get (D := D) (ci := 2) (v := .int (iI (sh))) (C := RX2) (T := TX2) (N := 9) hx hb hts (by decide +kernel) hown hK hP 0 rfl rfl 7 (by decide) (hts (.fieldLink RX2 40 "RentHarmony" "share" "I") (by decide +kernel)) (fun _ h9 => h9) rfl dX2_rebateOf_6 ?_
  refine zr_add hx hb dX2_rebateOf_9 ?_
  exact zRi_ret hx hb hr hlocks dX2_rebateOf_10 rfl
set_option maxHeartbeats 4000000 in
set_option maxRecDepth 100000 in
/-- X2_payOf -/
theorem c_X2_payOf (l : Launch) (D : va_G) (cI : ClassId) (h B C G GB GW GR TB TG FR CH n : Nat) (b bo wo ro fr : Nat → Int) (rc sh po : Int) (g : Nat → Nat) (j : Nat) (hn : n ≤ 6) (hb0 : ∀ k, 0 ≤ b k ∧ b k ≤ 999) (hro : ∀ j, j < n → ro j = ((g j : Nat) : Int)) (hgn : ∀ j, j < n → g j < n) (hj : j < n) : zRi l yX2_payOf wsX2_payOf 3 64 D cI [.ref h, .int (iI ((j : Nat) : Int))] [(h, .inr (2, [.ref B, .ref G, .ref TB, .ref TG, .ref FR, .ref CH, .int (iI (rc)), .int (iI (sh)), .int (iI (po))])), (B, .inr (0, [.ref C, .int (iI ((n : Nat) : Int))])), (C, zArr cI 36 b), (G, .inr (1, [.ref GB, .ref GW, .ref GR])), (GB, zArr cI 64 bo), (GW, zArr cI 64 wo), (GR, zArr cI 6 ro), (FR, zArr cI 6 fr)] (iI (zPay b g fr sh j)) := by
  refine zRi_of (cc := cX2_payOf) (maxL := 2) (rt := .int) (by decide) rfl (Nat.le_of_ble_eq_true rfl) ?_
  intro p e s m args below meth c ls hF hr hlocks hP hK hl
  have hF : zFix p m c cX2_payOf 2 s args wsX2_payOf RX2 := hF
  obtain ⟨hx, hb, hml, hown, hts⟩ := id hF
  have hP : va_P D vwCl [(h, .inr (2, [.ref B, .ref G, .ref TB, .ref TG, .ref FR, .ref CH, .int (iI (rc)), .int (iI (sh)), .int (iI (po))])), (B, .inr (0, [.ref C, .int (iI ((n : Nat) : Int))])), (C, zArr cI 36 b), (G, .inr (1, [.ref GB, .ref GW, .ref GR])), (GB, zArr cI 64 bo), (GW, zArr cI 64 wo), (GR, zArr cI 6 ro), (FR, zArr cI 6 fr)] s.heap := hP
  have hl : lv_has ls 2 [(0, .ref h), (1, .int (iI ((j : Nat) : Int)))] := hl
  refine lv_aload_n hx hb dX2_payOf_0 rfl (lv_at hl 0 rfl) ?_
  refine lv_iload_n hx hb dX2_payOf_1 rfl (lv_at hl 1 rfl) ?_
  refine zc_ri (As := [.int (iI ((j : Nat) : Int))]) (rest := []) hF (c_X2_ownBidOf l D cI h B C G GB GW GR TB TG FR CH n b bo wo ro fr rc sh po g j (by omega) (by assumption) (by assumption) (by assumption) (by omega)) (cwV 1 hts gX2_payOf_X2_ownBidOf rfl rfl rfl (by decide +kernel) ⟨Nat.le_of_ble_eq_true rfl, Nat.le_of_ble_eq_true rfl⟩) hK hP [0, 1, 2, 3, 4, 5, 6, 7] rfl 0 rfl 0 rfl rfl rfl rfl hl.1 rfl (Nat.le_of_ble_eq_true rfl) dX2_payOf_2 ⟨Nat.zero_le _, Nat.zero_le _⟩ ?_
  have hf1 := hb0 (j * 6 + g j)
  refine lv_aload_n hx hb dX2_payOf_5 rfl (lv_at hl 0 rfl) ?_
  refine lv_iload_n hx hb dX2_payOf_6 rfl (lv_at hl 1 rfl) ?_
  refine zc_ri (As := [.int (iI ((j : Nat) : Int))]) (rest := [.int (iI (b (j * 6 + g j)))]) hF (c_X2_rebateOf l D cI h B C G GB GW GR TB TG FR CH n b bo wo ro fr rc sh po g j (by omega) (by assumption) (by assumption) (by assumption) (by omega)) (cwV 1 hts gX2_payOf_X2_rebateOf rfl rfl rfl (by decide +kernel) ⟨Nat.le_of_ble_eq_true rfl, Nat.le_of_ble_eq_true rfl⟩) hK hP [0, 1, 2, 3, 4, 5, 6, 7] rfl 0 rfl 0 rfl rfl rfl rfl hl.1 rfl (Nat.le_of_ble_eq_true rfl) dX2_payOf_7 ⟨Nat.zero_le _, Nat.zero_le _⟩ ?_
  refine zr_sub hx hb dX2_payOf_10 ?_
  exact zRi_ret hx hb hr hlocks dX2_payOf_11 rfl
set_option maxHeartbeats 4000000 in
set_option maxRecDepth 100000 in
/-- X2_allFirstRebates -/
theorem c_X2_allFirstRebates (l : Launch) (D : va_G) (cI : ClassId) (h B C G GB GW GR TB TG FR CH n : Nat) (b bo wo ro fr : Nat → Int) (rc sh po : Int) (g : Nat → Nat) (hn : n ≤ 6) (hb0 : ∀ k, 0 ≤ b k ∧ b k ≤ 999) (hro : ∀ j, j < n → ro j = ((g j : Nat) : Int)) (hgn : ∀ j, j < n → g j < n) : zRi l yX2_allFirstRebates wsX2_allFirstRebates 1 20 D cI [.ref h] [(h, .inr (2, [.ref B, .ref G, .ref TB, .ref TG, .ref FR, .ref CH, .int (iI (rc)), .int (iI (sh)), .int (iI (po))])), (B, .inr (0, [.ref C, .int (iI ((n : Nat) : Int))])), (C, zArr cI 36 b), (G, .inr (1, [.ref GB, .ref GW, .ref GR])), (GB, zArr cI 64 bo), (GW, zArr cI 64 wo), (GR, zArr cI 6 ro), (FR, zArr cI 6 fr)] (iI (zSum fr n)) := by
  refine zRi_of (cc := cX2_allFirstRebates) (maxL := 3) (rt := .int) (by decide) rfl (Nat.le_of_ble_eq_true rfl) ?_
  intro p e s m args below meth c ls hF hr hlocks hP hK hl
  have hF : zFix p m c cX2_allFirstRebates 3 s args wsX2_allFirstRebates RX2 := hF
  obtain ⟨hx, hb, hml, hown, hts⟩ := id hF
  have hP : va_P D vwCl [(h, .inr (2, [.ref B, .ref G, .ref TB, .ref TG, .ref FR, .ref CH, .int (iI (rc)), .int (iI (sh)), .int (iI (po))])), (B, .inr (0, [.ref C, .int (iI ((n : Nat) : Int))])), (C, zArr cI 36 b), (G, .inr (1, [.ref GB, .ref GW, .ref GR])), (GB, zArr cI 64 bo), (GW, zArr cI 64 wo), (GR, zArr cI 6 ro), (FR, zArr cI 6 fr)] s.heap := hP
  have hl : lv_has ls 3 [(0, .ref h)] := hl
  refine zr_ic (n := ((0 : Nat) : Int)) hx hb dX2_allFirstRebates_0 ?_
  refine lv_istore_n (lv' := [(1, .int (iI ((0 : Nat) : Int))), (0, .ref h)]) hx hb dX2_allFirstRebates_1 rfl hl (by decide) rfl (fun ls hl => ?_)
  refine zr_ic (n := ((0 : Nat) : Int)) hx hb dX2_allFirstRebates_2 ?_
  refine lv_istore_n (lv' := [(2, .int (iI ((0 : Nat) : Int))), (1, .int (iI ((0 : Nat) : Int))), (0, .ref h)]) hx hb dX2_allFirstRebates_3 rfl hl (by decide) rfl (fun ls hl => ?_)
  have LS : ∀ (k0 : Nat) (i : Nat), n - i < k0 → (hi : i ≤ n) → ∀ (ls : Array Slot), lv_has ls 3 [(0, .ref h), (1, .int (iI (zSum fr i))), (2, .int (iI ((i : Nat) : Int)))] → W p l e (zRm 1 20) s m args below meth c s.heap [] 0 0 (MQ below (vp_Si (fun x => x = (iI (zSum fr n)))) args s 0 0 (fun _ => False)) (F0 m 4 ls []) := by
    intro k0
    induction k0 with
    | zero => intro i hk; exact absurd hk (Nat.not_lt_zero _)
    | succ k0 ih_LS =>
      intro i hk hi ls hl
      refine lv_iload_n hx hb dX2_allFirstRebates_4 rfl (lv_at hl 2 rfl) ?_
      refine lv_aload_n hx hb dX2_allFirstRebates_5 rfl (lv_at hl 0 rfl) ?_
      refine va_get (D := D) (ci := 2) (v := .ref B) (C := RX2) (T := TX2) (N := 9) hx hb hts (by decide +kernel) hown hK hP 0 rfl rfl 0 (by decide) (hts (.fieldLink RX2 10 "RentHarmony" "bids" "LRentHarmony$Bids;") (by decide +kernel)) (fun _ h9 => h9) rfl dX2_allFirstRebates_6 ?_
      refine zc_ri (As := []) (rest := [.int (iI ((i : Nat) : Int))]) hF (c_X0_size l D cI B C n b ) (cwV 0 hts gX2_allFirstRebates_X0_size rfl rfl rfl (by decide +kernel) ⟨Nat.le_of_ble_eq_true rfl, Nat.le_of_ble_eq_true rfl⟩) hK hP [1, 2] rfl 0 rfl 0 rfl rfl rfl rfl hl.1 rfl (Nat.le_of_ble_eq_true rfl) dX2_allFirstRebates_9 ⟨Nat.zero_le _, Nat.zero_le _⟩ ?_
      refine zr_icmp_ge (tgt := 30) hx hb dX2_allFirstRebates_12 (by decide) (zB_of (by omega) (by omega)) (zB_of (by omega) (by omega)) (fun c1 => ?_) (fun c1 => ?_)
      · refine lv_iload_n hx hb dX2_allFirstRebates_30 rfl (lv_at hl 1 rfl) ?_
        exact zRi_ret hx hb hr hlocks dX2_allFirstRebates_31 (by rw [show i = n by omega])
      · refine lv_iload_n hx hb dX2_allFirstRebates_15 rfl (lv_at hl 1 rfl) ?_
        refine lv_aload_n hx hb dX2_allFirstRebates_16 rfl (lv_at hl 0 rfl) ?_
        refine va_get (D := D) (ci := 2) (v := .ref FR) (C := RX2) (T := TX2) (N := 9) hx hb hts (by decide +kernel) hown hK hP 0 rfl rfl 4 (by decide) (hts (.fieldLink RX2 29 "RentHarmony" "firstRebates" "[I") (by decide +kernel)) (fun _ h9 => h9) rfl dX2_allFirstRebates_17 ?_
        refine lv_iload_n hx hb dX2_allFirstRebates_20 rfl (lv_at hl 2 rfl) ?_
        refine zr_iald hx hb hK hP 7 0 rfl rfl (i) (by omega) (by omega) (by omega) dX2_allFirstRebates_21 ?_
        refine zr_add hx hb dX2_allFirstRebates_22 ?_
        refine lv_istore_n (lv' := [(1, .int (iI ((zSum fr i) + (fr (i))))), (0, .ref h), (2, .int (iI ((i : Nat) : Int)))]) hx hb dX2_allFirstRebates_23 rfl hl (by decide) rfl (fun ls hl => ?_)
        refine zr_iinc (lv2 := [(2, .int (iI (((i : Nat) : Int) + 1))), (1, .int (iI ((zSum fr i) + (fr (i))))), (0, .ref h)]) hx hb dX2_allFirstRebates_24 hl (k0 := 2) rfl (by decide) rfl (fun ls hl => ?_)
        have hl : lv_has ls 3 [(2, .int (iI ((i + 1 : Nat) : Int))), (1, .int (iI ((zSum fr i) + (fr (i))))), (0, .ref h)] := hl
        refine lv_goto (tgt := 4) hx hb dX2_allFirstRebates_27 (by decide) ?_
        have hl : lv_has ls 3 [(2, .int (iI ((i + 1 : Nat) : Int))), (1, .int (iI (zSum fr (i + 1)))), (0, .ref h)] := by rw [show (zSum fr (i + 1)) = ((zSum fr i) + (fr (i))) from rfl]; exact hl
        exact ih_LS (i + 1) (by omega) (by omega) _ (lv_sub hl [2, 1, 0] rfl)
  have hl : lv_has ls 3 [(2, .int (iI ((0 : Nat) : Int))), (1, .int (iI (zSum fr 0))), (0, .ref h)] := by rw [show (zSum fr 0) = ((0 : Nat) : Int) from rfl]; exact hl
  exact LS ((n - (0)) + 1) (0) (Nat.lt_succ_self _) (by omega) _ (lv_sub hl [2, 1, 0] rfl)
set_option maxHeartbeats 4000000 in
set_option maxRecDepth 100000 in
/-- X2_allPays -/
theorem c_X2_allPays (l : Launch) (D : va_G) (cI : ClassId) (h B C G GB GW GR TB TG FR CH n : Nat) (b bo wo ro fr : Nat → Int) (rc sh po : Int) (g : Nat → Nat) (hn : n ≤ 6) (hb0 : ∀ k, 0 ≤ b k ∧ b k ≤ 999) (hro : ∀ j, j < n → ro j = ((g j : Nat) : Int)) (hgn : ∀ j, j < n → g j < n) : zRi l yX2_allPays wsX2_allPays 4 85 D cI [.ref h] [(h, .inr (2, [.ref B, .ref G, .ref TB, .ref TG, .ref FR, .ref CH, .int (iI (rc)), .int (iI (sh)), .int (iI (po))])), (B, .inr (0, [.ref C, .int (iI ((n : Nat) : Int))])), (C, zArr cI 36 b), (G, .inr (1, [.ref GB, .ref GW, .ref GR])), (GB, zArr cI 64 bo), (GW, zArr cI 64 wo), (GR, zArr cI 6 ro), (FR, zArr cI 6 fr)] (iI (zSum (zPay b g fr sh) n)) := by
  refine zRi_of (cc := cX2_allPays) (maxL := 3) (rt := .int) (by decide) rfl (Nat.le_of_ble_eq_true rfl) ?_
  intro p e s m args below meth c ls hF hr hlocks hP hK hl
  have hF : zFix p m c cX2_allPays 3 s args wsX2_allPays RX2 := hF
  obtain ⟨hx, hb, hml, hown, hts⟩ := id hF
  have hP : va_P D vwCl [(h, .inr (2, [.ref B, .ref G, .ref TB, .ref TG, .ref FR, .ref CH, .int (iI (rc)), .int (iI (sh)), .int (iI (po))])), (B, .inr (0, [.ref C, .int (iI ((n : Nat) : Int))])), (C, zArr cI 36 b), (G, .inr (1, [.ref GB, .ref GW, .ref GR])), (GB, zArr cI 64 bo), (GW, zArr cI 64 wo), (GR, zArr cI 6 ro), (FR, zArr cI 6 fr)] s.heap := hP
  have hl : lv_has ls 3 [(0, .ref h)] := hl
  refine zr_ic (n := ((0 : Nat) : Int)) hx hb dX2_allPays_0 ?_
  refine lv_istore_n (lv' := [(1, .int (iI ((0 : Nat) : Int))), (0, .ref h)]) hx hb dX2_allPays_1 rfl hl (by decide) rfl (fun ls hl => ?_)
  refine zr_ic (n := ((0 : Nat) : Int)) hx hb dX2_allPays_2 ?_
  refine lv_istore_n (lv' := [(2, .int (iI ((0 : Nat) : Int))), (1, .int (iI ((0 : Nat) : Int))), (0, .ref h)]) hx hb dX2_allPays_3 rfl hl (by decide) rfl (fun ls hl => ?_)
  have LS : ∀ (k0 : Nat) (i : Nat), n - i < k0 → (hi : i ≤ n) → ∀ (ls : Array Slot), lv_has ls 3 [(0, .ref h), (1, .int (iI (zSum (zPay b g fr sh) i))), (2, .int (iI ((i : Nat) : Int)))] → W p l e (zRm 4 85) s m args below meth c s.heap [] 0 0 (MQ below (vp_Si (fun x => x = (iI (zSum (zPay b g fr sh) n)))) args s 0 0 (fun _ => False)) (F0 m 4 ls []) := by
    intro k0
    induction k0 with
    | zero => intro i hk; exact absurd hk (Nat.not_lt_zero _)
    | succ k0 ih_LS =>
      intro i hk hi ls hl
      refine lv_iload_n hx hb dX2_allPays_4 rfl (lv_at hl 2 rfl) ?_
      refine lv_aload_n hx hb dX2_allPays_5 rfl (lv_at hl 0 rfl) ?_
      refine va_get (D := D) (ci := 2) (v := .ref B) (C := RX2) (T := TX2) (N := 9) hx hb hts (by decide +kernel) hown hK hP 0 rfl rfl 0 (by decide) (hts (.fieldLink RX2 10 "RentHarmony" "bids" "LRentHarmony$Bids;") (by decide +kernel)) (fun _ h9 => h9) rfl dX2_allPays_6 ?_
      refine zc_ri (As := []) (rest := [.int (iI ((i : Nat) : Int))]) hF (c_X0_size l D cI B C n b ) (cwV 0 hts gX2_allPays_X0_size rfl rfl rfl (by decide +kernel) ⟨Nat.le_of_ble_eq_true rfl, Nat.le_of_ble_eq_true rfl⟩) hK hP [1, 2] rfl 0 rfl 0 rfl rfl rfl rfl hl.1 rfl (Nat.le_of_ble_eq_true rfl) dX2_allPays_9 ⟨Nat.zero_le _, Nat.zero_le _⟩ ?_
      refine zr_icmp_ge (tgt := 29) hx hb dX2_allPays_12 (by decide) (zB_of (by omega) (by omega)) (zB_of (by omega) (by omega)) (fun c1 => ?_) (fun c1 => ?_)
      · refine lv_iload_n hx hb dX2_allPays_29 rfl (lv_at hl 1 rfl) ?_
        exact zRi_ret hx hb hr hlocks dX2_allPays_30 (by rw [show i = n by omega])
      · refine lv_iload_n hx hb dX2_allPays_15 rfl (lv_at hl 1 rfl) ?_
        refine lv_aload_n hx hb dX2_allPays_16 rfl (lv_at hl 0 rfl) ?_
        refine lv_iload_n hx hb dX2_allPays_17 rfl (lv_at hl 2 rfl) ?_
        refine zc_ri (As := [.int (iI ((i : Nat) : Int))]) (rest := [.int (iI (zSum (zPay b g fr sh) i))]) hF (c_X2_payOf l D cI h B C G GB GW GR TB TG FR CH n b bo wo ro fr rc sh po g i (by omega) (by assumption) (by assumption) (by assumption) (by omega)) (cwV 1 hts gX2_allPays_X2_payOf rfl rfl rfl (by decide +kernel) ⟨Nat.le_of_ble_eq_true rfl, Nat.le_of_ble_eq_true rfl⟩) hK hP [0, 1, 2, 3, 4, 5, 6, 7] rfl 0 rfl 0 rfl rfl rfl rfl hl.1 rfl (Nat.le_of_ble_eq_true rfl) dX2_allPays_18 ⟨Nat.zero_le _, Nat.zero_le _⟩ ?_
        refine zr_add hx hb dX2_allPays_21 ?_
        refine lv_istore_n (lv' := [(1, .int (iI ((zSum (zPay b g fr sh) i) + (zPay b g fr sh i)))), (0, .ref h), (2, .int (iI ((i : Nat) : Int)))]) hx hb dX2_allPays_22 rfl hl (by decide) rfl (fun ls hl => ?_)
        refine zr_iinc (lv2 := [(2, .int (iI (((i : Nat) : Int) + 1))), (1, .int (iI ((zSum (zPay b g fr sh) i) + (zPay b g fr sh i)))), (0, .ref h)]) hx hb dX2_allPays_23 hl (k0 := 2) rfl (by decide) rfl (fun ls hl => ?_)
        have hl : lv_has ls 3 [(2, .int (iI ((i + 1 : Nat) : Int))), (1, .int (iI ((zSum (zPay b g fr sh) i) + (zPay b g fr sh i)))), (0, .ref h)] := hl
        refine lv_goto (tgt := 4) hx hb dX2_allPays_26 (by decide) ?_
        have hl : lv_has ls 3 [(2, .int (iI ((i + 1 : Nat) : Int))), (1, .int (iI (zSum (zPay b g fr sh) (i + 1)))), (0, .ref h)] := by rw [show (zSum (zPay b g fr sh) (i + 1)) = ((zSum (zPay b g fr sh) i) + (zPay b g fr sh i)) from rfl]; exact hl
        exact ih_LS (i + 1) (by omega) (by omega) _ (lv_sub hl [2, 1, 0] rfl)
  have hl : lv_has ls 3 [(2, .int (iI ((0 : Nat) : Int))), (1, .int (iI (zSum (zPay b g fr sh) 0))), (0, .ref h)] := by rw [show (zSum (zPay b g fr sh) 0) = ((0 : Nat) : Int) from rfl]; exact hl
  exact LS ((n - (0)) + 1) (0) (Nat.lt_succ_self _) (by omega) _ (lv_sub hl [2, 1, 0] rfl)
set_option maxHeartbeats 4000000 in
set_option maxRecDepth 100000 in
/-- X2_wouldEnvy -/
theorem c_X2_wouldEnvy (l : Launch) (D : va_G) (cI : ClassId) (h B C G GB GW GR TB TG FR CH n : Nat) (b bo wo ro fr : Nat → Int) (rc sh po : Int) (g : Nat → Nat) (j k : Nat) (hn : n ≤ 6) (hb0 : ∀ k, 0 ≤ b k ∧ b k ≤ 999) (hro : ∀ j, j < n → ro j = ((g j : Nat) : Int)) (hgn : ∀ j, j < n → g j < n) (hj : j < n) (hk : k < n) : zRi l yX2_wouldEnvy wsX2_wouldEnvy 3 64 D cI [.ref h, .int (iI ((j : Nat) : Int)), .int (iI ((k : Nat) : Int))] [(h, .inr (2, [.ref B, .ref G, .ref TB, .ref TG, .ref FR, .ref CH, .int (iI (rc)), .int (iI (sh)), .int (iI (po))])), (B, .inr (0, [.ref C, .int (iI ((n : Nat) : Int))])), (C, zArr cI 36 b), (G, .inr (1, [.ref GB, .ref GW, .ref GR])), (GB, zArr cI 64 bo), (GW, zArr cI 64 wo), (GR, zArr cI 6 ro), (FR, zArr cI 6 fr)] (iI (bZ (zEn b g j k))) := by
  refine zRi_of (cc := cX2_wouldEnvy) (maxL := 3) (rt := .boolean) (by decide) rfl (Nat.le_of_ble_eq_true rfl) ?_
  intro p e s m args below meth c ls hF hr hlocks hP hK hl
  have hF : zFix p m c cX2_wouldEnvy 3 s args wsX2_wouldEnvy RX2 := hF
  obtain ⟨hx, hb, hml, hown, hts⟩ := id hF
  have hP : va_P D vwCl [(h, .inr (2, [.ref B, .ref G, .ref TB, .ref TG, .ref FR, .ref CH, .int (iI (rc)), .int (iI (sh)), .int (iI (po))])), (B, .inr (0, [.ref C, .int (iI ((n : Nat) : Int))])), (C, zArr cI 36 b), (G, .inr (1, [.ref GB, .ref GW, .ref GR])), (GB, zArr cI 64 bo), (GW, zArr cI 64 wo), (GR, zArr cI 6 ro), (FR, zArr cI 6 fr)] s.heap := hP
  have hl : lv_has ls 3 [(0, .ref h), (1, .int (iI ((j : Nat) : Int))), (2, .int (iI ((k : Nat) : Int)))] := hl
  refine lv_aload_n hx hb dX2_wouldEnvy_0 rfl (lv_at hl 0 rfl) ?_
  refine va_get (D := D) (ci := 2) (v := .ref B) (C := RX2) (T := TX2) (N := 9) hx hb hts (by decide +kernel) hown hK hP 0 rfl rfl 0 (by decide) (hts (.fieldLink RX2 10 "RentHarmony" "bids" "LRentHarmony$Bids;") (by decide +kernel)) (fun _ h9 => h9) rfl dX2_wouldEnvy_1 ?_
  refine lv_iload_n hx hb dX2_wouldEnvy_4 rfl (lv_at hl 1 rfl) ?_
  refine lv_aload_n hx hb dX2_wouldEnvy_5 rfl (lv_at hl 0 rfl) ?_
  refine va_get (D := D) (ci := 2) (v := .ref G) (C := RX2) (T := TX2) (N := 9) hx hb hts (by decide +kernel) hown hK hP 0 rfl rfl 1 (by decide) (hts (.fieldLink RX2 19 "RentHarmony" "giving" "LRentHarmony$Giving;") (by decide +kernel)) (fun _ h9 => h9) rfl dX2_wouldEnvy_6 ?_
  refine lv_iload_n hx hb dX2_wouldEnvy_9 rfl (lv_at hl 2 rfl) ?_
  refine zc_ri (As := [.int (iI ((k : Nat) : Int))]) (rest := [.int (iI ((j : Nat) : Int)), .ref B]) hF (c_X1_roomOfN l D cI G GB GW GR bo wo ro g k (by omega) (hro _ (by omega))) (cwV 1 hts gX2_wouldEnvy_X1_roomOf rfl rfl rfl (by decide +kernel) ⟨Nat.le_of_ble_eq_true rfl, Nat.le_of_ble_eq_true rfl⟩) hK hP [3, 4, 5, 6] rfl 0 rfl 0 rfl rfl rfl rfl hl.1 rfl (Nat.le_of_ble_eq_true rfl) dX2_wouldEnvy_10 ⟨Nat.zero_le _, Nat.zero_le _⟩ ?_
  have hf1 := hgn k (by omega)
  refine zc_ri (As := [.int (iI ((j : Nat) : Int)), .int (iI ((g k : Nat) : Int))]) (rest := []) hF (c_X0_of l D cI B C n b j (g k) (by omega) (by omega) (by omega)) (cwV 2 hts gX2_wouldEnvy_X0_of rfl rfl rfl (by decide +kernel) ⟨Nat.le_of_ble_eq_true rfl, Nat.le_of_ble_eq_true rfl⟩) hK hP [1, 2] rfl 0 rfl 0 rfl rfl rfl rfl hl.1 rfl (Nat.le_of_ble_eq_true rfl) dX2_wouldEnvy_13 ⟨Nat.zero_le _, Nat.zero_le _⟩ ?_
  have hbx := hb0 (j * 6 + g k)
  refine lv_aload_n hx hb dX2_wouldEnvy_16 rfl (lv_at hl 0 rfl) ?_
  refine lv_iload_n hx hb dX2_wouldEnvy_17 rfl (lv_at hl 1 rfl) ?_
  refine zc_ri (As := [.int (iI ((j : Nat) : Int))]) (rest := [.int (iI (b (j * 6 + (g k))))]) hF (c_X2_ownBidOf l D cI h B C G GB GW GR TB TG FR CH n b bo wo ro fr rc sh po g j (by omega) (by assumption) (by assumption) (by assumption) (by omega)) (cwV 1 hts gX2_wouldEnvy_X2_ownBidOf rfl rfl rfl (by decide +kernel) ⟨Nat.le_of_ble_eq_true rfl, Nat.le_of_ble_eq_true rfl⟩) hK hP [0, 1, 2, 3, 4, 5, 6, 7] rfl 0 rfl 0 rfl rfl rfl rfl hl.1 rfl (Nat.le_of_ble_eq_true rfl) dX2_wouldEnvy_18 ⟨Nat.zero_le _, Nat.zero_le _⟩ ?_
  have hf2 := hb0 (j * 6 + g j)
  refine zr_icmp_le (tgt := 28) hx hb dX2_wouldEnvy_21 (by decide) (zB_of (by omega) (by omega)) (zB_of (by omega) (by omega)) (fun c3 => ?_) (fun c3 => ?_)
  · refine zr_ic (n := ((0 : Nat) : Int)) hx hb dX2_wouldEnvy_28 ?_
    exact zRi_retz hx hb hr rfl hlocks dX2_wouldEnvy_29 (congrArg iI (bZ_f (by omega)).symm)
  · refine zr_ic (n := ((1 : Nat) : Int)) hx hb dX2_wouldEnvy_24 ?_
    refine lv_goto (tgt := 29) hx hb dX2_wouldEnvy_25 (by decide) ?_
    exact zRi_retz hx hb hr rfl hlocks dX2_wouldEnvy_29 (congrArg iI (bZ_t (by omega)).symm)
set_option maxHeartbeats 4000000 in
set_option maxRecDepth 100000 in
/-- X2_enviedBy -/
theorem c_X2_enviedBy (l : Launch) (D : va_G) (cI : ClassId) (h B C G GB GW GR TB TG FR CH n : Nat) (b bo wo ro fr : Nat → Int) (rc sh po : Int) (g : Nat → Nat) (j : Nat) (hn : n ≤ 6) (hb0 : ∀ k, 0 ≤ b k ∧ b k ≤ 999) (hro : ∀ j, j < n → ro j = ((g j : Nat) : Int)) (hgn : ∀ j, j < n → g j < n) (hj : j < n) : zRi l yX2_enviedBy wsX2_enviedBy 4 86 D cI [.ref h, .int (iI ((j : Nat) : Int))] [(h, .inr (2, [.ref B, .ref G, .ref TB, .ref TG, .ref FR, .ref CH, .int (iI (rc)), .int (iI (sh)), .int (iI (po))])), (B, .inr (0, [.ref C, .int (iI ((n : Nat) : Int))])), (C, zArr cI 36 b), (G, .inr (1, [.ref GB, .ref GW, .ref GR])), (GB, zArr cI 64 bo), (GW, zArr cI 64 wo), (GR, zArr cI 6 ro), (FR, zArr cI 6 fr)] (iI (zEnvd b g j n)) := by
  refine zRi_of (cc := cX2_enviedBy) (maxL := 4) (rt := .int) (by decide) rfl (Nat.le_of_ble_eq_true rfl) ?_
  intro p e s m args below meth c ls hF hr hlocks hP hK hl
  have hF : zFix p m c cX2_enviedBy 4 s args wsX2_enviedBy RX2 := hF
  obtain ⟨hx, hb, hml, hown, hts⟩ := id hF
  have hP : va_P D vwCl [(h, .inr (2, [.ref B, .ref G, .ref TB, .ref TG, .ref FR, .ref CH, .int (iI (rc)), .int (iI (sh)), .int (iI (po))])), (B, .inr (0, [.ref C, .int (iI ((n : Nat) : Int))])), (C, zArr cI 36 b), (G, .inr (1, [.ref GB, .ref GW, .ref GR])), (GB, zArr cI 64 bo), (GW, zArr cI 64 wo), (GR, zArr cI 6 ro), (FR, zArr cI 6 fr)] s.heap := hP
  have hl : lv_has ls 4 [(0, .ref h), (1, .int (iI ((j : Nat) : Int)))] := hl
  refine zr_ic (n := ((0 : Nat) : Int)) hx hb dX2_enviedBy_0 ?_
  refine lv_istore_n (lv' := [(2, .int (iI ((0 : Nat) : Int))), (0, .ref h), (1, .int (iI ((j : Nat) : Int)))]) hx hb dX2_enviedBy_1 rfl hl (by decide) rfl (fun ls hl => ?_)
  refine zr_ic (n := ((0 : Nat) : Int)) hx hb dX2_enviedBy_2 ?_
  refine lv_istore_n (lv' := [(3, .int (iI ((0 : Nat) : Int))), (2, .int (iI ((0 : Nat) : Int))), (0, .ref h), (1, .int (iI ((j : Nat) : Int)))]) hx hb dX2_enviedBy_3 rfl hl (by decide) rfl (fun ls hl => ?_)
  have LE : ∀ (k0 : Nat) (i : Nat), n - i < k0 → (hi : i ≤ n) → ∀ (ls : Array Slot), lv_has ls 4 [(0, .ref h), (1, .int (iI ((j : Nat) : Int))), (2, .int (iI (zEnvd b g j i))), (3, .int (iI ((i : Nat) : Int)))] → W p l e (zRm 4 86) s m args below meth c s.heap [] 0 0 (MQ below (vp_Si (fun x => x = (iI (zEnvd b g j n)))) args s 0 0 (fun _ => False)) (F0 m 4 ls []) := by
    intro k0
    induction k0 with
    | zero => intro i hk; exact absurd hk (Nat.not_lt_zero _)
    | succ k0 ih_LE =>
      intro i hk hi ls hl
      refine lv_iload_n hx hb dX2_enviedBy_4 rfl (lv_at hl 3 rfl) ?_
      refine lv_aload_n hx hb dX2_enviedBy_5 rfl (lv_at hl 0 rfl) ?_
      refine va_get (D := D) (ci := 2) (v := .ref B) (C := RX2) (T := TX2) (N := 9) hx hb hts (by decide +kernel) hown hK hP 0 rfl rfl 0 (by decide) (hts (.fieldLink RX2 10 "RentHarmony" "bids" "LRentHarmony$Bids;") (by decide +kernel)) (fun _ h9 => h9) rfl dX2_enviedBy_6 ?_
      refine zc_ri (As := []) (rest := [.int (iI ((i : Nat) : Int))]) hF (c_X0_size l D cI B C n b ) (cwV 0 hts gX2_enviedBy_X0_size rfl rfl rfl (by decide +kernel) ⟨Nat.le_of_ble_eq_true rfl, Nat.le_of_ble_eq_true rfl⟩) hK hP [1, 2] rfl 0 rfl 0 rfl rfl rfl rfl hl.1 rfl (Nat.le_of_ble_eq_true rfl) dX2_enviedBy_9 ⟨Nat.zero_le _, Nat.zero_le _⟩ ?_
      refine zr_icmp_ge (tgt := 33) hx hb dX2_enviedBy_12 (by decide) (zB_of (by omega) (by omega)) (zB_of (by omega) (by omega)) (fun c1 => ?_) (fun c1 => ?_)
      · refine lv_iload_n hx hb dX2_enviedBy_33 rfl (lv_at hl 2 rfl) ?_
        exact zRi_ret hx hb hr hlocks dX2_enviedBy_34 (by rw [show i = n by omega])
      · refine lv_aload_n hx hb dX2_enviedBy_15 rfl (lv_at hl 0 rfl) ?_
        refine lv_iload_n hx hb dX2_enviedBy_16 rfl (lv_at hl 1 rfl) ?_
        refine lv_iload_n hx hb dX2_enviedBy_17 rfl (lv_at hl 3 rfl) ?_
        refine zc_ri (As := [.int (iI ((j : Nat) : Int)), .int (iI ((i : Nat) : Int))]) (rest := []) hF (c_X2_wouldEnvy l D cI h B C G GB GW GR TB TG FR CH n b bo wo ro fr rc sh po g j i (by omega) (by assumption) (by assumption) (by assumption) (by omega) (by omega)) (cwV 2 hts gX2_enviedBy_X2_wouldEnvy rfl rfl rfl (by decide +kernel) ⟨Nat.le_of_ble_eq_true rfl, Nat.le_of_ble_eq_true rfl⟩) hK hP [0, 1, 2, 3, 4, 5, 6, 7] rfl 0 rfl 0 rfl rfl rfl rfl hl.1 rfl (Nat.le_of_ble_eq_true rfl) dX2_enviedBy_18 ⟨Nat.zero_le _, Nat.zero_le _⟩ ?_
        refine zr_ifB_eq (tgt := 27) hx hb dX2_enviedBy_21 (by decide)  (fun c2 => ?_) (fun c2 => ?_)
        · refine zr_iinc (lv2 := [(3, .int (iI (((i : Nat) : Int) + 1))), (0, .ref h), (1, .int (iI ((j : Nat) : Int))), (2, .int (iI (zEnvd b g j i)))]) hx hb dX2_enviedBy_27 hl (k0 := 3) rfl (by decide) rfl (fun ls hl => ?_)
          have hl : lv_has ls 4 [(3, .int (iI ((i + 1 : Nat) : Int))), (0, .ref h), (1, .int (iI ((j : Nat) : Int))), (2, .int (iI (zEnvd b g j i)))] := hl
          refine lv_goto (tgt := 4) hx hb dX2_enviedBy_30 (by decide) ?_
          have hl : lv_has ls 4 [(3, .int (iI ((i + 1 : Nat) : Int))), (0, .ref h), (1, .int (iI ((j : Nat) : Int))), (2, .int (iI (zEnvd b g j (i + 1))))] := by rw [show (zEnvd b g j (i + 1)) = (zEnvd b g j i) from by show zEnvd b g j i + bZ (zEn b g j i) = _; rw [bZ_f c2]; omega]; exact hl
          exact ih_LE (i + 1) (by omega) (by omega) _ (lv_sub hl [1, 2, 3, 0] rfl)
        · refine zr_iinc (lv2 := [(2, .int (iI ((zEnvd b g j i) + 1))), (0, .ref h), (1, .int (iI ((j : Nat) : Int))), (3, .int (iI ((i : Nat) : Int)))]) hx hb dX2_enviedBy_24 hl (k0 := 2) rfl (by decide) rfl (fun ls hl => ?_)
          refine zr_iinc (lv2 := [(3, .int (iI (((i : Nat) : Int) + 1))), (2, .int (iI ((zEnvd b g j i) + 1))), (0, .ref h), (1, .int (iI ((j : Nat) : Int)))]) hx hb dX2_enviedBy_27 hl (k0 := 3) rfl (by decide) rfl (fun ls hl => ?_)
          have hl : lv_has ls 4 [(3, .int (iI ((i + 1 : Nat) : Int))), (2, .int (iI ((zEnvd b g j i) + 1))), (0, .ref h), (1, .int (iI ((j : Nat) : Int)))] := hl
          refine lv_goto (tgt := 4) hx hb dX2_enviedBy_30 (by decide) ?_
          have hl : lv_has ls 4 [(3, .int (iI ((i + 1 : Nat) : Int))), (2, .int (iI (zEnvd b g j (i + 1)))), (0, .ref h), (1, .int (iI ((j : Nat) : Int)))] := by rw [show (zEnvd b g j (i + 1)) = ((zEnvd b g j i) + 1) from by show zEnvd b g j i + bZ (zEn b g j i) = _; rw [bZ_t c2]]; exact hl
          exact ih_LE (i + 1) (by omega) (by omega) _ (lv_sub hl [2, 3, 1, 0] rfl)
  have hl : lv_has ls 4 [(3, .int (iI ((0 : Nat) : Int))), (2, .int (iI (zEnvd b g j 0))), (0, .ref h), (1, .int (iI ((j : Nat) : Int)))] := by rw [show (zEnvd b g j 0) = ((0 : Nat) : Int) from rfl]; exact hl
  exact LE ((n - (0)) + 1) (0) (Nat.lt_succ_self _) (by omega) _ (lv_sub hl [2, 3, 1, 0] rfl)
set_option maxHeartbeats 4000000 in
set_option maxRecDepth 100000 in
/-- X2_fact -/
theorem c_X2_fact (l : Launch) (D : va_G) (cI : ClassId) (h B C G GB GW GR TB TG FR CH n : Nat) (b bo wo ro fr : Nat → Int) (rc sh po : Int) (g : Nat → Nat) (j w : Nat) (hn : n ≤ 6) (hb0 : ∀ k, 0 ≤ b k ∧ b k ≤ 999) (hro : ∀ j, j < n → ro j = ((g j : Nat) : Int)) (hgn : ∀ j, j < n → g j < n) (hj : j < n) (hw : w < 6) : zRi l yX2_fact wsX2_fact 5 109 D cI [.ref h, .int (iI ((j : Nat) : Int)), .int (iI ((w : Nat) : Int))] [(h, .inr (2, [.ref B, .ref G, .ref TB, .ref TG, .ref FR, .ref CH, .int (iI (rc)), .int (iI (sh)), .int (iI (po))])), (B, .inr (0, [.ref C, .int (iI ((n : Nat) : Int))])), (C, zArr cI 36 b), (G, .inr (1, [.ref GB, .ref GW, .ref GR])), (GB, zArr cI 64 bo), (GW, zArr cI 64 wo), (GR, zArr cI 6 ro), (FR, zArr cI 6 fr)] (iI (zFact n b g fr sh j w)) := by
  refine zRi_of (cc := cX2_fact) (maxL := 3) (rt := .int) (by decide) rfl (Nat.le_of_ble_eq_true rfl) ?_
  intro p e s m args below meth c ls hF hr hlocks hP hK hl
  have hF : zFix p m c cX2_fact 3 s args wsX2_fact RX2 := hF
  obtain ⟨hx, hb, hml, hown, hts⟩ := id hF
  have hP : va_P D vwCl [(h, .inr (2, [.ref B, .ref G, .ref TB, .ref TG, .ref FR, .ref CH, .int (iI (rc)), .int (iI (sh)), .int (iI (po))])), (B, .inr (0, [.ref C, .int (iI ((n : Nat) : Int))])), (C, zArr cI 36 b), (G, .inr (1, [.ref GB, .ref GW, .ref GR])), (GB, zArr cI 64 bo), (GW, zArr cI 64 wo), (GR, zArr cI 6 ro), (FR, zArr cI 6 fr)] s.heap := hP
  rcases (show w = 0 ∨ w = 1 ∨ w = 2 ∨ w = 3 ∨ w = 4 ∨ w = 5 by omega) with rfl | rfl | rfl | rfl | rfl | rfl
  · have hl : lv_has ls 3 [(0, .ref h), (1, .int (iI ((j : Nat) : Int))), (2, .int (iI ((0 : Nat) : Int)))] := hl
    refine lv_iload_n hx hb dX2_fact_0 rfl (lv_at hl 2 rfl) ?_
    refine lv_tableIn (off := 35) (tgt := 36) hx hb dX2_fact_1 (by decide) (by decide) (by decide) (by decide) ?_
    refine lv_aload_n hx hb dX2_fact_36 rfl (lv_at hl 0 rfl) ?_
    refine va_get (D := D) (ci := 2) (v := .ref G) (C := RX2) (T := TX2) (N := 9) hx hb hts (by decide +kernel) hown hK hP 0 rfl rfl 1 (by decide) (hts (.fieldLink RX2 19 "RentHarmony" "giving" "LRentHarmony$Giving;") (by decide +kernel)) (fun _ h9 => h9) rfl dX2_fact_37 ?_
    refine lv_iload_n hx hb dX2_fact_40 rfl (lv_at hl 1 rfl) ?_
    refine zc_ri (As := [.int (iI ((j : Nat) : Int))]) (rest := []) hF (c_X1_roomOfN l D cI G GB GW GR bo wo ro g j (by omega) (hro _ (by omega))) (cwV 1 hts gX2_fact_X1_roomOf rfl rfl rfl (by decide +kernel) ⟨Nat.le_of_ble_eq_true rfl, Nat.le_of_ble_eq_true rfl⟩) hK hP [3, 4, 5, 6] rfl 0 rfl 0 rfl rfl rfl rfl hl.1 rfl (Nat.le_of_ble_eq_true rfl) dX2_fact_41 ⟨Nat.zero_le _, Nat.zero_le _⟩ ?_
    have hf1 := hgn j (by omega)
    exact zRi_ret hx hb hr hlocks dX2_fact_44 rfl
  · have hl : lv_has ls 3 [(0, .ref h), (1, .int (iI ((j : Nat) : Int))), (2, .int (iI ((1 : Nat) : Int)))] := hl
    refine lv_iload_n hx hb dX2_fact_0 rfl (lv_at hl 2 rfl) ?_
    refine lv_tableIn (off := 44) (tgt := 45) hx hb dX2_fact_1 (by decide) (by decide) (by decide) (by decide) ?_
    refine lv_aload_n hx hb dX2_fact_45 rfl (lv_at hl 0 rfl) ?_
    refine lv_iload_n hx hb dX2_fact_46 rfl (lv_at hl 1 rfl) ?_
    refine zc_ri (As := [.int (iI ((j : Nat) : Int))]) (rest := []) hF (c_X2_ownBidOf l D cI h B C G GB GW GR TB TG FR CH n b bo wo ro fr rc sh po g j (by omega) (by assumption) (by assumption) (by assumption) (by omega)) (cwV 1 hts gX2_fact_X2_ownBidOf rfl rfl rfl (by decide +kernel) ⟨Nat.le_of_ble_eq_true rfl, Nat.le_of_ble_eq_true rfl⟩) hK hP [0, 1, 2, 3, 4, 5, 6, 7] rfl 0 rfl 0 rfl rfl rfl rfl hl.1 rfl (Nat.le_of_ble_eq_true rfl) dX2_fact_47 ⟨Nat.zero_le _, Nat.zero_le _⟩ ?_
    have hf2 := hb0 (j * 6 + g j)
    exact zRi_ret hx hb hr hlocks dX2_fact_50 rfl
  · have hl : lv_has ls 3 [(0, .ref h), (1, .int (iI ((j : Nat) : Int))), (2, .int (iI ((2 : Nat) : Int)))] := hl
    refine lv_iload_n hx hb dX2_fact_0 rfl (lv_at hl 2 rfl) ?_
    refine lv_tableIn (off := 50) (tgt := 51) hx hb dX2_fact_1 (by decide) (by decide) (by decide) (by decide) ?_
    refine lv_aload_n hx hb dX2_fact_51 rfl (lv_at hl 0 rfl) ?_
    refine lv_iload_n hx hb dX2_fact_52 rfl (lv_at hl 1 rfl) ?_
    refine zc_ri (As := [.int (iI ((j : Nat) : Int))]) (rest := []) hF (c_X2_rebateOf l D cI h B C G GB GW GR TB TG FR CH n b bo wo ro fr rc sh po g j (by omega) (by assumption) (by assumption) (by assumption) (by omega)) (cwV 1 hts gX2_fact_X2_rebateOf rfl rfl rfl (by decide +kernel) ⟨Nat.le_of_ble_eq_true rfl, Nat.le_of_ble_eq_true rfl⟩) hK hP [0, 1, 2, 3, 4, 5, 6, 7] rfl 0 rfl 0 rfl rfl rfl rfl hl.1 rfl (Nat.le_of_ble_eq_true rfl) dX2_fact_53 ⟨Nat.zero_le _, Nat.zero_le _⟩ ?_
    exact zRi_ret hx hb hr hlocks dX2_fact_56 rfl
  · have hl : lv_has ls 3 [(0, .ref h), (1, .int (iI ((j : Nat) : Int))), (2, .int (iI ((3 : Nat) : Int)))] := hl
    refine lv_iload_n hx hb dX2_fact_0 rfl (lv_at hl 2 rfl) ?_
    refine lv_tableIn (off := 56) (tgt := 57) hx hb dX2_fact_1 (by decide) (by decide) (by decide) (by decide) ?_
    refine lv_aload_n hx hb dX2_fact_57 rfl (lv_at hl 0 rfl) ?_
    refine lv_iload_n hx hb dX2_fact_58 rfl (lv_at hl 1 rfl) ?_
    refine zc_ri (As := [.int (iI ((j : Nat) : Int))]) (rest := []) hF (c_X2_payOf l D cI h B C G GB GW GR TB TG FR CH n b bo wo ro fr rc sh po g j (by omega) (by assumption) (by assumption) (by assumption) (by omega)) (cwV 1 hts gX2_fact_X2_payOf rfl rfl rfl (by decide +kernel) ⟨Nat.le_of_ble_eq_true rfl, Nat.le_of_ble_eq_true rfl⟩) hK hP [0, 1, 2, 3, 4, 5, 6, 7] rfl 0 rfl 0 rfl rfl rfl rfl hl.1 rfl (Nat.le_of_ble_eq_true rfl) dX2_fact_59 ⟨Nat.zero_le _, Nat.zero_le _⟩ ?_
    exact zRi_ret hx hb hr hlocks dX2_fact_62 rfl
  · have hl : lv_has ls 3 [(0, .ref h), (1, .int (iI ((j : Nat) : Int))), (2, .int (iI ((4 : Nat) : Int)))] := hl
    refine lv_iload_n hx hb dX2_fact_0 rfl (lv_at hl 2 rfl) ?_
    refine lv_tableIn (off := 62) (tgt := 63) hx hb dX2_fact_1 (by decide) (by decide) (by decide) (by decide) ?_
    refine lv_aload_n hx hb dX2_fact_63 rfl (lv_at hl 0 rfl) ?_
    refine lv_iload_n hx hb dX2_fact_64 rfl (lv_at hl 1 rfl) ?_
    refine zc_ri (As := [.int (iI ((j : Nat) : Int))]) (rest := []) hF (c_X2_firstRebateOf l D cI h B C G GB GW GR TB TG FR CH n b bo wo ro fr rc sh po g j (by omega) (by assumption) (by assumption) (by assumption) (by omega)) (cwV 1 hts gX2_fact_X2_firstRebateOf rfl rfl rfl (by decide +kernel) ⟨Nat.le_of_ble_eq_true rfl, Nat.le_of_ble_eq_true rfl⟩) hK hP [0, 1, 2, 3, 4, 5, 6, 7] rfl 0 rfl 0 rfl rfl rfl rfl hl.1 rfl (Nat.le_of_ble_eq_true rfl) dX2_fact_65 ⟨Nat.zero_le _, Nat.zero_le _⟩ ?_
    exact zRi_ret hx hb hr hlocks dX2_fact_68 rfl
  · have hl : lv_has ls 3 [(0, .ref h), (1, .int (iI ((j : Nat) : Int))), (2, .int (iI ((5 : Nat) : Int)))] := hl
    refine lv_iload_n hx hb dX2_fact_0 rfl (lv_at hl 2 rfl) ?_
    refine lv_tableOut (tgt := 69) hx hb dX2_fact_1 (by decide) (by decide) ?_
    refine lv_aload_n hx hb dX2_fact_69 rfl (lv_at hl 0 rfl) ?_
    refine lv_iload_n hx hb dX2_fact_70 rfl (lv_at hl 1 rfl) ?_
    refine zc_ri (As := [.int (iI ((j : Nat) : Int))]) (rest := []) hF (c_X2_enviedBy l D cI h B C G GB GW GR TB TG FR CH n b bo wo ro fr rc sh po g j (by omega) (by assumption) (by assumption) (by assumption) (by omega)) (cwV 1 hts gX2_fact_X2_enviedBy rfl rfl rfl (by decide +kernel) ⟨Nat.le_of_ble_eq_true rfl, Nat.le_of_ble_eq_true rfl⟩) hK hP [0, 1, 2, 3, 4, 5, 6, 7] rfl 0 rfl 0 rfl rfl rfl rfl hl.1 rfl (Nat.le_of_ble_eq_true rfl) dX2_fact_71 ⟨Nat.zero_le _, Nat.zero_le _⟩ ?_
    exact zRi_ret hx hb hr hlocks dX2_fact_74 rfl
set_option maxHeartbeats 4000000 in
set_option maxRecDepth 100000 in
/-- X2_total -/
theorem c_X2_total (l : Launch) (D : va_G) (cI : ClassId) (h B C G GB GW GR TB TG FR CH n : Nat) (b bo wo ro fr : Nat → Int) (rc sh po : Int) (g : Nat → Nat) (w : Nat) (hn : n ≤ 6) (hb0 : ∀ k, 0 ≤ b k ∧ b k ≤ 999) (hro : ∀ j, j < n → ro j = ((g j : Nat) : Int)) (hgn : ∀ j, j < n → g j < n) (hw : w < 7) : zRi l yX2_total wsX2_total 5 107 D cI [.ref h, .int (iI ((w : Nat) : Int))] [(h, .inr (2, [.ref B, .ref G, .ref TB, .ref TG, .ref FR, .ref CH, .int (iI (rc)), .int (iI (sh)), .int (iI (po))])), (B, .inr (0, [.ref C, .int (iI ((n : Nat) : Int))])), (C, zArr cI 36 b), (G, .inr (1, [.ref GB, .ref GW, .ref GR])), (GB, zArr cI 64 bo), (GW, zArr cI 64 wo), (GR, zArr cI 6 ro), (FR, zArr cI 6 fr)] (iI (zTot n b g fr rc sh po (bo 0) (wo 0) w)) := by
  refine zRi_of (cc := cX2_total) (maxL := 2) (rt := .int) (by decide) rfl (Nat.le_of_ble_eq_true rfl) ?_
  intro p e s m args below meth c ls hF hr hlocks hP hK hl
  have hF : zFix p m c cX2_total 2 s args wsX2_total RX2 := hF
  obtain ⟨hx, hb, hml, hown, hts⟩ := id hF
  have hP : va_P D vwCl [(h, .inr (2, [.ref B, .ref G, .ref TB, .ref TG, .ref FR, .ref CH, .int (iI (rc)), .int (iI (sh)), .int (iI (po))])), (B, .inr (0, [.ref C, .int (iI ((n : Nat) : Int))])), (C, zArr cI 36 b), (G, .inr (1, [.ref GB, .ref GW, .ref GR])), (GB, zArr cI 64 bo), (GW, zArr cI 64 wo), (GR, zArr cI 6 ro), (FR, zArr cI 6 fr)] s.heap := hP
  rcases (show w = 0 ∨ w = 1 ∨ w = 2 ∨ w = 3 ∨ w = 4 ∨ w = 5 ∨ w = 6 by omega) with rfl | rfl | rfl | rfl | rfl | rfl | rfl
  · have hl : lv_has ls 2 [(0, .ref h), (1, .int (iI ((0 : Nat) : Int)))] := hl
    refine lv_iload_n hx hb dX2_total_0 rfl (lv_at hl 1 rfl) ?_
    refine lv_tableIn (off := 39) (tgt := 40) hx hb dX2_total_1 (by decide) (by decide) (by decide) (by decide) ?_
    refine lv_aload_n hx hb dX2_total_40 rfl (lv_at hl 0 rfl) ?_
    refine va_get (D := D) (ci := 2) (v := .ref B) (C := RX2) (T := TX2) (N := 9) hx hb hts (by decide +kernel) hown hK hP 0 rfl rfl 0 (by decide) (hts (.fieldLink RX2 10 "RentHarmony" "bids" "LRentHarmony$Bids;") (by decide +kernel)) (fun _ h9 => h9) rfl dX2_total_41 ?_
    refine zc_ri (As := []) (rest := []) hF (c_X0_size l D cI B C n b ) (cwV 0 hts gX2_total_X0_size rfl rfl rfl (by decide +kernel) ⟨Nat.le_of_ble_eq_true rfl, Nat.le_of_ble_eq_true rfl⟩) hK hP [1, 2] rfl 0 rfl 0 rfl rfl rfl rfl hl.1 rfl (Nat.le_of_ble_eq_true rfl) dX2_total_44 ⟨Nat.zero_le _, Nat.zero_le _⟩ ?_
    exact zRi_ret hx hb hr hlocks dX2_total_47 rfl
  · have hl : lv_has ls 2 [(0, .ref h), (1, .int (iI ((1 : Nat) : Int)))] := hl
    refine lv_iload_n hx hb dX2_total_0 rfl (lv_at hl 1 rfl) ?_
    refine lv_tableIn (off := 47) (tgt := 48) hx hb dX2_total_1 (by decide) (by decide) (by decide) (by decide) ?_
    refine lv_aload_n hx hb dX2_total_48 rfl (lv_at hl 0 rfl) ?_
    refine va_get (D := D) (ci := 2) (v := .int (iI (rc))) (C := RX2) (T := TX2) (N := 9) hx hb hts (by decide +kernel) hown hK hP 0 rfl rfl 6 (by decide) (hts (.fieldLink RX2 36 "RentHarmony" "rentCoins" "I") (by decide +kernel)) (fun _ h9 => h9) rfl dX2_total_49 ?_
    exact zRi_ret hx hb hr hlocks dX2_total_52 rfl
  · have hl : lv_has ls 2 [(0, .ref h), (1, .int (iI ((2 : Nat) : Int)))] := hl
    refine lv_iload_n hx hb dX2_total_0 rfl (lv_at hl 1 rfl) ?_
    refine lv_tableIn (off := 52) (tgt := 53) hx hb dX2_total_1 (by decide) (by decide) (by decide) (by decide) ?_
    refine lv_aload_n hx hb dX2_total_53 rfl (lv_at hl 0 rfl) ?_
    refine va_get (D := D) (ci := 2) (v := .ref G) (C := RX2) (T := TX2) (N := 9) hx hb hts (by decide +kernel) hown hK hP 0 rfl rfl 1 (by decide) (hts (.fieldLink RX2 19 "RentHarmony" "giving" "LRentHarmony$Giving;") (by decide +kernel)) (fun _ h9 => h9) rfl dX2_total_54 ?_
    refine zc_ri (As := []) (rest := []) hF (c_X1_worth l D cI G GB GW GR bo wo ro ) (cwV 0 hts gX2_total_X1_worth rfl rfl rfl (by decide +kernel) ⟨Nat.le_of_ble_eq_true rfl, Nat.le_of_ble_eq_true rfl⟩) hK hP [3, 4, 5, 6] rfl 0 rfl 0 rfl rfl rfl rfl hl.1 rfl (Nat.le_of_ble_eq_true rfl) dX2_total_57 ⟨Nat.zero_le _, Nat.zero_le _⟩ ?_
    exact zRi_ret hx hb hr hlocks dX2_total_60 rfl
  · have hl : lv_has ls 2 [(0, .ref h), (1, .int (iI ((3 : Nat) : Int)))] := hl
    refine lv_iload_n hx hb dX2_total_0 rfl (lv_at hl 1 rfl) ?_
    refine lv_tableIn (off := 60) (tgt := 61) hx hb dX2_total_1 (by decide) (by decide) (by decide) (by decide) ?_
    refine lv_aload_n hx hb dX2_total_61 rfl (lv_at hl 0 rfl) ?_
    refine zc_ri (As := []) (rest := []) hF (c_X2_allFirstRebates l D cI h B C G GB GW GR TB TG FR CH n b bo wo ro fr rc sh po g (by omega) (by assumption) (by assumption) (by assumption)) (cwV 0 hts gX2_total_X2_allFirstRebates rfl rfl rfl (by decide +kernel) ⟨Nat.le_of_ble_eq_true rfl, Nat.le_of_ble_eq_true rfl⟩) hK hP [0, 1, 2, 3, 4, 5, 6, 7] rfl 0 rfl 0 rfl rfl rfl rfl hl.1 rfl (Nat.le_of_ble_eq_true rfl) dX2_total_62 ⟨Nat.zero_le _, Nat.zero_le _⟩ ?_
    refine lv_aload_n hx hb dX2_total_65 rfl (lv_at hl 0 rfl) ?_
    refine va_get (D := D) (ci := 2) (v := .int (iI (sh))) (C := RX2) (T := TX2) (N := 9) hx hb hts (by decide +kernel) hown hK hP 0 rfl rfl 7 (by decide) (hts (.fieldLink RX2 40 "RentHarmony" "share" "I") (by decide +kernel)) (fun _ h9 => h9) rfl dX2_total_66 ?_
    refine lv_aload_n hx hb dX2_total_69 rfl (lv_at hl 0 rfl) ?_
    refine va_get (D := D) (ci := 2) (v := .ref B) (C := RX2) (T := TX2) (N := 9) hx hb hts (by decide +kernel) hown hK hP 0 rfl rfl 0 (by decide) (hts (.fieldLink RX2 10 "RentHarmony" "bids" "LRentHarmony$Bids;") (by decide +kernel)) (fun _ h9 => h9) rfl dX2_total_70 ?_
    refine zc_ri (As := []) (rest := [.int (iI (sh)), .int (iI (zSum fr n))]) hF (c_X0_size l D cI B C n b ) (cwV 0 hts gX2_total_X0_size rfl rfl rfl (by decide +kernel) ⟨Nat.le_of_ble_eq_true rfl, Nat.le_of_ble_eq_true rfl⟩) hK hP [1, 2] rfl 0 rfl 0 rfl rfl rfl rfl hl.1 rfl (Nat.le_of_ble_eq_true rfl) dX2_total_73 ⟨Nat.zero_le _, Nat.zero_le _⟩ ?_
    refine zr_mul hx hb dX2_total_76 ?_
    refine zr_add hx hb dX2_total_77 ?_
    exact zRi_ret hx hb hr hlocks dX2_total_78 rfl
  · have hl : lv_has ls 2 [(0, .ref h), (1, .int (iI ((4 : Nat) : Int)))] := hl
    refine lv_iload_n hx hb dX2_total_0 rfl (lv_at hl 1 rfl) ?_
    refine lv_tableIn (off := 78) (tgt := 79) hx hb dX2_total_1 (by decide) (by decide) (by decide) (by decide) ?_
    refine lv_aload_n hx hb dX2_total_79 rfl (lv_at hl 0 rfl) ?_
    refine va_get (D := D) (ci := 2) (v := .int (iI (po))) (C := RX2) (T := TX2) (N := 9) hx hb hts (by decide +kernel) hown hK hP 0 rfl rfl 8 (by decide) (hts (.fieldLink RX2 43 "RentHarmony" "pot" "I") (by decide +kernel)) (fun _ h9 => h9) rfl dX2_total_80 ?_
    exact zRi_ret hx hb hr hlocks dX2_total_83 rfl
  · have hl : lv_has ls 2 [(0, .ref h), (1, .int (iI ((5 : Nat) : Int)))] := hl
    refine lv_iload_n hx hb dX2_total_0 rfl (lv_at hl 1 rfl) ?_
    refine lv_tableIn (off := 83) (tgt := 84) hx hb dX2_total_1 (by decide) (by decide) (by decide) (by decide) ?_
    refine lv_aload_n hx hb dX2_total_84 rfl (lv_at hl 0 rfl) ?_
    refine va_get (D := D) (ci := 2) (v := .ref G) (C := RX2) (T := TX2) (N := 9) hx hb hts (by decide +kernel) hown hK hP 0 rfl rfl 1 (by decide) (hts (.fieldLink RX2 19 "RentHarmony" "giving" "LRentHarmony$Giving;") (by decide +kernel)) (fun _ h9 => h9) rfl dX2_total_85 ?_
    refine zc_ri (As := []) (rest := []) hF (c_X1_ways l D cI G GB GW GR bo wo ro ) (cwV 0 hts gX2_total_X1_ways rfl rfl rfl (by decide +kernel) ⟨Nat.le_of_ble_eq_true rfl, Nat.le_of_ble_eq_true rfl⟩) hK hP [3, 4, 5, 6] rfl 0 rfl 0 rfl rfl rfl rfl hl.1 rfl (Nat.le_of_ble_eq_true rfl) dX2_total_88 ⟨Nat.zero_le _, Nat.zero_le _⟩ ?_
    exact zRi_ret hx hb hr hlocks dX2_total_91 rfl
  · have hl : lv_has ls 2 [(0, .ref h), (1, .int (iI ((6 : Nat) : Int)))] := hl
    refine lv_iload_n hx hb dX2_total_0 rfl (lv_at hl 1 rfl) ?_
    refine lv_tableOut (tgt := 92) hx hb dX2_total_1 (by decide) (by decide) ?_
    refine lv_aload_n hx hb dX2_total_92 rfl (lv_at hl 0 rfl) ?_
    refine zc_ri (As := []) (rest := []) hF (c_X2_allPays l D cI h B C G GB GW GR TB TG FR CH n b bo wo ro fr rc sh po g (by omega) (by assumption) (by assumption) (by assumption)) (cwV 0 hts gX2_total_X2_allPays rfl rfl rfl (by decide +kernel) ⟨Nat.le_of_ble_eq_true rfl, Nat.le_of_ble_eq_true rfl⟩) hK hP [0, 1, 2, 3, 4, 5, 6, 7] rfl 0 rfl 0 rfl rfl rfl rfl hl.1 rfl (Nat.le_of_ble_eq_true rfl) dX2_total_93 ⟨Nat.zero_le _, Nat.zero_le _⟩ ?_
    exact zRi_ret hx hb hr hlocks dX2_total_96 rfl
set_option maxHeartbeats 4000000 in
set_option maxRecDepth 100000 in
/-- X2_bestOfAllRooms -/
theorem c_X2_bestOfAllRooms (l : Launch) (D : va_G) (cI : ClassId) (h B C G GB GW GR TB TG FR CH n : Nat) (b bo wo ro fr : Nat → Int) (rc sh po : Int) (g : Nat → Nat) (j : Nat) (hn : n ≤ 6) (hb0 : ∀ k, 0 ≤ b k ∧ b k ≤ 999) (hro : ∀ j, j < n → ro j = ((g j : Nat) : Int)) (hgn : ∀ j, j < n → g j < n) (hj : j < n) (hfr : ∀ j, j < n → 0 ≤ fr j ∧ fr j ≤ 5994) : zRi l yX2_bestOfAllRooms wsX2_bestOfAllRooms 3 64 D cI [.ref h, .int (iI ((j : Nat) : Int))] [(h, .inr (2, [.ref B, .ref G, .ref TB, .ref TG, .ref FR, .ref CH, .int (iI (rc)), .int (iI (sh)), .int (iI (po))])), (B, .inr (0, [.ref C, .int (iI ((n : Nat) : Int))])), (C, zArr cI 36 b), (G, .inr (1, [.ref GB, .ref GW, .ref GR])), (GB, zArr cI 64 bo), (GW, zArr cI 64 wo), (GR, zArr cI 6 ro), (FR, zArr cI 6 fr)] (iI (zBor (zWt b g) fr j n)) := by
  refine zRi_of (cc := cX2_bestOfAllRooms) (maxL := 5) (rt := .int) (by decide) rfl (Nat.le_of_ble_eq_true rfl) ?_
  intro p e s m args below meth c ls hF hr hlocks hP hK hl
  have hF : zFix p m c cX2_bestOfAllRooms 5 s args wsX2_bestOfAllRooms RX2 := hF
  obtain ⟨hx, hb, hml, hown, hts⟩ := id hF
  have hP : va_P D vwCl [(h, .inr (2, [.ref B, .ref G, .ref TB, .ref TG, .ref FR, .ref CH, .int (iI (rc)), .int (iI (sh)), .int (iI (po))])), (B, .inr (0, [.ref C, .int (iI ((n : Nat) : Int))])), (C, zArr cI 36 b), (G, .inr (1, [.ref GB, .ref GW, .ref GR])), (GB, zArr cI 64 bo), (GW, zArr cI 64 wo), (GR, zArr cI 6 ro), (FR, zArr cI 6 fr)] s.heap := hP
  have hl : lv_has ls 5 [(0, .ref h), (1, .int (iI ((j : Nat) : Int)))] := hl
  refine lv_aload_n hx hb dX2_bestOfAllRooms_0 rfl (lv_at hl 0 rfl) ?_
  refine lv_iload_n hx hb dX2_bestOfAllRooms_1 rfl (lv_at hl 1 rfl) ?_
  refine zc_ri (As := [.int (iI ((j : Nat) : Int))]) (rest := []) hF (c_X2_firstRebateOf l D cI h B C G GB GW GR TB TG FR CH n b bo wo ro fr rc sh po g j (by omega) (by assumption) (by assumption) (by assumption) (by omega)) (cwV 1 hts gX2_bestOfAllRooms_X2_firstRebateOf rfl rfl rfl (by decide +kernel) ⟨Nat.le_of_ble_eq_true rfl, Nat.le_of_ble_eq_true rfl⟩) hK hP [0, 1, 2, 3, 4, 5, 6, 7] rfl 0 rfl 0 rfl rfl rfl rfl hl.1 rfl (Nat.le_of_ble_eq_true rfl) dX2_bestOfAllRooms_2 ⟨Nat.zero_le _, Nat.zero_le _⟩ ?_
  refine lv_istore_n (lv' := [(2, .int (iI (fr j))), (0, .ref h), (1, .int (iI ((j : Nat) : Int)))]) hx hb dX2_bestOfAllRooms_5 rfl hl (by decide) rfl (fun ls hl => ?_)
  refine zr_ic (n := ((0 : Nat) : Int)) hx hb dX2_bestOfAllRooms_6 ?_
  refine lv_istore_n (lv' := [(3, .int (iI ((0 : Nat) : Int))), (2, .int (iI (fr j))), (0, .ref h), (1, .int (iI ((j : Nat) : Int)))]) hx hb dX2_bestOfAllRooms_7 rfl hl (by decide) rfl (fun ls hl => ?_)
  have LB : ∀ (k0 : Nat) (i : Nat), n - i < k0 → (hi : i ≤ n) → ∀ (ls : Array Slot), lv_has ls 5 [(0, .ref h), (1, .int (iI ((j : Nat) : Int))), (2, .int (iI (zBor (zWt b g) fr j i))), (3, .int (iI ((i : Nat) : Int)))] → W p l e (zRm 3 64) s m args below meth c s.heap [] 0 0 (MQ below (vp_Si (fun x => x = (iI (zBor (zWt b g) fr j n)))) args s 0 0 (fun _ => False)) (F0 m 8 ls []) := by
    intro k0
    induction k0 with
    | zero => intro i hk; exact absurd hk (Nat.not_lt_zero _)
    | succ k0 ih_LB =>
      intro i hk hi ls hl
      refine lv_iload_n hx hb dX2_bestOfAllRooms_8 rfl (lv_at hl 3 rfl) ?_
      refine lv_aload_n hx hb dX2_bestOfAllRooms_9 rfl (lv_at hl 0 rfl) ?_
      refine va_get (D := D) (ci := 2) (v := .ref B) (C := RX2) (T := TX2) (N := 9) hx hb hts (by decide +kernel) hown hK hP 0 rfl rfl 0 (by decide) (hts (.fieldLink RX2 10 "RentHarmony" "bids" "LRentHarmony$Bids;") (by decide +kernel)) (fun _ h9 => h9) rfl dX2_bestOfAllRooms_10 ?_
      refine zc_ri (As := []) (rest := [.int (iI ((i : Nat) : Int))]) hF (c_X0_size l D cI B C n b ) (cwV 0 hts gX2_bestOfAllRooms_X0_size rfl rfl rfl (by decide +kernel) ⟨Nat.le_of_ble_eq_true rfl, Nat.le_of_ble_eq_true rfl⟩) hK hP [1, 2] rfl 0 rfl 0 rfl rfl rfl rfl hl.1 rfl (Nat.le_of_ble_eq_true rfl) dX2_bestOfAllRooms_13 ⟨Nat.zero_le _, Nat.zero_le _⟩ ?_
      refine zr_icmp_ge (tgt := 62) hx hb dX2_bestOfAllRooms_16 (by decide) (zB_of (by omega) (by omega)) (zB_of (by omega) (by omega)) (fun c1 => ?_) (fun c1 => ?_)
      · refine lv_iload_n hx hb dX2_bestOfAllRooms_62 rfl (lv_at hl 2 rfl) ?_
        exact zRi_ret hx hb hr hlocks dX2_bestOfAllRooms_63 (by rw [show i = n by omega])
      · refine lv_aload_n hx hb dX2_bestOfAllRooms_19 rfl (lv_at hl 0 rfl) ?_
        refine lv_iload_n hx hb dX2_bestOfAllRooms_20 rfl (lv_at hl 3 rfl) ?_
        refine zc_ri (As := [.int (iI ((i : Nat) : Int))]) (rest := []) hF (c_X2_ownBidOf l D cI h B C G GB GW GR TB TG FR CH n b bo wo ro fr rc sh po g i (by omega) (by assumption) (by assumption) (by assumption) (by omega)) (cwV 1 hts gX2_bestOfAllRooms_X2_ownBidOf rfl rfl rfl (by decide +kernel) ⟨Nat.le_of_ble_eq_true rfl, Nat.le_of_ble_eq_true rfl⟩) hK hP [0, 1, 2, 3, 4, 5, 6, 7] rfl 0 rfl 0 rfl rfl rfl rfl hl.1 rfl (Nat.le_of_ble_eq_true rfl) dX2_bestOfAllRooms_21 ⟨Nat.zero_le _, Nat.zero_le _⟩ ?_
        have hf2 := hb0 (i * 6 + g i)
        refine lv_aload_n hx hb dX2_bestOfAllRooms_24 rfl (lv_at hl 0 rfl) ?_
        refine lv_iload_n hx hb dX2_bestOfAllRooms_25 rfl (lv_at hl 3 rfl) ?_
        refine zc_ri (As := [.int (iI ((i : Nat) : Int))]) (rest := [.int (iI (b (i * 6 + g i)))]) hF (c_X2_firstRebateOf l D cI h B C G GB GW GR TB TG FR CH n b bo wo ro fr rc sh po g i (by omega) (by assumption) (by assumption) (by assumption) (by omega)) (cwV 1 hts gX2_bestOfAllRooms_X2_firstRebateOf rfl rfl rfl (by decide +kernel) ⟨Nat.le_of_ble_eq_true rfl, Nat.le_of_ble_eq_true rfl⟩) hK hP [0, 1, 2, 3, 4, 5, 6, 7] rfl 0 rfl 0 rfl rfl rfl rfl hl.1 rfl (Nat.le_of_ble_eq_true rfl) dX2_bestOfAllRooms_26 ⟨Nat.zero_le _, Nat.zero_le _⟩ ?_
        refine zr_sub hx hb dX2_bestOfAllRooms_29 ?_
        refine lv_istore (lv' := [(4, .int (iI ((b (i * 6 + g i)) - (fr i)))), (0, .ref h), (1, .int (iI ((j : Nat) : Int))), (2, .int (iI (zBor (zWt b g) fr j i))), (3, .int (iI ((i : Nat) : Int)))]) hx hb dX2_bestOfAllRooms_30 hl (by decide) rfl (fun ls hl => ?_)
        refine lv_iload_n hx hb dX2_bestOfAllRooms_32 rfl (lv_at hl 3 rfl) ?_
        refine lv_aload_n hx hb dX2_bestOfAllRooms_33 rfl (lv_at hl 1 rfl) ?_
        refine va_get (D := D) (ci := 2) (v := .ref B) (C := RX2) (T := TX2) (N := 9) hx hb hts (by decide +kernel) hown hK hP 0 rfl rfl 0 (by decide) (hts (.fieldLink RX2 10 "RentHarmony" "bids" "LRentHarmony$Bids;") (by decide +kernel)) (fun _ h9 => h9) rfl dX2_bestOfAllRooms_34 ?_
        refine lv_iload_n hx hb dX2_bestOfAllRooms_37 rfl (lv_at hl 2 rfl) ?_
        refine lv_aload_n hx hb dX2_bestOfAllRooms_38 rfl (lv_at hl 1 rfl) ?_
        refine va_get (D := D) (ci := 2) (v := .ref G) (C := RX2) (T := TX2) (N := 9) hx hb hts (by decide +kernel) hown hK hP 0 rfl rfl 1 (by decide) (hts (.fieldLink RX2 19 "RentHarmony" "giving" "LRentHarmony$Giving;") (by decide +kernel)) (fun _ h9 => h9) rfl dX2_bestOfAllRooms_39 ?_
        refine lv_iload_n hx hb dX2_bestOfAllRooms_42 rfl (lv_at hl 4 rfl) ?_
        refine zc_ri (As := [.int (iI ((i : Nat) : Int))]) (rest := [.int (iI ((j : Nat) : Int)), .ref B, .int (iI (zBor (zWt b g) fr j i))]) hF (c_X1_roomOfN l D cI G GB GW GR bo wo ro g i (by omega) (hro _ (by omega))) (cwV 1 hts gX2_bestOfAllRooms_X1_roomOf rfl rfl rfl (by decide +kernel) ⟨Nat.le_of_ble_eq_true rfl, Nat.le_of_ble_eq_true rfl⟩) hK hP [3, 4, 5, 6] rfl 0 rfl 0 rfl rfl rfl rfl hl.1 rfl (Nat.le_of_ble_eq_true rfl) dX2_bestOfAllRooms_43 ⟨Nat.zero_le _, Nat.zero_le _⟩ ?_
        have hf3 := hgn i (by omega)
        refine zc_ri (As := [.int (iI ((j : Nat) : Int)), .int (iI ((g i : Nat) : Int))]) (rest := [.int (iI (zBor (zWt b g) fr j i))]) hF (c_X0_of l D cI B C n b j (g i) (by omega) (by omega) (by omega)) (cwV 2 hts gX2_bestOfAllRooms_X0_of rfl rfl rfl (by decide +kernel) ⟨Nat.le_of_ble_eq_true rfl, Nat.le_of_ble_eq_true rfl⟩) hK hP [1, 2] rfl 0 rfl 0 rfl rfl rfl rfl hl.1 rfl (Nat.le_of_ble_eq_true rfl) dX2_bestOfAllRooms_46 ⟨Nat.zero_le _, Nat.zero_le _⟩ ?_
        refine lv_iload hx hb dX2_bestOfAllRooms_49 (lv_at hl 0 rfl) ?_
        refine zr_sub hx hb dX2_bestOfAllRooms_51 ?_
        refine zr_topi (show ((b (j * 6 + (g i))) - ((b (i * 6 + g i)) - (fr i))) = (zWt b g j i + fr i) from by unfold zWt; omega) ?_
        have hm1 := zBor_b (w := zWt b g) (e := fr) (a := j) (M := 10000) ⟨(hfr j hj).1, by have := (hfr j hj).2; omega⟩ i (fun c hc => by have q1 := hb0 (j * 6 + g c); have q2 := hb0 (c * 6 + g c); have q3 := hfr c (by omega); unfold zWt; omega)
        have hm2 : -1000 ≤ zWt b g j i + fr i ∧ zWt b g j i + fr i ≤ 10000 := by have q1 := hb0 (j * 6 + g i); have q2 := hb0 (i * 6 + g i); have q3 := hfr i (by omega); unfold zWt; omega
        refine zr_max (rest := []) hx hb (hml.trans hl.1.symm) hown (hts (.methodLink RX2 123 Lib.Math.max.name) (by decide +kernel)) (hts (.static Lib.Math.max.name) (by decide +kernel)) (hts (.initialized "java/lang/Math") (by decide +kernel)) (hts (.code Lib.Math.max.name Lib.Math.max.code 2 (some .int)) (by decide +kernel)) (Nat.le_of_ble_eq_true rfl) (Nat.le_of_ble_eq_true rfl) (Nat.zero_le _) (Nat.zero_le _) (zB_of (by omega) (by omega)) (zB_of (by omega) (by omega)) dX2_bestOfAllRooms_52 ?_
        refine lv_istore_n (lv' := [(2, .int (iI (max (zBor (zWt b g) fr j i) (zWt b g j i + fr i)))), (4, .int (iI ((b (i * 6 + g i)) - (fr i)))), (0, .ref h), (1, .int (iI ((j : Nat) : Int))), (3, .int (iI ((i : Nat) : Int)))]) hx hb dX2_bestOfAllRooms_55 rfl hl (by decide) rfl (fun ls hl => ?_)
        refine zr_iinc (lv2 := [(3, .int (iI (((i : Nat) : Int) + 1))), (2, .int (iI (max (zBor (zWt b g) fr j i) (zWt b g j i + fr i)))), (4, .int (iI ((b (i * 6 + g i)) - (fr i)))), (0, .ref h), (1, .int (iI ((j : Nat) : Int)))]) hx hb dX2_bestOfAllRooms_56 hl (k0 := 4) rfl (by decide) rfl (fun ls hl => ?_)
        have hl : lv_has ls 5 [(3, .int (iI ((i + 1 : Nat) : Int))), (2, .int (iI (max (zBor (zWt b g) fr j i) (zWt b g j i + fr i)))), (4, .int (iI ((b (i * 6 + g i)) - (fr i)))), (0, .ref h), (1, .int (iI ((j : Nat) : Int)))] := hl
        refine lv_goto (tgt := 8) hx hb dX2_bestOfAllRooms_59 (by decide) ?_
        have hl : lv_has ls 5 [(3, .int (iI ((i + 1 : Nat) : Int))), (2, .int (iI (zBor (zWt b g) fr j (i + 1)))), (4, .int (iI ((b (i * 6 + g i)) - (fr i)))), (0, .ref h), (1, .int (iI ((j : Nat) : Int)))] := by rw [show (zBor (zWt b g) fr j (i + 1)) = (max (zBor (zWt b g) fr j i) (zWt b g j i + fr i)) from rfl]; exact hl
        exact ih_LB (i + 1) (by omega) (by omega) _ (lv_sub hl [3, 4, 1, 0] rfl)
  have hl : lv_has ls 5 [(3, .int (iI ((0 : Nat) : Int))), (2, .int (iI (zBor (zWt b g) fr j 0))), (0, .ref h), (1, .int (iI ((j : Nat) : Int)))] := by rw [show (zBor (zWt b g) fr j 0) = (fr j) from rfl]; exact hl
  exact LB ((n - (0)) + 1) (0) (Nat.lt_succ_self _) (by omega) _ (lv_sub hl [2, 3, 1, 0] rfl)
set_option maxHeartbeats 4000000 in
set_option maxRecDepth 100000 in
/-- X2_longestChainFrom -/
theorem c_X2_longestChainFrom (l : Launch) (D : va_G) (cI : ClassId) (h B C G GB GW GR TB TG FR CH n : Nat) (b bo wo ro fr : Nat → Int) (rc sh po : Int) (g : Nat → Nat) (ch : Nat → Int) (j : Nat) (hn : n ≤ 6) (hb0 : ∀ k, 0 ≤ b k ∧ b k ≤ 999) (hro : ∀ j, j < n → ro j = ((g j : Nat) : Int)) (hgn : ∀ j, j < n → g j < n) (hj : j < n) (hch : ∀ j, j < n → 1 ≤ ch j ∧ ch j ≤ 6) : zRi l yX2_longestChainFrom wsX2_longestChainFrom 4 86 D cI [.ref h, .int (iI ((j : Nat) : Int))] [(h, .inr (2, [.ref B, .ref G, .ref TB, .ref TG, .ref FR, .ref CH, .int (iI (rc)), .int (iI (sh)), .int (iI (po))])), (B, .inr (0, [.ref C, .int (iI ((n : Nat) : Int))])), (C, zArr cI 36 b), (G, .inr (1, [.ref GB, .ref GW, .ref GR])), (GB, zArr cI 64 bo), (GW, zArr cI 64 wo), (GR, zArr cI 6 ro), (FR, zArr cI 6 fr), (CH, zArr cI 6 ch)] (iI (zLc b g ch j n)) := by
  refine zRi_of (cc := cX2_longestChainFrom) (maxL := 4) (rt := .int) (by decide) rfl (Nat.le_of_ble_eq_true rfl) ?_
  intro p e s m args below meth c ls hF hr hlocks hP hK hl
  have hF : zFix p m c cX2_longestChainFrom 4 s args wsX2_longestChainFrom RX2 := hF
  obtain ⟨hx, hb, hml, hown, hts⟩ := id hF
  have hP : va_P D vwCl [(h, .inr (2, [.ref B, .ref G, .ref TB, .ref TG, .ref FR, .ref CH, .int (iI (rc)), .int (iI (sh)), .int (iI (po))])), (B, .inr (0, [.ref C, .int (iI ((n : Nat) : Int))])), (C, zArr cI 36 b), (G, .inr (1, [.ref GB, .ref GW, .ref GR])), (GB, zArr cI 64 bo), (GW, zArr cI 64 wo), (GR, zArr cI 6 ro), (FR, zArr cI 6 fr), (CH, zArr cI 6 ch)] s.heap := hP
  have hl : lv_has ls 4 [(0, .ref h), (1, .int (iI ((j : Nat) : Int)))] := hl
  refine zr_ic (n := ((1 : Nat) : Int)) hx hb dX2_longestChainFrom_0 ?_
  refine lv_istore_n (lv' := [(2, .int (iI ((1 : Nat) : Int))), (0, .ref h), (1, .int (iI ((j : Nat) : Int)))]) hx hb dX2_longestChainFrom_1 rfl hl (by decide) rfl (fun ls hl => ?_)
  refine zr_ic (n := ((0 : Nat) : Int)) hx hb dX2_longestChainFrom_2 ?_
  refine lv_istore_n (lv' := [(3, .int (iI ((0 : Nat) : Int))), (2, .int (iI ((1 : Nat) : Int))), (0, .ref h), (1, .int (iI ((j : Nat) : Int)))]) hx hb dX2_longestChainFrom_3 rfl hl (by decide) rfl (fun ls hl => ?_)
  have LL : ∀ (k0 : Nat) (i : Nat), n - i < k0 → (hi : i ≤ n) → ∀ (ls : Array Slot), lv_has ls 4 [(0, .ref h), (1, .int (iI ((j : Nat) : Int))), (2, .int (iI (zLc b g ch j i))), (3, .int (iI ((i : Nat) : Int)))] → W p l e (zRm 4 86) s m args below meth c s.heap [] 0 0 (MQ below (vp_Si (fun x => x = (iI (zLc b g ch j n)))) args s 0 0 (fun _ => False)) (F0 m 4 ls []) := by
    intro k0
    induction k0 with
    | zero => intro i hk; exact absurd hk (Nat.not_lt_zero _)
    | succ k0 ih_LL =>
      intro i hk hi ls hl
      refine lv_iload_n hx hb dX2_longestChainFrom_4 rfl (lv_at hl 3 rfl) ?_
      refine lv_aload_n hx hb dX2_longestChainFrom_5 rfl (lv_at hl 0 rfl) ?_
      refine va_get (D := D) (ci := 2) (v := .ref B) (C := RX2) (T := TX2) (N := 9) hx hb hts (by decide +kernel) hown hK hP 0 rfl rfl 0 (by decide) (hts (.fieldLink RX2 10 "RentHarmony" "bids" "LRentHarmony$Bids;") (by decide +kernel)) (fun _ h9 => h9) rfl dX2_longestChainFrom_6 ?_
      refine zc_ri (As := []) (rest := [.int (iI ((i : Nat) : Int))]) hF (c_X0_size l D cI B C n b ) (cwV 0 hts gX2_longestChainFrom_X0_size rfl rfl rfl (by decide +kernel) ⟨Nat.le_of_ble_eq_true rfl, Nat.le_of_ble_eq_true rfl⟩) hK hP [1, 2] rfl 0 rfl 0 rfl rfl rfl rfl hl.1 rfl (Nat.le_of_ble_eq_true rfl) dX2_longestChainFrom_9 ⟨Nat.zero_le _, Nat.zero_le _⟩ ?_
      refine zr_icmp_ge (tgt := 43) hx hb dX2_longestChainFrom_12 (by decide) (zB_of (by omega) (by omega)) (zB_of (by omega) (by omega)) (fun c1 => ?_) (fun c1 => ?_)
      · refine lv_iload_n hx hb dX2_longestChainFrom_43 rfl (lv_at hl 2 rfl) ?_
        exact zRi_ret hx hb hr hlocks dX2_longestChainFrom_44 (by rw [show i = n by omega])
      · refine lv_aload_n hx hb dX2_longestChainFrom_15 rfl (lv_at hl 0 rfl) ?_
        refine lv_iload_n hx hb dX2_longestChainFrom_16 rfl (lv_at hl 1 rfl) ?_
        refine lv_iload_n hx hb dX2_longestChainFrom_17 rfl (lv_at hl 3 rfl) ?_
        refine zc_ri (As := [.int (iI ((j : Nat) : Int)), .int (iI ((i : Nat) : Int))]) (rest := []) hF (c_X2_wouldEnvy l D cI h B C G GB GW GR TB TG FR CH n b bo wo ro fr rc sh po g j i (by omega) (by assumption) (by assumption) (by assumption) (by omega) (by omega)) (cwV 2 hts gX2_longestChainFrom_X2_wouldEnvy rfl rfl rfl (by decide +kernel) ⟨Nat.le_of_ble_eq_true rfl, Nat.le_of_ble_eq_true rfl⟩) hK hP [0, 1, 2, 3, 4, 5, 6, 7] rfl 0 rfl 0 rfl rfl rfl rfl hl.1 rfl (Nat.le_of_ble_eq_true rfl) dX2_longestChainFrom_18 ⟨Nat.zero_le _, Nat.zero_le _⟩ ?_
        refine zr_ifB_eq (tgt := 37) hx hb dX2_longestChainFrom_21 (by decide)  (fun c2 => ?_) (fun c2 => ?_)
        · refine zr_iinc (lv2 := [(3, .int (iI (((i : Nat) : Int) + 1))), (0, .ref h), (1, .int (iI ((j : Nat) : Int))), (2, .int (iI (zLc b g ch j i)))]) hx hb dX2_longestChainFrom_37 hl (k0 := 3) rfl (by decide) rfl (fun ls hl => ?_)
          have hl : lv_has ls 4 [(3, .int (iI ((i + 1 : Nat) : Int))), (0, .ref h), (1, .int (iI ((j : Nat) : Int))), (2, .int (iI (zLc b g ch j i)))] := hl
          refine lv_goto (tgt := 4) hx hb dX2_longestChainFrom_40 (by decide) ?_
          have hl : lv_has ls 4 [(3, .int (iI ((i + 1 : Nat) : Int))), (0, .ref h), (1, .int (iI ((j : Nat) : Int))), (2, .int (iI (zLc b g ch j (i + 1))))] := by rw [show (zLc b g ch j (i + 1)) = (zLc b g ch j i) from by show (if zEn b g j i then max (zLc b g ch j i) (ch i + 1) else zLc b g ch j i) = _; exact if_neg c2]; exact hl
          exact ih_LL (i + 1) (by omega) (by omega) _ (lv_sub hl [1, 2, 3, 0] rfl)
        · refine lv_iload_n hx hb dX2_longestChainFrom_24 rfl (lv_at hl 2 rfl) ?_
          refine lv_aload_n hx hb dX2_longestChainFrom_25 rfl (lv_at hl 0 rfl) ?_
          refine va_get (D := D) (ci := 2) (v := .ref CH) (C := RX2) (T := TX2) (N := 9) hx hb hts (by decide +kernel) hown hK hP 0 rfl rfl 5 (by decide) (hts (.fieldLink RX2 33 "RentHarmony" "chains" "[I") (by decide +kernel)) (fun _ h9 => h9) rfl dX2_longestChainFrom_26 ?_
          refine lv_iload_n hx hb dX2_longestChainFrom_29 rfl (lv_at hl 3 rfl) ?_
          refine zr_iald hx hb hK hP 8 0 rfl rfl (i) (by omega) (by omega) (by omega) dX2_longestChainFrom_30 ?_
          refine zr_ic (n := ((1 : Nat) : Int)) hx hb dX2_longestChainFrom_31 ?_
          refine zr_add hx hb dX2_longestChainFrom_32 ?_
          have hm1 := zLc_b (b := b) (g := g) (ch := ch) (a := j) (M := 10000) (by decide) i (fun c hc => by have q := hch c (by omega); omega)
          have hm2 := hch i (by omega)
          refine zr_max (rest := []) hx hb (hml.trans hl.1.symm) hown (hts (.methodLink RX2 123 Lib.Math.max.name) (by decide +kernel)) (hts (.static Lib.Math.max.name) (by decide +kernel)) (hts (.initialized "java/lang/Math") (by decide +kernel)) (hts (.code Lib.Math.max.name Lib.Math.max.code 2 (some .int)) (by decide +kernel)) (Nat.le_of_ble_eq_true rfl) (Nat.le_of_ble_eq_true rfl) (Nat.zero_le _) (Nat.zero_le _) (zB_of (by omega) (by omega)) (zB_of (by omega) (by omega)) dX2_longestChainFrom_33 ?_
          refine lv_istore_n (lv' := [(2, .int (iI (max (zLc b g ch j i) ((ch (i)) + ((1 : Nat) : Int))))), (0, .ref h), (1, .int (iI ((j : Nat) : Int))), (3, .int (iI ((i : Nat) : Int)))]) hx hb dX2_longestChainFrom_36 rfl hl (by decide) rfl (fun ls hl => ?_)
          refine zr_iinc (lv2 := [(3, .int (iI (((i : Nat) : Int) + 1))), (2, .int (iI (max (zLc b g ch j i) ((ch (i)) + ((1 : Nat) : Int))))), (0, .ref h), (1, .int (iI ((j : Nat) : Int)))]) hx hb dX2_longestChainFrom_37 hl (k0 := 3) rfl (by decide) rfl (fun ls hl => ?_)
          have hl : lv_has ls 4 [(3, .int (iI ((i + 1 : Nat) : Int))), (2, .int (iI (max (zLc b g ch j i) ((ch (i)) + ((1 : Nat) : Int))))), (0, .ref h), (1, .int (iI ((j : Nat) : Int)))] := hl
          refine lv_goto (tgt := 4) hx hb dX2_longestChainFrom_40 (by decide) ?_
          have hl : lv_has ls 4 [(3, .int (iI ((i + 1 : Nat) : Int))), (2, .int (iI (zLc b g ch j (i + 1)))), (0, .ref h), (1, .int (iI ((j : Nat) : Int)))] := by rw [show (zLc b g ch j (i + 1)) = (max (zLc b g ch j i) ((ch (i)) + ((1 : Nat) : Int))) from by show (if zEn b g j i then max (zLc b g ch j i) (ch i + 1) else zLc b g ch j i) = _; exact if_pos c2]; exact hl
          exact ih_LL (i + 1) (by omega) (by omega) _ (lv_sub hl [2, 3, 1, 0] rfl)
  have hl : lv_has ls 4 [(3, .int (iI ((0 : Nat) : Int))), (2, .int (iI (zLc b g ch j 0))), (0, .ref h), (1, .int (iI ((j : Nat) : Int)))] := by rw [show (zLc b g ch j 0) = ((1 : Nat) : Int) from rfl]; exact hl
  exact LL ((n - (0)) + 1) (0) (Nat.lt_succ_self _) (by omega) _ (lv_sub hl [2, 3, 1, 0] rfl)
end
