section
-- ===== PART A: goes FIRST, ahead of the names: the tables' words, and 'selects' of the private methods out of them =====
/-- a private method of a class that the tables say can be made, by its rows of tables_1 -/
def lw_okq (q : MethodName × Nat) : Prop := (q.1.cls ≠ "java/lang/invoke/MethodHandle" ∧ q.1.cls ≠ "java/lang/invoke/VarHandle") ∧ Cond.instantiable q.1.cls q.2 ∈ tables_1 ∧ Cond.privateMethod q.1 ∈ tables_1 ∧ Cond.instanceMethod q.1 ∈ tables_1
theorem lw_p0 : lw_okq (⟨"RentHarmony", "longestChainFrom", "(I)I"⟩, 9) := ⟨⟨by decide +kernel, by decide +kernel⟩, List.mem_of_getElem? (i := 15) (by decide +kernel), List.mem_of_getElem? (i := 89) (by decide +kernel), List.mem_of_getElem? (i := 90) (by decide +kernel)⟩
theorem lw_p1 : lw_okq (⟨"RentHarmony", "wouldEnvy", "(II)Z"⟩, 9) := ⟨⟨by decide +kernel, by decide +kernel⟩, List.mem_of_getElem? (i := 15) (by decide +kernel), List.mem_of_getElem? (i := 93) (by decide +kernel), List.mem_of_getElem? (i := 94) (by decide +kernel)⟩
theorem lw_p2 : lw_okq (⟨"RentHarmony", "ownBidOf", "(I)I"⟩, 9) := ⟨⟨by decide +kernel, by decide +kernel⟩, List.mem_of_getElem? (i := 15) (by decide +kernel), List.mem_of_getElem? (i := 109) (by decide +kernel), List.mem_of_getElem? (i := 110) (by decide +kernel)⟩
theorem lw_p3 : lw_okq (⟨"RentHarmony", "allPays", "()I"⟩, 9) := ⟨⟨by decide +kernel, by decide +kernel⟩, List.mem_of_getElem? (i := 15) (by decide +kernel), List.mem_of_getElem? (i := 120) (by decide +kernel), List.mem_of_getElem? (i := 121) (by decide +kernel)⟩
theorem lw_p4 : lw_okq (⟨"RentHarmony", "payOf", "(I)I"⟩, 9) := ⟨⟨by decide +kernel, by decide +kernel⟩, List.mem_of_getElem? (i := 15) (by decide +kernel), List.mem_of_getElem? (i := 124) (by decide +kernel), List.mem_of_getElem? (i := 125) (by decide +kernel)⟩
theorem lw_p5 : lw_okq (⟨"RentHarmony", "rebateOf", "(I)I"⟩, 9) := ⟨⟨by decide +kernel, by decide +kernel⟩, List.mem_of_getElem? (i := 15) (by decide +kernel), List.mem_of_getElem? (i := 128) (by decide +kernel), List.mem_of_getElem? (i := 129) (by decide +kernel)⟩
theorem lw_p6 : lw_okq (⟨"RentHarmony", "firstRebateOf", "(I)I"⟩, 9) := ⟨⟨by decide +kernel, by decide +kernel⟩, List.mem_of_getElem? (i := 15) (by decide +kernel), List.mem_of_getElem? (i := 132) (by decide +kernel), List.mem_of_getElem? (i := 133) (by decide +kernel)⟩
theorem lw_p7 : lw_okq (⟨"RentHarmony", "total", "(I)I"⟩, 9) := ⟨⟨by decide +kernel, by decide +kernel⟩, List.mem_of_getElem? (i := 15) (by decide +kernel), List.mem_of_getElem? (i := 143) (by decide +kernel), List.mem_of_getElem? (i := 144) (by decide +kernel)⟩
theorem lw_p8 : lw_okq (⟨"RentHarmony", "allFirstRebates", "()I"⟩, 9) := ⟨⟨by decide +kernel, by decide +kernel⟩, List.mem_of_getElem? (i := 15) (by decide +kernel), List.mem_of_getElem? (i := 151) (by decide +kernel), List.mem_of_getElem? (i := 152) (by decide +kernel)⟩
theorem lw_p9 : lw_okq (⟨"RentHarmony", "fact", "(II)I"⟩, 9) := ⟨⟨by decide +kernel, by decide +kernel⟩, List.mem_of_getElem? (i := 15) (by decide +kernel), List.mem_of_getElem? (i := 159) (by decide +kernel), List.mem_of_getElem? (i := 160) (by decide +kernel)⟩
theorem lw_p10 : lw_okq (⟨"RentHarmony", "enviedBy", "(I)I"⟩, 9) := ⟨⟨by decide +kernel, by decide +kernel⟩, List.mem_of_getElem? (i := 15) (by decide +kernel), List.mem_of_getElem? (i := 163) (by decide +kernel), List.mem_of_getElem? (i := 164) (by decide +kernel)⟩
theorem lw_p11 : lw_okq (⟨"java/lang/Throwable", "fillInStackTrace", "(I)Ljava/lang/Throwable;"⟩, 6) := ⟨⟨by decide +kernel, by decide +kernel⟩, List.mem_of_getElem? (i := 213) (by decide +kernel), List.mem_of_getElem? (i := 211) (by decide +kernel), List.mem_of_getElem? (i := 212) (by decide +kernel)⟩
theorem lw_p12 : lw_okq (⟨"RentHarmony", "settleAll", "()V"⟩, 9) := ⟨⟨by decide +kernel, by decide +kernel⟩, List.mem_of_getElem? (i := 15) (by decide +kernel), List.mem_of_getElem? (i := 251) (by decide +kernel), List.mem_of_getElem? (i := 252) (by decide +kernel)⟩
theorem lw_p13 : lw_okq (⟨"RentHarmony$Giving", "weigh", "(LRentHarmony$Bids;I)V"⟩, 3) := ⟨⟨by decide +kernel, by decide +kernel⟩, List.mem_of_getElem? (i := 37) (by decide +kernel), List.mem_of_getElem? (i := 260) (by decide +kernel), List.mem_of_getElem? (i := 261) (by decide +kernel)⟩
theorem lw_p14 : lw_okq (⟨"RentHarmony$Giving", "firstBestRoom", "(LRentHarmony$Bids;II)I"⟩, 3) := ⟨⟨by decide +kernel, by decide +kernel⟩, List.mem_of_getElem? (i := 37) (by decide +kernel), List.mem_of_getElem? (i := 271) (by decide +kernel), List.mem_of_getElem? (i := 272) (by decide +kernel)⟩
theorem lw_p15 : lw_okq (⟨"RentHarmony", "settleFirstRebates", "()V"⟩, 9) := ⟨⟨by decide +kernel, by decide +kernel⟩, List.mem_of_getElem? (i := 15) (by decide +kernel), List.mem_of_getElem? (i := 275) (by decide +kernel), List.mem_of_getElem? (i := 276) (by decide +kernel)⟩
def lw_privs_1 : List (MethodName × Nat) := [(⟨"RentHarmony", "longestChainFrom", "(I)I"⟩, 9), (⟨"RentHarmony", "wouldEnvy", "(II)Z"⟩, 9), (⟨"RentHarmony", "ownBidOf", "(I)I"⟩, 9), (⟨"RentHarmony", "allPays", "()I"⟩, 9), (⟨"RentHarmony", "payOf", "(I)I"⟩, 9), (⟨"RentHarmony", "rebateOf", "(I)I"⟩, 9), (⟨"RentHarmony", "firstRebateOf", "(I)I"⟩, 9), (⟨"RentHarmony", "total", "(I)I"⟩, 9), (⟨"RentHarmony", "allFirstRebates", "()I"⟩, 9), (⟨"RentHarmony", "fact", "(II)I"⟩, 9), (⟨"RentHarmony", "enviedBy", "(I)I"⟩, 9), (⟨"java/lang/Throwable", "fillInStackTrace", "(I)Ljava/lang/Throwable;"⟩, 6), (⟨"RentHarmony", "settleAll", "()V"⟩, 9), (⟨"RentHarmony$Giving", "weigh", "(LRentHarmony$Bids;I)V"⟩, 3), (⟨"RentHarmony$Giving", "firstBestRoom", "(LRentHarmony$Bids;II)I"⟩, 3), (⟨"RentHarmony", "settleFirstRebates", "()V"⟩, 9)]
theorem lw_r1 : ∀ q ∈ lw_privs_1, lw_okq q := List.forall_mem_cons.mpr ⟨lw_p0, List.forall_mem_cons.mpr ⟨lw_p1, List.forall_mem_cons.mpr ⟨lw_p2, List.forall_mem_cons.mpr ⟨lw_p3, List.forall_mem_cons.mpr ⟨lw_p4, List.forall_mem_cons.mpr ⟨lw_p5, List.forall_mem_cons.mpr ⟨lw_p6, List.forall_mem_cons.mpr ⟨lw_p7, List.forall_mem_cons.mpr ⟨lw_p8, List.forall_mem_cons.mpr ⟨lw_p9, List.forall_mem_cons.mpr ⟨lw_p10, List.forall_mem_cons.mpr ⟨lw_p11, List.forall_mem_cons.mpr ⟨lw_p12, List.forall_mem_cons.mpr ⟨lw_p13, List.forall_mem_cons.mpr ⟨lw_p14, List.forall_mem_cons.mpr ⟨lw_p15, fun _ h => absurd h List.not_mem_nil⟩⟩⟩⟩⟩⟩⟩⟩⟩⟩⟩⟩⟩⟩⟩⟩
theorem lw_p16 : lw_okq (⟨"RentHarmony", "bestOfAllRooms", "(I)I"⟩, 9) := ⟨⟨by decide +kernel, by decide +kernel⟩, List.mem_of_getElem? (i := 15) (by decide +kernel), List.mem_of_getElem? (i := 279) (by decide +kernel), List.mem_of_getElem? (i := 280) (by decide +kernel)⟩
theorem lw_p17 : lw_okq (⟨"RentHarmony", "settleLeftOver", "()V"⟩, 9) := ⟨⟨by decide +kernel, by decide +kernel⟩, List.mem_of_getElem? (i := 15) (by decide +kernel), List.mem_of_getElem? (i := 283) (by decide +kernel), List.mem_of_getElem? (i := 284) (by decide +kernel)⟩
theorem lw_p18 : lw_okq (⟨"RentHarmony", "roomTried", "(III)I"⟩, 9) := ⟨⟨by decide +kernel, by decide +kernel⟩, List.mem_of_getElem? (i := 15) (by decide +kernel), List.mem_of_getElem? (i := 401) (by decide +kernel), List.mem_of_getElem? (i := 402) (by decide +kernel)⟩
theorem lw_p19 : lw_okq (⟨"RentHarmonyModel", "fail", "(I)I"⟩, 15) := ⟨⟨by decide +kernel, by decide +kernel⟩, List.mem_of_getElem? (i := 419) (by decide +kernel), List.mem_of_getElem? (i := 479) (by decide +kernel), List.mem_of_getElem? (i := 480) (by decide +kernel)⟩
theorem lw_p20 : lw_okq (⟨"RentHarmonyModel", "isOne", "(I)Z"⟩, 15) := ⟨⟨by decide +kernel, by decide +kernel⟩, List.mem_of_getElem? (i := 419) (by decide +kernel), List.mem_of_getElem? (i := 487) (by decide +kernel), List.mem_of_getElem? (i := 488) (by decide +kernel)⟩
theorem lw_p21 : lw_okq (⟨"RentHarmonyModel", "bi", "(II)I"⟩, 15) := ⟨⟨by decide +kernel, by decide +kernel⟩, List.mem_of_getElem? (i := 419) (by decide +kernel), List.mem_of_getElem? (i := 494) (by decide +kernel), List.mem_of_getElem? (i := 495) (by decide +kernel)⟩
theorem lw_p22 : lw_okq (⟨"RentHarmonyModel", "settle", "()V"⟩, 15) := ⟨⟨by decide +kernel, by decide +kernel⟩, List.mem_of_getElem? (i := 419) (by decide +kernel), List.mem_of_getElem? (i := 506) (by decide +kernel), List.mem_of_getElem? (i := 507) (by decide +kernel)⟩
theorem lw_p23 : lw_okq (⟨"RentHarmonyModel", "give", "()I"⟩, 15) := ⟨⟨by decide +kernel, by decide +kernel⟩, List.mem_of_getElem? (i := 419) (by decide +kernel), List.mem_of_getElem? (i := 510) (by decide +kernel), List.mem_of_getElem? (i := 511) (by decide +kernel)⟩
theorem lw_p24 : lw_okq (⟨"RentHarmonyModel", "tryFrom", "(II)V"⟩, 15) := ⟨⟨by decide +kernel, by decide +kernel⟩, List.mem_of_getElem? (i := 419) (by decide +kernel), List.mem_of_getElem? (i := 514) (by decide +kernel), List.mem_of_getElem? (i := 515) (by decide +kernel)⟩
theorem lw_p25 : lw_okq (⟨"RentHarmonyModel", "isTaken", "(II)Z"⟩, 15) := ⟨⟨by decide +kernel, by decide +kernel⟩, List.mem_of_getElem? (i := 419) (by decide +kernel), List.mem_of_getElem? (i := 519) (by decide +kernel), List.mem_of_getElem? (i := 520) (by decide +kernel)⟩
theorem lw_p26 : lw_okq (⟨"RentHarmonyModel", "isRaised", "()Z"⟩, 15) := ⟨⟨by decide +kernel, by decide +kernel⟩, List.mem_of_getElem? (i := 419) (by decide +kernel), List.mem_of_getElem? (i := 523) (by decide +kernel), List.mem_of_getElem? (i := 524) (by decide +kernel)⟩
theorem lw_p27 : lw_okq (⟨"RentHarmonyModel", "of", "(II)I"⟩, 15) := ⟨⟨by decide +kernel, by decide +kernel⟩, List.mem_of_getElem? (i := 419) (by decide +kernel), List.mem_of_getElem? (i := 527) (by decide +kernel), List.mem_of_getElem? (i := 528) (by decide +kernel)⟩
theorem lw_p28 : lw_okq (⟨"RentHarmonyModel", "toldOf", "(II)I"⟩, 15) := ⟨⟨by decide +kernel, by decide +kernel⟩, List.mem_of_getElem? (i := 419) (by decide +kernel), List.mem_of_getElem? (i := 535) (by decide +kernel), List.mem_of_getElem? (i := 536) (by decide +kernel)⟩
theorem lw_p29 : lw_okq (⟨"RentHarmonyModel", "pays", "(I)I"⟩, 15) := ⟨⟨by decide +kernel, by decide +kernel⟩, List.mem_of_getElem? (i := 419) (by decide +kernel), List.mem_of_getElem? (i := 539) (by decide +kernel), List.mem_of_getElem? (i := 540) (by decide +kernel)⟩
theorem lw_p30 : lw_okq (⟨"RentHarmonyModel", "isEnvy", "(II)Z"⟩, 15) := ⟨⟨by decide +kernel, by decide +kernel⟩, List.mem_of_getElem? (i := 419) (by decide +kernel), List.mem_of_getElem? (i := 543) (by decide +kernel), List.mem_of_getElem? (i := 544) (by decide +kernel)⟩
theorem lw_p31 : lw_okq (⟨"RentHarmonyModel", "counted", "(I)I"⟩, 15) := ⟨⟨by decide +kernel, by decide +kernel⟩, List.mem_of_getElem? (i := 419) (by decide +kernel), List.mem_of_getElem? (i := 555) (by decide +kernel), List.mem_of_getElem? (i := 556) (by decide +kernel)⟩
def lw_privs_2 : List (MethodName × Nat) := [(⟨"RentHarmony", "bestOfAllRooms", "(I)I"⟩, 9), (⟨"RentHarmony", "settleLeftOver", "()V"⟩, 9), (⟨"RentHarmony", "roomTried", "(III)I"⟩, 9), (⟨"RentHarmonyModel", "fail", "(I)I"⟩, 15), (⟨"RentHarmonyModel", "isOne", "(I)Z"⟩, 15), (⟨"RentHarmonyModel", "bi", "(II)I"⟩, 15), (⟨"RentHarmonyModel", "settle", "()V"⟩, 15), (⟨"RentHarmonyModel", "give", "()I"⟩, 15), (⟨"RentHarmonyModel", "tryFrom", "(II)V"⟩, 15), (⟨"RentHarmonyModel", "isTaken", "(II)Z"⟩, 15), (⟨"RentHarmonyModel", "isRaised", "()Z"⟩, 15), (⟨"RentHarmonyModel", "of", "(II)I"⟩, 15), (⟨"RentHarmonyModel", "toldOf", "(II)I"⟩, 15), (⟨"RentHarmonyModel", "pays", "(I)I"⟩, 15), (⟨"RentHarmonyModel", "isEnvy", "(II)Z"⟩, 15), (⟨"RentHarmonyModel", "counted", "(I)I"⟩, 15)]
theorem lw_r2 : ∀ q ∈ lw_privs_2, lw_okq q := List.forall_mem_cons.mpr ⟨lw_p16, List.forall_mem_cons.mpr ⟨lw_p17, List.forall_mem_cons.mpr ⟨lw_p18, List.forall_mem_cons.mpr ⟨lw_p19, List.forall_mem_cons.mpr ⟨lw_p20, List.forall_mem_cons.mpr ⟨lw_p21, List.forall_mem_cons.mpr ⟨lw_p22, List.forall_mem_cons.mpr ⟨lw_p23, List.forall_mem_cons.mpr ⟨lw_p24, List.forall_mem_cons.mpr ⟨lw_p25, List.forall_mem_cons.mpr ⟨lw_p26, List.forall_mem_cons.mpr ⟨lw_p27, List.forall_mem_cons.mpr ⟨lw_p28, List.forall_mem_cons.mpr ⟨lw_p29, List.forall_mem_cons.mpr ⟨lw_p30, List.forall_mem_cons.mpr ⟨lw_p31, fun _ h => absurd h List.not_mem_nil⟩⟩⟩⟩⟩⟩⟩⟩⟩⟩⟩⟩⟩⟩⟩⟩
theorem lw_p32 : lw_okq (⟨"RentHarmonyModel", "chainFrom", "(I)I"⟩, 15) := ⟨⟨by decide +kernel, by decide +kernel⟩, List.mem_of_getElem? (i := 419) (by decide +kernel), List.mem_of_getElem? (i := 571) (by decide +kernel), List.mem_of_getElem? (i := 572) (by decide +kernel)⟩
theorem lw_p33 : lw_okq (⟨"RentHarmonyModel", "roomWith", "(III)I"⟩, 15) := ⟨⟨by decide +kernel, by decide +kernel⟩, List.mem_of_getElem? (i := 419) (by decide +kernel), List.mem_of_getElem? (i := 580) (by decide +kernel), List.mem_of_getElem? (i := 581) (by decide +kernel)⟩
theorem lw_p34 : lw_okq (⟨"RentHarmonyModel", "worthWith", "(IIZZ)I"⟩, 15) := ⟨⟨by decide +kernel, by decide +kernel⟩, List.mem_of_getElem? (i := 419) (by decide +kernel), List.mem_of_getElem? (i := 588) (by decide +kernel), List.mem_of_getElem? (i := 589) (by decide +kernel)⟩
def lw_privs_3 : List (MethodName × Nat) := [(⟨"RentHarmonyModel", "chainFrom", "(I)I"⟩, 15), (⟨"RentHarmonyModel", "roomWith", "(III)I"⟩, 15), (⟨"RentHarmonyModel", "worthWith", "(IIZZ)I"⟩, 15)]
theorem lw_r3 : ∀ q ∈ lw_privs_3, lw_okq q := List.forall_mem_cons.mpr ⟨lw_p32, List.forall_mem_cons.mpr ⟨lw_p33, List.forall_mem_cons.mpr ⟨lw_p34, fun _ h => absurd h List.not_mem_nil⟩⟩⟩
def lw_privs : List (MethodName × Nat) := lw_privs_1 ++ (lw_privs_2 ++ (lw_privs_3))
def lw_tbl : List Cond := k2_sels lw_privs ++ tables_1
theorem lw_privs_ok : ∀ q ∈ lw_privs, lw_okq q := by
  show ∀ q ∈ lw_privs_1 ++ (lw_privs_2 ++ (lw_privs_3)), lw_okq q
  exact List.forall_mem_append.mpr ⟨lw_r1, List.forall_mem_append.mpr ⟨lw_r2, lw_r3⟩⟩
/-- the streams that the claim lets the run draw from -/
abbrev lw_cs : List Choice := [Jvm.Choice.named "NaN.bits"]
theorem lw_bits : nanBits ∈ lw_cs := by first | decide | exact List.mem_cons_self | simp [lw_cs, nanBits]
-- ===== end of PART A =====
/-! ===== BEGIN words of one list among another's, by their places ===== -/
theorem goodIn_r {big : List Cond} (ws : List Cond) (ps : List Nat) (hp : ws = ps.filterMap (fun i => big[i]?)) (h : ws.all goodWord = true) : GoodIn big ws := by
  intro w hw
  have h1 := List.all_eq_true.mp h w hw
  rw [hp] at hw
  obtain ⟨i, -, hi⟩ := List.mem_filterMap.mp hw
  have hm : w ∈ big := by first | exact List.mem_of_getElem? hi | exact List.getElem?_mem hi
  exact ⟨hm, good_of_word h1⟩
theorem goodIn_app {big a b : List Cond} (ha : GoodIn big a) (hb : GoodIn big b) : GoodIn big (a ++ b) := fun w h => (List.mem_append.mp h).elim (ha w) (hb w)
theorem goodIn_ca {big a b : List Cond} {c : Cond} (ha : GoodIn big (c :: a)) (hb : GoodIn big b) : GoodIn big (c :: (a ++ b)) := fun w h => (List.mem_cons.mp h).elim (fun e => ha w (List.mem_cons.mpr (Or.inl e))) (fun h => (List.mem_append.mp h).elim (fun h => ha w (List.mem_cons.mpr (Or.inr h))) (hb w))
theorem goodIn_sub {big ws : List Cond} (hm : ∀ w ∈ ws, w ∈ big) (h : ws.all goodWord = true) : GoodIn big ws := fun w hw => ⟨hm w hw, good_of_word (List.all_eq_true.mp h w hw)⟩
/-! ===== END ===== -/

/-! ===== BEGIN exceptions that leave a method, and their catching by the caller (launches without stack traces) ===== -/
section VXA
/-! The laws vx_back, vx_callV, vx_callS, vx_callSW, vx_throw0, vx_throwS follow proofs of the library, with one case more: JvmDerived/Free/Laws.lean (Back.of_free), Shelf42/LK1.lean (callV, callS), Shelf/KitTraced.lean (throwNew0V, throwNewS). -/
/-- where a method has thrown q: the class by its name, the cell, what was written, the world -/
def vx_T (XC : String → State → State → Prop) (st : State) (q : Addr) (t : State) (mc ms : Nat) (free : Addr → Prop) : Prop :=
  ∃ (E : String) (ce : Cell) (L : List Loc), XC E st t ∧ t.heap[q]? = some ce ∧ ce.vm = .none ∧ st.vm.findClass E = some ce.cls ∧ st.WarmedH t.vm ∧ st.sameButNew ({ t with vm := st.vm } : State) L mc ms ∧ ∀ z ∈ L, free z.base
def vx_Q (Qc : Array Value → State → Outcome → State → Prop) (XC : String → State → State → Prop) (mc ms : Nat) (free : Addr → Prop) : Array Value → State → Outcome → State → Prop := fun a st o t =>
  (Qc a st o t ∧ ∃ L, FrameEnd st o t L mc ms ∧ ∀ q ∈ L, free q.base) ∨ ∃ q, o = .threw q ∧ vx_T XC st q t mc ms free
/-- a callee that returns or throws -/
def vx_Met (l : Launch) (y : MethodName) (ws : List Cond) (rm : Room) (Pc : Array Value → State → Prop) (Qc : Array Value → State → Outcome → State → Prop) (XC : String → State → State → Prop) (mc ms : Nat) (free : Addr → Prop) : Prop :=
  MetFree l y (headSpec ws rm) Pc (fun _ _ _ _ _ => True) (vx_Q Qc XC mc ms free)
def vx_Post (XC : String → State → State → Prop) (mc ms : Nat) (free : Addr → Prop) : Pt → Array Value → Addr → Pt → Prop := fun A a q B =>
  ∃ (g : JFrame) (mk : MethodId) (t : State) (L : List Loc) (E : String) (ce : Cell), B.U.heap = t.heap ∧ B.U.vm = t.vm ∧ XC E (A.U.calling g mk a) t ∧ t.heap[q]? = some ce ∧ ce.vm = .none ∧ A.U.vm.findClass E = some ce.cls ∧ B.locs = A.locs ++ L ∧ (∀ z ∈ L, free z.base) ∧ B.cells = A.cells + mc ∧ B.slots = A.slots + ms
def vx_Back (l : Launch) (R : Room) (p : Program) (e : Env) (below : List Frame) (s : State) (sargs : Array Value) (y : MethodName) (len W9 : Nat)
    (Pre : Pt → Array Value → Prop) (Post : Pt → Array Value → Option Value → Pt → Prop) (PostX : Pt → Array Value → Addr → Pt → Prop) : Prop :=
  ∀ (m : MethodId) (meth : Method) (c : Code) (A : Pt) (g : JFrame) (ig : Instr) (mk : MethodId) (a : Array Value),
    Stand p l e R s m sargs below meth c A.U A.locs A.cells A.slots → g.method = m → g.locals.size = c.maxLocals → decode c.code g.pc = .ok (ig, len) →
    2 * g.monitorRoom + (g.stack.map fun v => v.category).sum ≤ W9 → A.U.methodNamed? y = some mk → Pre A a →
    (∃ (v : Option Value) (B : Pt), Stand p l e R s m sargs below meth c B.U B.locs B.cells B.slots ∧ Post A a v B ∧
      Steps p.tables e below (doInvoke e (A.U.setTop g) [] mk a).1 (B.U.setTop { g with pc := g.pc + len, stack := v.toList ++ g.stack })) ∨
    (∃ (q : Addr) (B : Pt), Stand p l e R s m sargs below meth c B.U B.locs B.cells B.slots ∧ PostX A a q B ∧
      Steps p.tables e below (doInvoke e (A.U.setTop g) [] mk a).1 ((B.U.setTop g).pushFrame (.throwing q)))
section Payer
variable {l : Launch} {R : Room} {p : Program} {e : Env} {below : List Frame} {s : State} {sargs : Array Value} {y : MethodName} {len W9 : Nat}
theorem vx_back {ws : List Cond} {rm : Room} {Pc : Array Value → State → Prop} {Qc : Array Value → State → Outcome → State → Prop} {XC : String → State → State → Prop} {mc ms : Nat} {free : Addr → Prop} {bytes : ByteArray} {maxL : Nat} {ret : Option FieldType}
    (hM : vx_Met l y ws rm Pc Qc XC mc ms free) (hblind : FrameBlind Pc) (hrc : rm.cells = mc) (hrs : rm.slots = ms)
    (hframes : rm.frames + 1 ≤ R.frames) (hlocals : W9 + (maxL + 11) + rm.locals ≤ R.locals)
    (hws : ∀ w ∈ ws, ∀ a' U, s.WarmedH U.vm → w.before a' U = true) (hcode : Cond.code y bytes maxL ret ∈ ws) (hinit : ∀ a' U, s.WarmedH U.vm → (Cond.initialized y.cls).before a' U = true) :
    vx_Back l R p e below s sargs y len W9 (PreOf R mc ms Pc) (PostOf Qc mc ms free) (vx_Post XC mc ms free) := by
  intro m meth c A g ig mk a X hg hsize hdg hW hn hp
  have h1 : (headSpec ws rm).pre.before a A.U = true := atoms_intro fun w hw => hws w hw _ _ X.warmed
  have h2 : (Cond.code y bytes maxL ret).before a A.U = true := hws _ hcode _ _ X.warmed
  have h3 : (Cond.initialized y.cls).before a A.U = true := hinit _ _ X.warmed
  have h4 : A.cells + (headSpec ws rm).room.cells ≤ R.cells := by rw [show (headSpec ws rm).room.cells = mc from hrc]; exact hp.1
  have h5 : A.slots + (headSpec ws rm).room.slots ≤ R.slots := by rw [show (headSpec ws rm).room.slots = ms from hrs]; exact hp.2.1
  have hPc : Pc a (A.U.calling g mk a) := hblind _ _ _ _ hp.2.2
  obtain ⟨U, Ls, c0, s0⟩ := A
  dsimp only [Pt.U, Pt.locs, Pt.cells, Pt.slots] at h1 h2 h3 h4 h5 X hn hPc ⊢
  obtain ⟨methY, cY, hmY, hcY, -, hlY, -, -, -, -⟩ := Cond.code_spec hn h2
  obtain ⟨kY, hkY, -⟩ := className_of_methodNamed hn
  have hinitY : kY.init = .initialized := Cond.initialized_spec (findClass_of_methodNamed hn) hkY h3
  have h : At U g.method c below := by rw [hg]; exact X.here
  have hlocals9 : W9 + (maxL + 11) + (headSpec ws rm).room.locals ≤ R.locals := hlocals
  have happ : (headSpec ws rm).appliesLoose y e.platform (U.calling g mk a) = true :=
    Spec.appliesLoose_calling (g := g) h hdg hn hkY hinitY
      (X.room_calling (g := g) (R' := (headSpec ws rm).room) hsize hmY hcY hframes (by rw [hlY]; omega) h4 h5) h1
  obtain ⟨mid, hmid⟩ := h.above
  have hfr : (U.setTop g).frames = (.java g :: mid) ++ below := by rw [State.frames_setTop' g h.top, hmid]; rfl
  obtain ⟨o, s₂, hsteps, -, hend, hq⟩ := Steps.callFree hM p X.admits X.cas X.clock (acts := []) hfr happ hPc trivial
  have hq' : vx_Q Qc XC mc ms free a (U.calling g mk a) o s₂ := hq
  rw [State.frames_setTop' g h.top] at hend
  obtain ⟨g₀, hg0⟩ := Option.isSome_iff_exists.mp h.top
  obtain ⟨r, hr⟩ := State.topJava?_eq_some.mp hg0
  have hr' : (({ U with heap := s₂.heap, slotsUsed := s₂.slotsUsed } : State).setVm s₂.vm).frames = .java g₀ :: r := hr
  rcases hq' with ⟨hqc, L, hfe, hL⟩ | ⟨q, rfl, E, ce, L, hx, hce, hcv, hcl, hW₂, hsm, hL⟩
  · obtain ⟨⟨v, rfl⟩, hW₂, e2, q2, q3, q4, q5, q6⟩ := id hfe
    have e3 : s₂ = ({ (U.calling g mk a).setFrames s₂.frames with heap := s₂.heap, slotsUsed := s₂.slotsUsed } : State).setVm s₂.vm := by
      have : s₂ = ({ s₂ with vm := (U.calling g mk a).vm } : State).setVm s₂.vm := rfl
      rw [e2] at this
      exact this
    obtain ⟨c₂, i₂, len₂, hc₂, hd₂, hf₂⟩ := hend
    have hW' : U.WarmedH s₂.vm := hW₂
    have hcc : c₂ = c := by
      have h1 : s₂.code? g.method = U.code? g.method := by
        rw [State.code?_eq, State.code?_eq, hW'.alike.method?]
      exact Option.some.inj (hc₂.symm.trans (h1.trans h.code))
    subst hcc
    have hlen : len₂ = len := by rw [hdg] at hd₂; cases hd₂; rfl
    subst hlen
    have hs₂ : s₂ = (({ U with heap := s₂.heap, slotsUsed := s₂.slotsUsed } : State).setVm s₂.vm).setTop { g with pc := g.pc + len₂, stack := v.toList ++ g.stack } := by
      refine e3.trans ?_
      rw [hf₂, State.calling_eq h.top, State.setFrames_setFrames, State.setTop_of_frames _ hr', hr]
      rfl
    have hsame : U.sameButNew ({ U with heap := s₂.heap, slotsUsed := s₂.slotsUsed } : State) L mc ms := by
      refine ⟨?_, q2, q3, q4, q5, q6⟩
      obtain ⟨t, ht, -⟩ := State.frames_cons hr
      show ({ U with heap := s₂.heap, slotsUsed := s₂.slotsUsed } : State) = { U.setFrames U.frames with heap := s₂.heap, slotsUsed := s₂.slotsUsed }
      rw [State.setFrames_self ht]
    subst hg
    refine Or.inl ⟨v, ⟨(({ U with heap := s₂.heap, slotsUsed := s₂.slotsUsed } : State).setVm s₂.vm), Ls ++ L, c0 + mc, s0 + ms⟩,
      ⟨X.admits, X.cas, X.clock, X.frames, X.room, X.hears, X.method, X.code, (X.here.setHeapUsed s₂.heap s₂.slotsUsed).setVm hW'.alike, X.tail, State.WarmedH.trans X.warmed hW', X.limits, X.bytes, X.same.trans (hsame.setVm s.vm)⟩,
      ⟨g, mk, s₂, L, rfl, rfl, hqc, rfl, hL, rfl, rfl⟩, ?_⟩
    show Steps p.tables e below _ ((({ U with heap := s₂.heap, slotsUsed := s₂.slotsUsed } : State).setVm s₂.vm).setTop { g with pc := g.pc + len₂, stack := v.toList ++ g.stack })
    rw [← hs₂]
    exact hsteps
  · obtain ⟨e2, q2, q3, q4, q5, q6⟩ := id hsm
    have e3 : s₂ = ({ (U.calling g mk a).setFrames s₂.frames with heap := s₂.heap, slotsUsed := s₂.slotsUsed } : State).setVm s₂.vm := by
      have : s₂ = ({ s₂ with vm := (U.calling g mk a).vm } : State).setVm s₂.vm := rfl
      rw [e2] at this
      exact this
    have hf₂ : s₂.frames = .throwing q :: .java g :: U.frames.tail := hend
    have hW' : U.WarmedH s₂.vm := hW₂
    have hs₂ : s₂ = ((({ U with heap := s₂.heap, slotsUsed := s₂.slotsUsed } : State).setVm s₂.vm).setTop g).pushFrame (.throwing q) := by
      refine e3.trans ?_
      rw [hf₂, State.calling_eq h.top, State.setFrames_setFrames, State.pushFrame, State.frames_setTop _ hr', State.setTop_of_frames _ hr', State.setFrames_setFrames, hr]
      rfl
    have hsame : U.sameButNew ({ U with heap := s₂.heap, slotsUsed := s₂.slotsUsed } : State) L mc ms := by
      refine ⟨?_, q2, q3, q4, q5, q6⟩
      obtain ⟨t, ht, -⟩ := State.frames_cons hr
      show ({ U with heap := s₂.heap, slotsUsed := s₂.slotsUsed } : State) = { U.setFrames U.frames with heap := s₂.heap, slotsUsed := s₂.slotsUsed }
      rw [State.setFrames_self ht]
    subst hg
    refine Or.inr ⟨q, ⟨(({ U with heap := s₂.heap, slotsUsed := s₂.slotsUsed } : State).setVm s₂.vm), Ls ++ L, c0 + mc, s0 + ms⟩,
      ⟨X.admits, X.cas, X.clock, X.frames, X.room, X.hears, X.method, X.code, (X.here.setHeapUsed s₂.heap s₂.slotsUsed).setVm hW'.alike, X.tail, State.WarmedH.trans X.warmed hW', X.limits, X.bytes, X.same.trans (hsame.setVm s.vm)⟩,
      ⟨g, mk, s₂, L, E, ce, rfl, rfl, hx, hce, hcv, hcl, rfl, hL, rfl, rfl⟩, ?_⟩
    show Steps p.tables e below _ (((({ U with heap := s₂.heap, slotsUsed := s₂.slotsUsed } : State).setVm s₂.vm).setTop g).pushFrame (.throwing q))
    rw [← hs₂]
    exact hsteps
end Payer
section Calls
variable {p : Program} {l : Launch} {e : Env} {R : Room} {s : State} {m : MethodId} {args : Array Value} {below : List Frame} {meth : Method} {c : Code} {T : State} {locs : List Loc} {cells slots : Nat}
theorem vx_callV (X : Stand p l e R s m args below meth c T locs cells slots) (hexec : p.tables.exec = Jvm.exec) {own C : String} {index : Nat} {y : MethodName} {bytes : ByteArray} {maxL : Nat} {ret : Option FieldType}
    (hown : s.vm.findClass own = some m.cls) (hlink : (Cond.methodLink own index y).before args s = true) (hinst : (Cond.instanceMethod y).before args s = true) (hsel : (Cond.selects C y y).before args s = true)
    (hcode : (Cond.code y bytes maxL ret).before args s = true) (hy : y.cls ≠ "java/lang/invoke/MethodHandle" ∧ y.cls ≠ "java/lang/invoke/VarHandle")
    {W9 : Nat} {Pre : Pt → Array Value → Prop} {Post : Pt → Array Value → Option Value → Pt → Prop} {PostX : Pt → Array Value → Addr → Pt → Prop} (hK : vx_Back l R p e below s args y 3 W9 Pre Post PostX)
    {b : Addr} {cellB : Cell} (hcell : T.heap[b]? = some cellB) (hobj : cellB.vm.isStatics = false) (hcls : s.vm.findClass C = some cellB.cls)
    {g : JFrame} (hg : g.method = m) (hsize : g.locals.size = c.maxLocals) {argsL rest : List Value} (hlen : ∀ sig, parseMethodDescriptor y.desc = some sig → argsL.length = sig.parameters.length)
    (hstack : g.stack = argsL.reverse ++ .ref b :: rest) (hW : 2 * g.monitorRoom + (rest.map fun v => v.category).sum ≤ W9) (hdg : decode c.code g.pc = .ok (.invokevirtual index, 3))
    (hpre : ∀ vm₁, s.WarmedH vm₁ → Pre ⟨T.setVm vm₁, locs, cells, slots⟩ (Value.ref b :: argsL).toArray) :
    (∃ (v : Option Value) (vm₁ : Vm) (B : Pt), s.WarmedH vm₁ ∧ Stand p l e R s m args below meth c B.U B.locs B.cells B.slots ∧ Post ⟨T.setVm vm₁, locs, cells, slots⟩ (Value.ref b :: argsL).toArray v B ∧
      ∀ target, Steps p.tables e below (B.U.setTop { g with pc := g.pc + 3, stack := v.toList ++ rest }) target → Steps p.tables e below (T.setTop g) target) ∨
    (∃ (q : Addr) (vm₁ : Vm) (B : Pt), s.WarmedH vm₁ ∧ Stand p l e R s m args below meth c B.U B.locs B.cells B.slots ∧ PostX ⟨T.setVm vm₁, locs, cells, slots⟩ (Value.ref b :: argsL).toArray q B ∧
      Steps p.tables e below (T.setTop g) ((B.U.setTop { g with stack := rest }).pushFrame (.throwing q))) := by
  obtain ⟨mk, methM, hnamed, hmethM, hstM, habM⟩ := Cond.instanceMethod_spec hinst
  obtain ⟨methM', cM, hmethM', -, -, -, -, -, -, hsigM⟩ := Cond.code_spec hnamed hcode
  cases hmethM.symm.trans hmethM'
  obtain ⟨c2, r2, m2, q1, q2, q3, q4, kP, hkP, hkPi⟩ := Cond.selects_spec hsel
  cases hcls.symm.trans q1
  cases (State.methodFound?_of_named hnamed hy).symm.trans q2
  cases hnamed.symm.trans q3
  have hselP : selectMethod e.platform s.vm cellB.cls mk = .method mk := by rw [Launch.admits_selectMethod X.admits]; exact q4
  obtain ⟨vm₁, X₁, hstep₁⟩ := X.invokevirtual hexec hown hlink hnamed hmethM hstM hkP hkPi hy (a := b) (cell := cellB) hcell
    (fun z h => by rw [h] at hobj; cases hobj) hselP hmethM habM hkP hkPi (g := g) hg (argsL := argsL) (rest := rest) (hlen _ hsigM) hstack hdg
  rcases hK m meth c ⟨T.setVm vm₁, locs, cells, slots⟩ { g with stack := rest } (.invokevirtual index) mk (Value.ref b :: argsL).toArray X₁ hg hsize hdg hW (X₁.named hnamed) (hpre vm₁ X₁.warmed) with ⟨v, B, X', hpost, hsteps⟩ | ⟨q, B, X', hpost, hsteps⟩
  · exact Or.inl ⟨v, vm₁, B, X₁.warmed, X', hpost, fun target h => hstep₁ _ fun acts => by rw [doInvoke_state]; exact hsteps.trans h⟩
  · exact Or.inr ⟨q, vm₁, B, X₁.warmed, X', hpost, hstep₁ _ fun acts => by rw [doInvoke_state]; exact hsteps⟩
theorem vx_callS (X : Stand p l e R s m args below meth c T locs cells slots) (hexec : p.tables.exec = Jvm.exec) {own : String} {index : Nat} {y : MethodName} {bytes : ByteArray} {maxL : Nat} {ret : Option FieldType}
    (hown : s.vm.findClass own = some m.cls) (hlink : (Cond.methodLink own index y).before args s = true) (hstat : (Cond.static y).before args s = true) (hinit : (Cond.initialized y.cls).before args s = true)
    (hcode : (Cond.code y bytes maxL ret).before args s = true) (hy : y.cls ≠ "java/lang/invoke/MethodHandle" ∧ y.cls ≠ "java/lang/invoke/VarHandle")
    {W9 : Nat} {Pre : Pt → Array Value → Prop} {Post : Pt → Array Value → Option Value → Pt → Prop} {PostX : Pt → Array Value → Addr → Pt → Prop} (hK : vx_Back l R p e below s args y 3 W9 Pre Post PostX)
    {g : JFrame} (hg : g.method = m) (hsize : g.locals.size = c.maxLocals) {argsL rest : List Value} (hlen : ∀ sig, parseMethodDescriptor y.desc = some sig → argsL.length = sig.parameters.length)
    (hstack : g.stack = argsL.reverse ++ rest) (hW : 2 * g.monitorRoom + (rest.map fun v => v.category).sum ≤ W9) (hdg : decode c.code g.pc = .ok (.invokestatic index, 3))
    (hpre : ∀ vm₁, s.WarmedH vm₁ → Pre ⟨T.setVm vm₁, locs, cells, slots⟩ argsL.toArray) :
    (∃ (v : Option Value) (vm₁ : Vm) (B : Pt), s.WarmedH vm₁ ∧ Stand p l e R s m args below meth c B.U B.locs B.cells B.slots ∧ Post ⟨T.setVm vm₁, locs, cells, slots⟩ argsL.toArray v B ∧
      ∀ target, Steps p.tables e below (B.U.setTop { g with pc := g.pc + 3, stack := v.toList ++ rest }) target → Steps p.tables e below (T.setTop g) target) ∨
    (∃ (q : Addr) (vm₁ : Vm) (B : Pt), s.WarmedH vm₁ ∧ Stand p l e R s m args below meth c B.U B.locs B.cells B.slots ∧ PostX ⟨T.setVm vm₁, locs, cells, slots⟩ argsL.toArray q B ∧
      Steps p.tables e below (T.setTop g) ((B.U.setTop { g with stack := rest }).pushFrame (.throwing q))) := by
  obtain ⟨mk, hnamed⟩ := Cond.code_named hcode
  obtain ⟨methM, cM, hmethM, -, -, -, -, -, -, hsigM⟩ := Cond.code_spec hnamed hcode
  have hstatic : methM.isStatic = true := Cond.static_spec hnamed hmethM hstat
  obtain ⟨kP, hkP, -⟩ := className_of_methodNamed hnamed
  have hinitP : kP.init = .initialized := Cond.initialized_spec (findClass_of_methodNamed hnamed) hkP hinit
  obtain ⟨vm₁, X₁, hstep₁⟩ := X.invokestatic hexec hown hlink hnamed hmethM hstatic hkP hinitP hy (g := g) hg (argsL := argsL) (rest := rest) (hlen _ hsigM) hstack hdg
  rcases hK m meth c ⟨T.setVm vm₁, locs, cells, slots⟩ { g with stack := rest } (.invokestatic index) mk argsL.toArray X₁ hg hsize hdg hW (X₁.named hnamed) (hpre vm₁ X₁.warmed) with ⟨v, B, X', hpost, hsteps⟩ | ⟨q, B, X', hpost, hsteps⟩
  · exact Or.inl ⟨v, vm₁, B, X₁.warmed, X', hpost, fun target h => hstep₁ _ fun acts => by rw [doInvoke_state]; exact hsteps.trans h⟩
  · exact Or.inr ⟨q, vm₁, B, X₁.warmed, X', hpost, hstep₁ _ fun acts => by rw [doInvoke_state]; exact hsteps⟩
end Calls
theorem vx_cls {s : State} {T : State} {vm₁ : Vm} {E : String} {k : ClassId} (hW : s.WarmedH vm₁) (h : (T.setVm vm₁).vm.findClass E = some k) : s.vm.findClass E = some k := by
  have h1 : vm₁.findClass E = some k := h
  rw [hW.alike.findClass] at h1
  exact h1
/-- the method's frame g, with q thrown over it -/
def vx_W (p : Program) (l : Launch) (e : Env) (R : Room) (s : State) (m : MethodId) (args : Array Value) (below : List Frame) (meth : Method) (c : Code) (H : Heap) (locs : List Loc) (cells slots : Nat) (Q : State → Prop) (g : JFrame) (q : Addr) : Prop :=
  ∀ T : State, T.heap = H → Stand p l e R s m args below meth c T locs cells slots → ∃ t, Steps p.tables e below ((T.setTop g).pushFrame (.throwing q)) t ∧ Q t
def vx_Run (p : Program) (l : Launch) (e : Env) (R : Room) (s : State) (m : MethodId) (args : Array Value) (below : List Frame) (meth : Method) (c : Code) (H : Heap) (locs : List Loc) (cells slots mc ms : Nat) (g : JFrame) (rest : List Value) (Qa : State → Outcome → State → Prop) (XC : String → State → State → Prop) (free : Addr → Prop) : Prop :=
  ∀ T : State, T.heap = H → Stand p l e R s m args below meth c T locs cells slots →
    (∃ (v : Option Value) (st₀ t T' : State) (L : List Loc), st₀.heap = H ∧ Stand p l e R s m args below meth c T' (locs ++ L) (cells + mc) (slots + ms) ∧ (∀ q ∈ L, free q.base) ∧ T'.heap = t.heap ∧ T'.vm = t.vm ∧ Qa st₀ (.returned v) t ∧
      Goes p e below T g T' { g with pc := g.pc + 3, stack := v.toList ++ rest }) ∨
    (∃ (q : Addr) (st₀ t T' : State) (L : List Loc) (E : String) (ce : Cell), st₀.heap = H ∧ Stand p l e R s m args below meth c T' (locs ++ L) (cells + mc) (slots + ms) ∧ (∀ z ∈ L, free z.base) ∧ T'.heap = t.heap ∧ T'.vm = t.vm ∧ XC E st₀ t ∧ t.heap[q]? = some ce ∧ ce.vm = .none ∧ s.vm.findClass E = some ce.cls ∧
      Steps p.tables e below (T.setTop g) ((T'.setTop { g with stack := rest }).pushFrame (.throwing q)))
def vx_X {S : Type} (px : S → Prop) (B : String → S → State → Prop) (A : Nat → Prop) : String → State → State → Prop := fun E st t => ∃ u : S, px u ∧ B E u t ∧ va_F A st t
section Runs
variable {p : Program} {l : Launch} {e : Env} {R : Room} {s : State} {m : MethodId} {args : Array Value} {below : List Frame} {meth : Method} {c : Code} {H : Heap} {locs : List Loc} {cells slots : Nat}
variable {y : MethodName} {bytes cc : ByteArray} {maxL nL mc ms n index : Nat} {ret : Option FieldType} {ws : List Cond} {rm : Room} {Pc : Array Value → State → Prop} {Qc : Array Value → State → Outcome → State → Prop} {XC : String → State → State → Prop} {free : Addr → Prop} {Ts : List Cond} {own C : String} {b : Addr} {As rest : List Value} {g : JFrame}
theorem vx_callBack (cb : CallB R s args own index y bytes maxL ret ws rm mc ms n) (hM : vx_Met l y ws rm Pc Qc XC mc ms free) (hbl : FrameBlind Pc) : vx_Back l R p e below s args y 3 8 (PreOf R mc ms Pc) (PostOf Qc mc ms free) (vx_Post XC mc ms free) := by
  obtain ⟨hrc, hrs, hfr, hlo, hws, hcw, -, hini, -⟩ := cb
  exact vx_back (bytes := bytes) (maxL := maxL) (ret := ret) hM hbl hrc hrs hfr hlo hws hcw (fun a' U hW => word_at hW (Or.inl (by first | rfl | simp [Cond.onTables, Cond.keeps, Cond.steady])) hini)
theorem vx_runV (S : CallFix p m c cc nL s args Ts own) (hM : vx_Met l y ws rm Pc Qc XC mc ms free) (cw : CallW R s args own C index y bytes maxL ret ws rm mc ms n) (hp : PreV s H C b Pc As)
    (hg : g.method = m) (hn : As.length = n) (hsize : g.locals.size = nL) (hstack : g.stack = As.reverse ++ .ref b :: rest) (hW : 2 * g.monitorRoom + (rest.map fun v => v.category).sum ≤ 8) (hdg : decode cc g.pc = .ok (.invokevirtual index, 3)) (hf : cells + mc ≤ R.cells ∧ slots + ms ≤ R.slots) :
    vx_Run p l e R s m args below meth c H locs cells slots mc ms g rest (Qc (Value.ref b :: As).toArray) XC free := by
  have hK : vx_Back l R p e below s args y 3 8 (PreOf R mc ms Pc) (PostOf Qc mc ms free) (vx_Post XC mc ms free) := vx_callBack cw.1 hM hp.1
  obtain ⟨⟨-, -, -, -, -, -, hcode, -, hy, hlen, hl⟩, hin, hse⟩ := cw
  obtain ⟨hx, hb, hml, ho, -⟩ := S
  obtain ⟨-, ⟨cellB, hcB, hoB, hclB⟩, hPc⟩ := hp
  intro T hT X
  rcases vx_callV X hx (C := C) (bytes := bytes) (maxL := maxL) (ret := ret) ho hl hin hse hcode hy hK (by rw [hT]; exact hcB) hoB hclB hg (hsize.trans hml.symm) (argsL := As) (rest := rest) (fun sig h => hn.trans (hlen sig h)) hstack hW (by rw [hb]; exact hdg)
    (fun vm₁ hW₁ => ⟨hf.1, hf.2, hPc (T.setVm vm₁) hT hW₁⟩) with ⟨v, vm₁, ⟨U', l2, c2, s2⟩, hW₁, X', ⟨g', mk, t, L, e1, e2, hq, h1, hL, h2, h3⟩, st⟩ | ⟨q, vm₁, ⟨U', l2, c2, s2⟩, hW₁, X', ⟨g', mk, t, L, E, ce, e1, e2, hq, hce, hcv, hcl, h1, hL, h2, h3⟩, st⟩
  · dsimp only [Pt.U, Pt.locs, Pt.cells, Pt.slots] at X' e1 e2 h1 h2 h3 st
    subst h1; subst h2; subst h3
    exact Or.inl ⟨v, (T.setVm vm₁).calling g' mk (Value.ref b :: As).toArray, t, U', L, hT, X', hL, e1, e2, hq, st⟩
  · dsimp only [Pt.U, Pt.locs, Pt.cells, Pt.slots] at X' e1 e2 h1 h2 h3 st hcl
    subst h1; subst h2; subst h3
    exact Or.inr ⟨q, (T.setVm vm₁).calling g' mk (Value.ref b :: As).toArray, t, U', L, E, ce, hT, X', hL, e1, e2, hq, hce, hcv, vx_cls hW₁ hcl, st⟩
theorem vx_runS (S : CallFix p m c cc nL s args Ts own) (hM : vx_Met l y ws rm Pc Qc XC mc ms free) (cw : CallB R s args own index y bytes maxL ret ws rm mc ms n ∧ (Cond.static y).before args s = true) (hp : PreS s H Pc As)
    (hg : g.method = m) (hn : As.length = n) (hsize : g.locals.size = nL) (hstack : g.stack = As.reverse ++ rest) (hW : 2 * g.monitorRoom + (rest.map fun v => v.category).sum ≤ 8) (hdg : decode cc g.pc = .ok (.invokestatic index, 3)) (hf : cells + mc ≤ R.cells ∧ slots + ms ≤ R.slots) :
    vx_Run p l e R s m args below meth c H locs cells slots mc ms g rest (Qc As.toArray) XC free := by
  have hK : vx_Back l R p e below s args y 3 8 (PreOf R mc ms Pc) (PostOf Qc mc ms free) (vx_Post XC mc ms free) := vx_callBack cw.1 hM hp.1
  obtain ⟨⟨-, -, -, -, -, -, hcode, hini, hy, hlen, hl⟩, hstt⟩ := cw
  obtain ⟨hx, hb, hml, ho, -⟩ := S
  intro T hT X
  rcases vx_callS X hx (bytes := bytes) (maxL := maxL) (ret := ret) ho hl hstt hini hcode hy hK hg (hsize.trans hml.symm) (argsL := As) (rest := rest) (fun sig h => hn.trans (hlen sig h)) hstack hW (by rw [hb]; exact hdg)
    (fun vm₁ hW₁ => ⟨hf.1, hf.2, hp.2 (T.setVm vm₁) hT hW₁⟩) with ⟨v, vm₁, ⟨U', l2, c2, s2⟩, hW₁, X', ⟨g', mk, t, L, e1, e2, hq, h1, hL, h2, h3⟩, st⟩ | ⟨q, vm₁, ⟨U', l2, c2, s2⟩, hW₁, X', ⟨g', mk, t, L, E, ce, e1, e2, hq, hce, hcv, hcl, h1, hL, h2, h3⟩, st⟩
  · dsimp only [Pt.U, Pt.locs, Pt.cells, Pt.slots] at X' e1 e2 h1 h2 h3 st
    subst h1; subst h2; subst h3
    exact Or.inl ⟨v, (T.setVm vm₁).calling g' mk As.toArray, t, U', L, hT, X', hL, e1, e2, hq, st⟩
  · dsimp only [Pt.U, Pt.locs, Pt.cells, Pt.slots] at X' e1 e2 h1 h2 h3 st hcl
    subst h1; subst h2; subst h3
    exact Or.inr ⟨q, (T.setVm vm₁).calling g' mk As.toArray, t, U', L, E, ce, hT, X', hL, e1, e2, hq, hce, hcv, vx_cls hW₁ hcl, st⟩
end Runs
section Rows
variable {p : Program} {l : Launch} {e : Env} {R : Room} {s : State} {m : MethodId} {args : Array Value} {below : List Frame} {meth : Method} {c : Code} {H : Heap} {locs : List Loc} {cells slots : Nat} {Q : State → Prop}
variable {mc ms : Nat} {free : Addr → Prop} {A0 A1 : Nat → Prop} {H0 : Heap} {a : Array Value} {pc : Nat} {ls : Array Slot} {st0 rest : List Value}
theorem vx_keep {st₀ t T' : State} {L : List Loc} (h0 : st₀.heap = H) (e1 : T'.heap = t.heap) (hS : va_S A0 H0 H locs) (hA : ∀ q, q < H.size → A1 q → A0 q) (hf : ∀ q, free q → A0 q) (hL : ∀ q ∈ L, free q.base) (hF : va_F A1 st₀ t) :
    H.size ≤ T'.heap.size ∧ (∀ q : Nat, q < H.size → ¬ A1 q → T'.heap[q]? = H[q]?) ∧ va_S A0 H0 T'.heap (locs ++ L) := by
  obtain ⟨hz, hk⟩ := hF
  rw [h0] at hz hk
  exact ⟨by rw [e1]; exact hz, fun q h1 h2 => by rw [e1]; exact hk q h1 h2,
    ⟨Nat.le_trans hS.1 (by rw [e1]; exact hz), fun q h1 h2 => by rw [e1, hk q (Nat.lt_of_lt_of_le h1 hS.1) (fun z => h2 (hA q (Nat.lt_of_lt_of_le h1 hS.1) z))]; exact hS.2.1 q h1 h2, fun q hq => by
      rcases List.mem_append.mp hq with h | h
      · exact hS.2.2 q h
      · exact hf _ (hL q h)⟩⟩
theorem vx_calli {S SX : Type} {post : Int32 → S → Prop} {px : SX → Prop} {B : S → State → Prop} {BX : String → SX → State → Prop} {AX : Nat → Prop} (hr : vx_Run p l e R s m args below meth c H locs cells slots mc ms (F0 m pc ls st0) rest (va_Qi post B A1 a) (vx_X px BX AX) free) (hS : va_S A0 H0 H locs) (hA : ∀ q, q < H.size → A1 q → A0 q) (hf : ∀ q, free q → A0 q) (hAX : ∀ q, q < H.size → AX q → A0 q)
    (kx : ∀ (E : String) (ce : Cell) (q9 : Addr) (u : SX) (t : State) (H1 : Heap) (locs1 : List Loc), t.heap = H1 → s.vm.Alike t.vm → px u → BX E u t → H.size ≤ H1.size → (∀ q : Nat, q < H.size → ¬ AX q → H1[q]? = H[q]?) → va_S A0 H0 H1 locs1 → H1[q9]? = some ce → ce.vm = .none → s.vm.findClass E = some ce.cls → vx_W p l e R s m args below meth c H1 locs1 (cells + mc) (slots + ms) Q (F0 m pc ls rest) q9)
    (kk : ∀ (r : Int32) (u : S) (t : State) (H1 : Heap) (locs1 : List Loc), t.heap = H1 → s.vm.Alike t.vm → post r u → B u t → H.size ≤ H1.size → (∀ q : Nat, q < H.size → ¬ A1 q → H1[q]? = H[q]?) → va_S A0 H0 H1 locs1 → W p l e R s m args below meth c H1 locs1 (cells + mc) (slots + ms) Q (F0 m (pc + 3) ls (.int r :: rest))) : W p l e R s m args below meth c H locs cells slots Q (F0 m pc ls st0) := by
  intro T hT X
  rcases hr T hT X with ⟨v, st₀, t, T', L, h0, X', hL, e1, e2, ⟨⟨r, u, hv, hp, hb⟩, hF⟩, st⟩ | ⟨q, st₀, t, T', L, E, ce, h0, X', hL, e1, e2, ⟨u, hp, hb, hF⟩, hce, hcv, hcl, st⟩
  · cases hv
    obtain ⟨k1, k2, k3⟩ := vx_keep h0 e1 hS hA hf hL hF
    obtain ⟨t2, a1, b1⟩ := kk r u t T'.heap (locs ++ L) e1.symm (by rw [← e2]; exact X'.warmed.alike) hp hb k1 k2 k3 T' rfl X'
    exact ⟨t2, st t2 a1, b1⟩
  · obtain ⟨k1, k2, k3⟩ := vx_keep h0 e1 hS hAX hf hL hF
    obtain ⟨t2, a1, b1⟩ := kx E ce q u t T'.heap (locs ++ L) e1.symm (by rw [← e2]; exact X'.warmed.alike) hp hb k1 k2 k3 (by rw [e1]; exact hce) hcv hcl T' rfl X'
    exact ⟨t2, st.trans a1, b1⟩
theorem vx_calll {S SX : Type} {post : Int64 → S → Prop} {px : SX → Prop} {B : S → State → Prop} {BX : String → SX → State → Prop} {AX : Nat → Prop} (hr : vx_Run p l e R s m args below meth c H locs cells slots mc ms (F0 m pc ls st0) rest (va_Ql post B A1 a) (vx_X px BX AX) free) (hS : va_S A0 H0 H locs) (hA : ∀ q, q < H.size → A1 q → A0 q) (hf : ∀ q, free q → A0 q) (hAX : ∀ q, q < H.size → AX q → A0 q)
    (kx : ∀ (E : String) (ce : Cell) (q9 : Addr) (u : SX) (t : State) (H1 : Heap) (locs1 : List Loc), t.heap = H1 → s.vm.Alike t.vm → px u → BX E u t → H.size ≤ H1.size → (∀ q : Nat, q < H.size → ¬ AX q → H1[q]? = H[q]?) → va_S A0 H0 H1 locs1 → H1[q9]? = some ce → ce.vm = .none → s.vm.findClass E = some ce.cls → vx_W p l e R s m args below meth c H1 locs1 (cells + mc) (slots + ms) Q (F0 m pc ls rest) q9)
    (kk : ∀ (r : Int64) (u : S) (t : State) (H1 : Heap) (locs1 : List Loc), t.heap = H1 → s.vm.Alike t.vm → post r u → B u t → H.size ≤ H1.size → (∀ q : Nat, q < H.size → ¬ A1 q → H1[q]? = H[q]?) → va_S A0 H0 H1 locs1 → W p l e R s m args below meth c H1 locs1 (cells + mc) (slots + ms) Q (F0 m (pc + 3) ls (.long r :: rest))) : W p l e R s m args below meth c H locs cells slots Q (F0 m pc ls st0) := by
  intro T hT X
  rcases hr T hT X with ⟨v, st₀, t, T', L, h0, X', hL, e1, e2, ⟨⟨r, u, hv, hp, hb⟩, hF⟩, st⟩ | ⟨q, st₀, t, T', L, E, ce, h0, X', hL, e1, e2, ⟨u, hp, hb, hF⟩, hce, hcv, hcl, st⟩
  · cases hv
    obtain ⟨k1, k2, k3⟩ := vx_keep h0 e1 hS hA hf hL hF
    obtain ⟨t2, a1, b1⟩ := kk r u t T'.heap (locs ++ L) e1.symm (by rw [← e2]; exact X'.warmed.alike) hp hb k1 k2 k3 T' rfl X'
    exact ⟨t2, st t2 a1, b1⟩
  · obtain ⟨k1, k2, k3⟩ := vx_keep h0 e1 hS hAX hf hL hF
    obtain ⟨t2, a1, b1⟩ := kx E ce q u t T'.heap (locs ++ L) e1.symm (by rw [← e2]; exact X'.warmed.alike) hp hb k1 k2 k3 (by rw [e1]; exact hce) hcv hcl T' rfl X'
    exact ⟨t2, st.trans a1, b1⟩
theorem vx_callf {S SX : Type} {post : UInt32 → S → Prop} {px : SX → Prop} {B : S → State → Prop} {BX : String → SX → State → Prop} {AX : Nat → Prop} (hr : vx_Run p l e R s m args below meth c H locs cells slots mc ms (F0 m pc ls st0) rest (va_Qf post B A1 a) (vx_X px BX AX) free) (hS : va_S A0 H0 H locs) (hA : ∀ q, q < H.size → A1 q → A0 q) (hf : ∀ q, free q → A0 q) (hAX : ∀ q, q < H.size → AX q → A0 q)
    (kx : ∀ (E : String) (ce : Cell) (q9 : Addr) (u : SX) (t : State) (H1 : Heap) (locs1 : List Loc), t.heap = H1 → s.vm.Alike t.vm → px u → BX E u t → H.size ≤ H1.size → (∀ q : Nat, q < H.size → ¬ AX q → H1[q]? = H[q]?) → va_S A0 H0 H1 locs1 → H1[q9]? = some ce → ce.vm = .none → s.vm.findClass E = some ce.cls → vx_W p l e R s m args below meth c H1 locs1 (cells + mc) (slots + ms) Q (F0 m pc ls rest) q9)
    (kk : ∀ (r : UInt32) (u : S) (t : State) (H1 : Heap) (locs1 : List Loc), t.heap = H1 → s.vm.Alike t.vm → post r u → B u t → H.size ≤ H1.size → (∀ q : Nat, q < H.size → ¬ A1 q → H1[q]? = H[q]?) → va_S A0 H0 H1 locs1 → W p l e R s m args below meth c H1 locs1 (cells + mc) (slots + ms) Q (F0 m (pc + 3) ls (.float r :: rest))) : W p l e R s m args below meth c H locs cells slots Q (F0 m pc ls st0) := by
  intro T hT X
  rcases hr T hT X with ⟨v, st₀, t, T', L, h0, X', hL, e1, e2, ⟨⟨r, u, hv, hp, hb⟩, hF⟩, st⟩ | ⟨q, st₀, t, T', L, E, ce, h0, X', hL, e1, e2, ⟨u, hp, hb, hF⟩, hce, hcv, hcl, st⟩
  · cases hv
    obtain ⟨k1, k2, k3⟩ := vx_keep h0 e1 hS hA hf hL hF
    obtain ⟨t2, a1, b1⟩ := kk r u t T'.heap (locs ++ L) e1.symm (by rw [← e2]; exact X'.warmed.alike) hp hb k1 k2 k3 T' rfl X'
    exact ⟨t2, st t2 a1, b1⟩
  · obtain ⟨k1, k2, k3⟩ := vx_keep h0 e1 hS hAX hf hL hF
    obtain ⟨t2, a1, b1⟩ := kx E ce q u t T'.heap (locs ++ L) e1.symm (by rw [← e2]; exact X'.warmed.alike) hp hb k1 k2 k3 (by rw [e1]; exact hce) hcv hcl T' rfl X'
    exact ⟨t2, st.trans a1, b1⟩
theorem vx_calld {S SX : Type} {post : UInt64 → S → Prop} {px : SX → Prop} {B : S → State → Prop} {BX : String → SX → State → Prop} {AX : Nat → Prop} (hr : vx_Run p l e R s m args below meth c H locs cells slots mc ms (F0 m pc ls st0) rest (va_Qd post B A1 a) (vx_X px BX AX) free) (hS : va_S A0 H0 H locs) (hA : ∀ q, q < H.size → A1 q → A0 q) (hf : ∀ q, free q → A0 q) (hAX : ∀ q, q < H.size → AX q → A0 q)
    (kx : ∀ (E : String) (ce : Cell) (q9 : Addr) (u : SX) (t : State) (H1 : Heap) (locs1 : List Loc), t.heap = H1 → s.vm.Alike t.vm → px u → BX E u t → H.size ≤ H1.size → (∀ q : Nat, q < H.size → ¬ AX q → H1[q]? = H[q]?) → va_S A0 H0 H1 locs1 → H1[q9]? = some ce → ce.vm = .none → s.vm.findClass E = some ce.cls → vx_W p l e R s m args below meth c H1 locs1 (cells + mc) (slots + ms) Q (F0 m pc ls rest) q9)
    (kk : ∀ (r : UInt64) (u : S) (t : State) (H1 : Heap) (locs1 : List Loc), t.heap = H1 → s.vm.Alike t.vm → post r u → B u t → H.size ≤ H1.size → (∀ q : Nat, q < H.size → ¬ A1 q → H1[q]? = H[q]?) → va_S A0 H0 H1 locs1 → W p l e R s m args below meth c H1 locs1 (cells + mc) (slots + ms) Q (F0 m (pc + 3) ls (.double r :: rest))) : W p l e R s m args below meth c H locs cells slots Q (F0 m pc ls st0) := by
  intro T hT X
  rcases hr T hT X with ⟨v, st₀, t, T', L, h0, X', hL, e1, e2, ⟨⟨r, u, hv, hp, hb⟩, hF⟩, st⟩ | ⟨q, st₀, t, T', L, E, ce, h0, X', hL, e1, e2, ⟨u, hp, hb, hF⟩, hce, hcv, hcl, st⟩
  · cases hv
    obtain ⟨k1, k2, k3⟩ := vx_keep h0 e1 hS hA hf hL hF
    obtain ⟨t2, a1, b1⟩ := kk r u t T'.heap (locs ++ L) e1.symm (by rw [← e2]; exact X'.warmed.alike) hp hb k1 k2 k3 T' rfl X'
    exact ⟨t2, st t2 a1, b1⟩
  · obtain ⟨k1, k2, k3⟩ := vx_keep h0 e1 hS hAX hf hL hF
    obtain ⟨t2, a1, b1⟩ := kx E ce q u t T'.heap (locs ++ L) e1.symm (by rw [← e2]; exact X'.warmed.alike) hp hb k1 k2 k3 (by rw [e1]; exact hce) hcv hcl T' rfl X'
    exact ⟨t2, st.trans a1, b1⟩
theorem vx_callv {S SX : Type} {post : S → Prop} {px : SX → Prop} {B : S → State → Prop} {BX : String → SX → State → Prop} {AX : Nat → Prop} (hr : vx_Run p l e R s m args below meth c H locs cells slots mc ms (F0 m pc ls st0) rest (va_Qv post B A1 a) (vx_X px BX AX) free) (hS : va_S A0 H0 H locs) (hA : ∀ q, q < H.size → A1 q → A0 q) (hf : ∀ q, free q → A0 q) (hAX : ∀ q, q < H.size → AX q → A0 q)
    (kx : ∀ (E : String) (ce : Cell) (q9 : Addr) (u : SX) (t : State) (H1 : Heap) (locs1 : List Loc), t.heap = H1 → s.vm.Alike t.vm → px u → BX E u t → H.size ≤ H1.size → (∀ q : Nat, q < H.size → ¬ AX q → H1[q]? = H[q]?) → va_S A0 H0 H1 locs1 → H1[q9]? = some ce → ce.vm = .none → s.vm.findClass E = some ce.cls → vx_W p l e R s m args below meth c H1 locs1 (cells + mc) (slots + ms) Q (F0 m pc ls rest) q9)
    (kk : ∀ (u : S) (t : State) (H1 : Heap) (locs1 : List Loc), t.heap = H1 → s.vm.Alike t.vm → post u → B u t → H.size ≤ H1.size → (∀ q : Nat, q < H.size → ¬ A1 q → H1[q]? = H[q]?) → va_S A0 H0 H1 locs1 → W p l e R s m args below meth c H1 locs1 (cells + mc) (slots + ms) Q (F0 m (pc + 3) ls (rest))) : W p l e R s m args below meth c H locs cells slots Q (F0 m pc ls st0) := by
  intro T hT X
  rcases hr T hT X with ⟨v, st₀, t, T', L, h0, X', hL, e1, e2, ⟨⟨u, hv, hp, hb⟩, hF⟩, st⟩ | ⟨q, st₀, t, T', L, E, ce, h0, X', hL, e1, e2, ⟨u, hp, hb, hF⟩, hce, hcv, hcl, st⟩
  · cases hv
    obtain ⟨k1, k2, k3⟩ := vx_keep h0 e1 hS hA hf hL hF
    obtain ⟨t2, a1, b1⟩ := kk u t T'.heap (locs ++ L) e1.symm (by rw [← e2]; exact X'.warmed.alike) hp hb k1 k2 k3 T' rfl X'
    exact ⟨t2, st t2 a1, b1⟩
  · obtain ⟨k1, k2, k3⟩ := vx_keep h0 e1 hS hAX hf hL hF
    obtain ⟨t2, a1, b1⟩ := kx E ce q u t T'.heap (locs ++ L) e1.symm (by rw [← e2]; exact X'.warmed.alike) hp hb k1 k2 k3 (by rw [e1]; exact hce) hcv hcl T' rfl X'
    exact ⟨t2, st.trans a1, b1⟩
/-- caught by the row x of this method's table; the rows ahead don't take it -/
theorem vx_catch {own name : String} {E : String} {ce : Cell} {q : Addr} (hown : s.vm.findClass own = some m.cls) (pre : List ExceptionTableEntry) (x : ExceptionTableEntry) (suf : List ExceptionTableEntry) (hsplit : c.exceptionTable.toList = pre ++ x :: suf)
    (hpass : ∀ z ∈ pre, covers z pc = false ∨ (z.catchType ≠ 0 ∧ ∃ nm : String, (Cond.classLink own z.catchType nm).before args s = true ∧ va_Nc E nm s)) (hx : covers x pc = true) (h0 : x.catchType ≠ 0)
    (hlink : (Cond.classLink own x.catchType name).before args s = true) (hcast : (Cond.castable E name).before args s = true) (hcell : H[q]? = some ce) (hv : ce.vm = .none) (hcl : s.vm.findClass E = some ce.cls)
    (kk : W p l e R s m args below meth c H locs cells slots Q (F0 m x.handlerPc ls [.ref q])) : vx_W p l e R s m args below meth c H locs cells slots Q (F0 m pc ls rest) q := by
  intro T hT X
  have hpl : e.platform.magicAccessors = ({} : Platform).magicAccessors := by rw [X.admits.platform]
  obtain ⟨c3, c4, hc3, hc4, hasg⟩ := Cond.castable_spec hcast
  cases Option.some.inj (hc3.symm.trans hcl)
  obtain ⟨c5, hc5, hcl5⟩ := Cond.classLink_spec hown hlink e.platform hpl
  cases Option.some.inj (hc4.symm.trans hc5)
  obtain ⟨vm', X', st⟩ := X.thenCaughtThrough q (g := F0 m pc ls rest) rfl (Steps.refl _) (by rw [hT]; exact hcell) (by rw [hv]; rfl) (by obtain ⟨k9, h9, -⟩ := Vm.findClass_spec hcl; exact ⟨k9, h9⟩) pre x suf hsplit
    (fun z hz => by
      rcases hpass z hz with h | ⟨hz0, nm, hl1, hn1⟩
      · exact Or.inl h
      · obtain ⟨c6, hc6, hcl6⟩ := Cond.classLink_spec hown hl1 e.platform hpl
        obtain ⟨a8, b8, h1, h2, h3⟩ := hn1
        cases Option.some.inj (h1.symm.trans hcl)
        cases Option.some.inj (h2.symm.trans hc6)
        exact Or.inr ⟨hz0, _, hcl6, h3⟩) hx (Or.inr ⟨h0, c4, hcl5, hasg⟩)
  obtain ⟨t, a1, b1⟩ := kk (T.setVm vm') hT X'
  exact ⟨t, st.trans a1, b1⟩
end Rows
section Ends
variable {p : Program} {l : Launch} {e : Env} {R : Room} {s : State} {m : MethodId} {args : Array Value} {below : List Frame} {meth : Method} {c : Code} {H : Heap} {locs : List Loc} {cells slots : Nat} {Q : State → Prop}
variable {mc ms : Nat} {free : Addr → Prop} {A0 A1 : Nat → Prop} {H0 : Heap} {a : Array Value} {ls : Array Slot} {st0 rest : List Value}
variable {Qc : Array Value → State → Outcome → State → Prop} {XC : String → State → State → Prop}
/-- what a body that may throw owes at its end -/
def vx_MQ (below : List Frame) (Qc : Array Value → State → Outcome → State → Prop) (XC : String → State → State → Prop) (a : Array Value) (s : State) (mc ms : Nat) (free : Addr → Prop) : State → Prop := fun t =>
  ∃ o, t.status = .running ∧ Ended t below o ∧ vx_Q Qc XC mc ms free a s o t
theorem vx_ret {g : JFrame} {mc ms : Nat} (k : W p l e R s m args below meth c H locs cells slots (MQ below Qc args s mc ms free) g) : W p l e R s m args below meth c H locs cells slots (vx_MQ below Qc XC args s mc ms free) g := by
  intro T hT X
  obtain ⟨t, a1, o, b1, b2, b3, b4⟩ := k T hT X
  exact ⟨t, a1, o, b1, b2, Or.inl ⟨b3, b4⟩⟩
/-- not caught here: it goes on to the caller -/
theorem vx_widen {g : JFrame} {q : Addr} {k n : Nat} (h1 : cells ≤ k) (h2 : slots ≤ n) (kk : vx_W p l e R s m args below meth c H locs k n Q g q) : vx_W p l e R s m args below meth c H locs cells slots Q g q := fun T hT X => kk T hT (stand_widen X h1 h2)
theorem vx_out {pc : Nat} {E : String} {ce : Cell} {q : Addr} {mc ms : Nat} (hout : ∀ x ∈ c.exceptionTable.toList, covers x pc = false) (hlocks : meth.locks = false) (hcell : H[q]? = some ce) (hv : ce.vm = .none) (hcl : s.vm.findClass E = some ce.cls)
    (hx : ∀ t : State, t.heap = H → s.vm.Alike t.vm → XC E s t) (hf : ∀ z ∈ locs, free z.base) (hc : cells ≤ mc) (hs : slots ≤ ms) :
    vx_W p l e R s m args below meth c H locs cells slots (vx_MQ below Qc XC args s mc ms free) (F0 m pc ls rest) q := by
  intro T hT X
  obtain ⟨st1, hrun, hend, hW, hsm⟩ := X.leaveThrown q (g := F0 m pc ls rest) rfl rfl rfl hout hlocks
  have hcell9 : (T.setFrames (.throwing q :: below)).heap[q]? = some ce := by
    show T.heap[q]? = some ce
    rw [hT]; exact hcell
  exact ⟨_, st1, .threw q, hrun, hend, Or.inr ⟨q, rfl, E, ce, locs, hx _ hT hW.alike, hcell9, hv, hcl, hW, hsm.mono hc hs, hf⟩⟩
theorem vx_frame {U : State} {k n : Nat} (h : s.sameButNew ({ U with vm := s.vm } : State) locs k n) : s.heap.size ≤ U.heap.size ∧ ∀ q : Nat, q < s.heap.size → (∀ z ∈ locs, z.base ≠ q) → U.heap[q]? = s.heap[q]? := by
  obtain ⟨-, h2, -, -, -, h6⟩ := h
  refine ⟨h2, fun q hq hz => ?_⟩
  obtain ⟨c9, e1, e2, e3, e4⟩ := h6 q _ (Array.getElem?_eq_getElem hq)
  have hs : c9.slots = (s.heap[q]).slots := Array.ext_getElem? fun i => e4 i fun hm => hz _ hm rfl
  have h9 : c9 = s.heap[q] := by
    rw [hs] at e2
    exact e2
  have e5 : U.heap[q]? = some c9 := e1
  rw [e5, h9, Array.getElem?_eq_getElem hq]
/-- the words of a throw but the four that speak of the heap -/
def vx_no (w : Cond) : Bool := decide (w ≠ .isRef (.static Bundle.tN "UNASSIGNED_STACK" Bundle.steD)) && decide (w ≠ .isRef (.static Bundle.tN "SUPPRESSED_SENTINEL" Bundle.listD)) && decide (w ≠ .laysStatic Bundle.tN "UNASSIGNED_STACK" Bundle.steD) && decide (w ≠ .laysStatic Bundle.tN "SUPPRESSED_SENTINEL" Bundle.listD)
def vx_at0 (own : String) (ic : Nat) (X : String) (names : List String) : List Cond := (Bundle.ownAtoms0 own ic X names).filter vx_no
def vx_atS (own : String) (ic : Nat) (X : String) (names : List String) : List Cond := (Bundle.ownAtoms own ic X names).filter vx_no
/-- a word that the tables alone decide, or a good one -/
def vx_ot (w : Cond) : Bool := w.onTables || goodWord w
theorem vx_ot_at {args a' : Array Value} {s U : State} {w : Cond} (hW : s.WarmedH U.vm) (hvm : s.vm = U.vm) (hg : vx_ot w = true) (h : w.before args s = true) : w.before a' U = true := by
  simp only [vx_ot, Bool.or_eq_true] at hg
  rcases hg with hg | hg
  · exact va_tabs hg hvm h
  · exact word_at hW (good_of_word hg) h
/-- a list's words: the good ones out of the method's own list, the others by premises of their own -/
theorem vx_hat {args : Array Value} {s : State} {L B : List Cond} (h1 : ∀ w ∈ L.filter goodWord, w.before args s = true) (h2 : ∀ w ∈ L.filter (fun w => !goodWord w), w ∈ B) (h3 : ∀ w ∈ B, w.before args s = true) : ∀ w ∈ L, w.before args s = true := by
  intro w hw
  by_cases g : goodWord w = true
  · exact h1 w (List.mem_filter.mpr ⟨hw, g⟩)
  · refine h3 w (h2 w (List.mem_filter.mpr ⟨hw, ?_⟩))
    show (!goodWord w) = true
    cases hgw : goodWord w
    · rfl
    · exact absurd hgw g
theorem vx_c {args : Array Value} {s : State} {w : Cond} {B : List Cond} (h : w.before args s = true) (t : ∀ w ∈ B, w.before args s = true) : ∀ w' ∈ w :: B, w'.before args s = true := fun w' h' => (List.mem_cons.mp h').elim (fun e => by rw [e]; exact h) (t w')
theorem vx_n {args : Array Value} {s : State} : ∀ w ∈ ([] : List Cond), w.before args s = true := fun _ h => nomatch h
theorem vx_own {args : Array Value} {s : State} {L : List Cond} (h1 : ∀ w ∈ L.filter vx_no, w.before args s = true)
    (hU : (Cond.isRef (.static Bundle.tN "UNASSIGNED_STACK" Bundle.steD)).before args s = true) (hN : (Cond.isRef (.static Bundle.tN "SUPPRESSED_SENTINEL" Bundle.listD)).before args s = true)
    (lU : (Cond.laysStatic Bundle.tN "UNASSIGNED_STACK" Bundle.steD).before args s = true) (lN : (Cond.laysStatic Bundle.tN "SUPPRESSED_SENTINEL" Bundle.listD).before args s = true) : ∀ w ∈ L, w.before args s = true := by
  intro w hw
  by_cases e1 : w = .isRef (.static Bundle.tN "UNASSIGNED_STACK" Bundle.steD)
  · rw [e1]; exact hU
  · by_cases e2 : w = .isRef (.static Bundle.tN "SUPPRESSED_SENTINEL" Bundle.listD)
    · rw [e2]; exact hN
    · by_cases e3 : w = .laysStatic Bundle.tN "UNASSIGNED_STACK" Bundle.steD
      · rw [e3]; exact lU
      · by_cases e4 : w = .laysStatic Bundle.tN "SUPPRESSED_SENTINEL" Bundle.listD
        · rw [e4]; exact lN
        · exact h1 w (List.mem_filter.mpr ⟨hw, by unfold vx_no; rw [decide_eq_true e1, decide_eq_true e2, decide_eq_true e3, decide_eq_true e4]; rfl⟩)
/-- where a static field lies, its class's statics cell in H -/
def vx_L (C n d : String) (A : Nat → Prop) (U : State) (H : Heap) : Prop := ∃ (c : ClassId) (k : Class) (i : Nat) (f : Field) (a : Nat) (cell : Cell), U.vm.findClass C = some c ∧ U.fieldFound? C n d = some (c, k, i, f) ∧ f.isStatic = true ∧ k.statics = some a ∧ H[a]? = some cell ∧ cell.vm.isStatics = true ∧ cell.cls = c ∧ f.slot < cell.slots.size ∧ k.staticTypes[f.slot]? = some f.type ∧ ¬ A a
theorem vx_L.moved {C n d : String} {A : Nat → Prop} {u U : State} {H : Heap} (hvm : u.vm.Alike U.vm) (h : vx_L C n d A u H) : vx_L C n d A U H := by
  obtain ⟨c, k, i, f, a, cell, h1, h2, h3, h4, h5, h6, h7, h8, h9, h10⟩ := h
  obtain ⟨k', hi', he⟩ := State.fieldFound?_setVm hvm h2
  exact ⟨c, k', i, f, a, cell, by rw [hvm.findClass]; exact h1, hi', h3, by rw [he]; exact h4, h5, h6, h7, h8, by rw [he]; exact h9, h10⟩
theorem vx_L.kept {C n d : String} {A : Nat → Prop} {U : State} {H H1 : Heap} (h : vx_L C n d A U H) (hq : ∀ a : Nat, a < H.size → ¬ A a → H1[a]? = H[a]?) : vx_L C n d A U H1 := by
  obtain ⟨c, k, i, f, a, cell, h1, h2, h3, h4, h5, h6, h7, h8, h9, h10⟩ := h
  exact ⟨c, k, i, f, a, cell, h1, h2, h3, h4, by rw [hq a (Array.getElem?_eq_some_iff.mp h5).1 h10]; exact h5, h6, h7, h8, h9, h10⟩
theorem vx_L.narrow {C n d : String} {A B : Nat → Prop} {U : State} {H : Heap} (h : vx_L C n d A U H) (hAB : ∀ q, B q → A q) : vx_L C n d B U H := by
  obtain ⟨c, k, i, f, a, cell, h1, h2, h3, h4, h5, h6, h7, h8, h9, h10⟩ := h
  exact ⟨c, k, i, f, a, cell, h1, h2, h3, h4, h5, h6, h7, h8, h9, fun z => h10 (hAB _ z)⟩
theorem vx_L.word {C n d : String} {A : Nat → Prop} {s : State} {args : Array Value} (h : vx_L C n d A s s.heap) : (Cond.laysStatic C n d).before args s = true := by
  obtain ⟨c, k, i, f, a, cell, h1, h2, h3, h4, h5, h6, h7, h8, h9, -⟩ := h
  show (Cond.laysStatic C n d).holds args s none s [] = true
  exact Cond.laysStatic_of h1 h2 h3 h4 h5 h6 h7 h8 h9
/-- .. and what it holds: null or some reference -/
def vx_Zq (C n d : String) (A : Nat → Prop) (U : State) (H : Heap) : Prop := va_Zq C n d A U H ∧ vx_L C n d A U H
theorem vx_Zq.moved {C n d : String} {A : Nat → Prop} {u U : State} {H : Heap} (hvm : u.vm.Alike U.vm) (h : vx_Zq C n d A u H) : vx_Zq C n d A U H := ⟨va_Zq.moved hvm h.1, vx_L.moved hvm h.2⟩
theorem vx_Zq.kept {C n d : String} {A : Nat → Prop} {U : State} {H H1 : Heap} (h : vx_Zq C n d A U H) (hq : ∀ a : Nat, a < H.size → ¬ A a → H1[a]? = H[a]?) : vx_Zq C n d A U H1 := ⟨va_Zq.kept h.1 hq, vx_L.kept h.2 hq⟩
theorem vx_Zq.narrow {C n d : String} {A B : Nat → Prop} {U : State} {H : Heap} (h : vx_Zq C n d A U H) (hAB : ∀ q, B q → A q) : vx_Zq C n d B U H := ⟨va_Zq.narrow h.1 hAB, vx_L.narrow h.2 hAB⟩
theorem vx_Zqof {args : Array Value} {s : State} {C n d : String} {A : Nat → Prop} (hl : (Cond.laysStatic C n d).before args s = true) (hini : (Cond.initialized C).before args s = true) (h : (Cond.isRef (.static C n d)).before args s = true) (hA : ∀ a : Nat, a < s.heap.size → ¬ A a) : vx_Zq C n d A s s.heap := by
  refine ⟨va_Zqof hl hini h hA, ?_⟩
  obtain ⟨c, k, i, f, a, cell, h1, h2, h3, h4, h5, h6, h7, h8, h9⟩ := Cond.laysStatic_spec hl
  exact ⟨c, k, i, f, a, cell, h1, h2, h3, h4, h5, h6, h7, h8, h9, hA a (Array.getElem?_eq_some_iff.mp h5).1⟩
theorem vx_isRef {C n d : String} {v : Value} {A : Nat → Prop} {s : State} {args : Array Value} (h : va_Z C n d v A s s.heap) (hv : v.isRef = true) : (Cond.isRef (.static C n d)).before args s = true := by
  obtain ⟨cf, kf, fi, f, a, cell, h1, h2, h3, h4, h5, h6, h7, -⟩ := h
  have he : (Term.static C n d).eval args s none [] s = some v := by
    simp [Term.eval, State.fieldNamed?, h1, h2, h4, h5, h6, h7]
  simp only [Cond.before, Cond.holds, Cond.value, he]
  cases v <;> simp_all [Value.isRef]
theorem vx_isRefq {C n d : String} {A : Nat → Prop} {s : State} {args : Array Value} (h : va_Zq C n d A s s.heap) : (Cond.isRef (.static C n d)).before args s = true := by
  rcases h with h | ⟨t, h⟩
  · exact vx_isRef h rfl
  · exact vx_isRef h rfl
/-- the same frame, seen from here: as if the method were called anew in this heap -/
theorem vx_rebase {T : State} (X : Stand p l e R s m args below meth c T locs cells slots) {R' : Room} (hf : R'.frames ≤ R.frames) (hl : R'.locals ≤ R.locals) (hc : cells + R'.cells ≤ R.cells) (hs : slots + R'.slots ≤ R.slots) :
    Stand p l e R' ((T.setVm s.vm).setFrames (.invoking m args :: below)) m args below meth c T [] 0 0 := by
  have htop : (T.setVm s.vm).topJava?.isSome := X.here.top
  have hF : ((T.setVm s.vm).setFrames (.invoking m args :: below)).frames = .invoking m args :: below := State.frames_setFrames _ (State.cur_lt_of_top htop)
  obtain ⟨g₀, hg0⟩ := Option.isSome_iff_exists.mp htop
  obtain ⟨r, hr⟩ := State.topJava?_eq_some.mp hg0
  have hl9 : e.platform.stackLimits (T.setVm s.vm).me = e.platform.stackLimits s.me := X.limits
  have hb9 : (T.setVm s.vm).me.stackBytes = s.me.stackBytes := X.bytes
  refine ⟨X.admits, X.cas, X.clock, hF, ?_, X.hears, X.method, X.code, X.here, X.tail, X.warmed, ?_, ?_, ?_⟩
  · have h := X.room
    have hU : ((T.setVm s.vm).setFrames (.invoking m args :: below)).localsInUse = s.localsInUse := by
      rw [State.localsInUse_invoking hF (meth := meth) (c := c) X.method X.code, State.localsInUse_invoking X.frames X.method X.code]
    simp only [State.hasRoom, Bool.and_eq_true, decide_eq_true_eq] at h ⊢
    obtain ⟨⟨⟨⟨h1, h2, h3, h4, h5, h6⟩, h7⟩, h8⟩, h9⟩ := h
    rw [X.frames, List.length_cons] at h2 h3
    have q1 := X.heapSize
    have q2 := X.used
    simp only [hF, hU, List.length_cons, State.stackLimits_setFrames, State.stackBytes_setFrames, hl9, hb9]
    refine ⟨⟨⟨⟨by omega, by omega, by omega, by omega, by omega, h6⟩, ?_⟩, ?_⟩, X.book⟩
    · show T.heap.size + R'.cells ≤ e.platform.maxCells
      omega
    · show T.slotsUsed + R'.slots ≤ e.platform.maxSlots
      omega
  · rw [State.stackLimits_setFrames]; rfl
  · rw [State.stackBytes_setFrames]; rfl
  · refine ⟨?_, Nat.le_refl _, Nat.le_refl _, ?_, ?_, fun a c9 h9 => ⟨c9, h9, rfl, rfl, fun _ _ => rfl⟩⟩
    · obtain ⟨t, ht, -⟩ := State.frames_cons hr
      show T.setVm s.vm = { ((T.setVm s.vm).setFrames (.invoking m args :: below)).setFrames (T.setVm s.vm).frames with heap := T.heap, slotsUsed := T.slotsUsed }
      rw [State.setFrames_setFrames, State.setFrames_self ht]
      rfl
    · show T.slotsUsed = T.slotsUsed + ((T.heap.toList.drop T.heap.size).map (·.slots.size)).sum
      rw [List.drop_eq_nil_of_le (Nat.le_of_eq Array.length_toList)]
      rfl
    · show ((T.heap.toList.drop T.heap.size).map (·.slots.size)).sum ≤ 0
      rw [List.drop_eq_nil_of_le (Nat.le_of_eq Array.length_toList)]
      exact Nat.le_refl _
/-- 'throw new E()': new; dup; invokespecial; athrow -/
theorem vx_throw0 {cc : ByteArray} {pc : Nat} (hexec : p.tables.exec = Jvm.exec) (hb : c.code = cc) (hl : l.stackTraces = false) {own cls : String} {names : List String} {ik ic mc ms : Nat} {A : Nat → Prop}
    (hown : s.vm.findClass own = some m.cls) (hcls : Bundle.fit cls = true) (hnames : ∀ n ∈ names, Bundle.fit n = true)
    (hk : (Cond.classLink own ik cls).before args s = true) (hini : (Cond.initialized cls).before args s = true) (hat : ∀ w ∈ vx_at0 own ic cls names, w.before args s = true)
    (hgood : ∀ w ∈ Cond.classLink own ik cls :: Cond.initialized cls :: vx_at0 own ic cls names, vx_ot w = true)
    (hU : vx_Zq Bundle.tN "UNASSIGNED_STACK" Bundle.steD A s s.heap) (hN : vx_Zq Bundle.tN "SUPPRESSED_SENTINEL" Bundle.listD A s s.heap) (hS : va_S A s.heap H locs) (hsize : ls.size = c.maxLocals)
    (d0 : decode cc pc = .ok (.new ik, 3)) (d3 : decode cc (pc + 3) = .ok (.dup, 1)) (d4 : decode cc (pc + 4) = .ok (.invokespecial ic, 3)) (d7 : decode cc (pc + 7) = .ok (.athrow, 1))
    (hout : ∀ x ∈ c.exceptionTable.toList, covers x (pc + 7) = false)
    (hRframes : names.length + 3 < R.frames) (hRlocals : (rest.map fun v => v.category).sum + (13 * (names.length + 1) + 42) ≤ R.locals) (hRcells : cells + 1 ≤ R.cells) (hRslots : slots + 6 ≤ R.slots) (hlocks : meth.locks = false)
    (hx : ∀ t : State, s.vm.Alike t.vm → H.size ≤ t.heap.size → (∀ q : Nat, q < H.size → t.heap[q]? = H[q]?) → XC cls s t)
    (hf : ∀ z ∈ locs, free z.base) (hc : cells + 1 ≤ mc) (hs : slots + 6 ≤ ms) :
    W p l e R s m args below meth c H locs cells slots (vx_MQ below Qc XC args s mc ms free) (F0 m pc ls rest) := by
  intro T hT X
  have htr : e.platform.stackTraces = false := (show e.platform.stackTraces = l.stackTraces by rw [X.admits.platform]).trans hl
  have Y := vx_rebase X (R' := { frames := R.frames, locals := R.locals, cells := 1, slots := 6 }) (Nat.le_refl _) (Nat.le_refl _) hRcells hRslots
  obtain ⟨s', hA⟩ : ∃ z, z = (T.setVm s.vm).setFrames (.invoking m args :: below) := ⟨_, rfl⟩
  rw [← hA] at Y
  have hvm : s'.vm = s.vm := by rw [hA]; rfl
  have hhp : s'.heap = H := by rw [hA]; exact hT
  have hW0 : s.WarmedH s'.vm := by rw [hvm]; exact State.WarmedH.refl s
  have hat' : ∀ w ∈ vx_at0 own ic cls names, w.before args s' = true := fun w hw => vx_ot_at hW0 hvm.symm (hgood w (List.mem_cons_of_mem _ (List.mem_cons_of_mem _ hw))) (hat w hw)
  have hk' : (Cond.classLink own ik cls).before args s' = true := vx_ot_at hW0 hvm.symm (hgood _ List.mem_cons_self) hk
  have hini' : (Cond.initialized cls).before args s' = true := vx_ot_at hW0 hvm.symm (hgood _ (List.mem_cons_of_mem _ List.mem_cons_self)) hini
  have hU' : vx_Zq Bundle.tN "UNASSIGNED_STACK" Bundle.steD A s' s'.heap := by rw [hhp]; exact vx_Zq.moved hW0.alike (hU.kept hS.2.1)
  have hN' : vx_Zq Bundle.tN "SUPPRESSED_SENTINEL" Bundle.listD A s' s'.heap := by rw [hhp]; exact vx_Zq.moved hW0.alike (hN.kept hS.2.1)
  have h : ∀ w ∈ Bundle.ownAtoms0 own ic cls names, w.before args s' = true := vx_own hat' (vx_isRefq hU'.1) (vx_isRefq hN'.1) hU'.2.word hN'.2.word
  have hown' : s'.vm.findClass own = some m.cls := by rw [hvm]; exact hown
  have hins : (Cond.instantiable cls 6).before args s' = true := h _ (by simp [Bundle.ownAtoms0])
  obtain ⟨vm₁, cX, kX, hfX, hkX, -, -, X₁, st1⟩ := Y.newCold hexec (own := own) (C := cls) (index := ik) (n := 6) hown' hk' hins hini'
    (g := F0 m pc ls rest) rfl (by rw [hb]; exact d0) (Nat.le_refl _) (Nat.le_refl _)
  generalize hT1 : (T.setVm vm₁).pushCell { cls := cX, slots := kX.instanceTypes.map defaultValue, vm := .none } = T1 at X₁ st1
  have hcat : (Value.ref T.heap.size).category = 1 := rfl
  have hcellA : T1.heap[T.heap.size]? = some (freshCell cX kX) := by rw [← hT1]; exact State.heap_pushCell_size _ _
  have d3' : decode c.code (pc + 3) = .ok (.dup, 1) := by rw [hb]; exact d3
  obtain ⟨U, hsteps, hrun, hend, hW, hsame, ce, hce, hO⟩ := X₁.ctorThrow0 hexec htr (own := own) (cls := cls) (names := names) (ic := ic) hown' hcls hnames h (fun x hx => nomatch hx) hfX hkX hcellA (by rw [hhp, hT]; exact Nat.le_refl _)
    (g := { method := m, pc := pc + 4, locals := ls, stack := .ref T.heap.size :: .ref T.heap.size :: rest, locked := none }) rfl hsize rfl rfl (rest := rest) rfl
    (by rw [hb]; exact d4) (by rw [hb]; exact d7) hout hRframes (by simp only [List.map_cons, List.sum_cons, hcat]; omega) hlocks
  obtain ⟨f1, f2⟩ := vx_frame hsame
  rw [hhp] at f1 f2
  have hWs : s.WarmedH U.vm := State.WarmedH.trans hW0 hW
  have hcl : s.vm.findClass cls = some ce.cls := by
    have h9 := hO.cls
    rw [hvm] at h9
    exact h9
  have hall : s.sameButNew ({ U with vm := s.vm } : State) locs mc ms := by
    subst hA
    obtain ⟨e1, e2⟩ := hsame
    rw [State.setFrames_setFrames] at e1
    have h2 : (T.setVm s.vm).sameButNew ({ U with vm := s.vm } : State) [] (0 + 1) (0 + 6) := ⟨e1, e2⟩
    have h3 := X.same.trans h2
    rw [List.append_nil] at h3
    exact h3.mono hc hs
  refine ⟨U, ?_, .threw T.heap.size, hrun, hend, Or.inr ⟨T.heap.size, rfl, cls, ce, locs, hx U hWs.alike f1 (fun q hq => f2 q hq (fun z hz => nomatch hz)), hce, hO.vm, hcl, hWs, hall, hf⟩⟩
  refine st1 _ ?_
  show Steps p.tables e below (T1.setTop { method := m, pc := pc + 3, locals := ls, stack := .ref T.heap.size :: rest, locked := none }) _
  jvm_step X₁.here [X₁.here.top, hexec, d3', Value.category]
  exact hsteps
/-- 'throw new E("text")': new; dup; ldc; invokespecial; athrow -/
theorem vx_throwS {cc : ByteArray} {pc : Nat} (hexec : p.tables.exec = Jvm.exec) (hb : c.code = cc) (hl : l.stackTraces = false) {own cls text : String} {names : List String} {ik is ic mc ms sa : Nat} {A : Nat → Prop}
    (hown : s.vm.findClass own = some m.cls) (hcls : Bundle.fit cls = true) (hnames : ∀ n ∈ names, Bundle.fit n = true)
    (hk : (Cond.classLink own ik cls).before args s = true) (hini : (Cond.initialized cls).before args s = true) (hstr : vk_R own is text sa s) (hat : ∀ w ∈ vx_atS own ic cls names, w.before args s = true)
    (hgood : ∀ w ∈ Cond.classLink own ik cls :: Cond.initialized cls :: vx_atS own ic cls names, vx_ot w = true)
    (hU : vx_Zq Bundle.tN "UNASSIGNED_STACK" Bundle.steD A s s.heap) (hN : vx_Zq Bundle.tN "SUPPRESSED_SENTINEL" Bundle.listD A s s.heap) (hS : va_S A s.heap H locs) (hsize : ls.size = c.maxLocals)
    (d0 : decode cc pc = .ok (.new ik, 3)) (d3 : decode cc (pc + 3) = .ok (.dup, 1)) (d4 : decode cc (pc + 4) = .ok (.ldc is, 2)) (d6 : decode cc (pc + 6) = .ok (.invokespecial ic, 3)) (d9 : decode cc (pc + 9) = .ok (.athrow, 1))
    (hout : ∀ x ∈ c.exceptionTable.toList, covers x (pc + 9) = false)
    (hRframes : names.length + 3 < R.frames) (hRlocals : (rest.map fun v => v.category).sum + (13 * (names.length + 1) + 43) ≤ R.locals) (hRcells : cells + 1 ≤ R.cells) (hRslots : slots + 6 ≤ R.slots) (hlocks : meth.locks = false)
    (hx : ∀ t : State, s.vm.Alike t.vm → H.size ≤ t.heap.size → (∀ q : Nat, q < H.size → t.heap[q]? = H[q]?) → XC cls s t)
    (hf : ∀ z ∈ locs, free z.base) (hc : cells + 1 ≤ mc) (hs : slots + 6 ≤ ms) :
    W p l e R s m args below meth c H locs cells slots (vx_MQ below Qc XC args s mc ms free) (F0 m pc ls rest) := by
  intro T hT X
  have htr : e.platform.stackTraces = false := (show e.platform.stackTraces = l.stackTraces by rw [X.admits.platform]).trans hl
  have Y := vx_rebase X (R' := { frames := R.frames, locals := R.locals, cells := 1, slots := 6 }) (Nat.le_refl _) (Nat.le_refl _) hRcells hRslots
  obtain ⟨s', hA⟩ : ∃ z, z = (T.setVm s.vm).setFrames (.invoking m args :: below) := ⟨_, rfl⟩
  rw [← hA] at Y
  have hvm : s'.vm = s.vm := by rw [hA]; rfl
  have hhp : s'.heap = H := by rw [hA]; exact hT
  have hW0 : s.WarmedH s'.vm := by rw [hvm]; exact State.WarmedH.refl s
  have hat' : ∀ w ∈ vx_atS own ic cls names, w.before args s' = true := fun w hw => vx_ot_at hW0 hvm.symm (hgood w (List.mem_cons_of_mem _ (List.mem_cons_of_mem _ hw))) (hat w hw)
  have hk' : (Cond.classLink own ik cls).before args s' = true := vx_ot_at hW0 hvm.symm (hgood _ List.mem_cons_self) hk
  have hini' : (Cond.initialized cls).before args s' = true := vx_ot_at hW0 hvm.symm (hgood _ (List.mem_cons_of_mem _ List.mem_cons_self)) hini
  have hU' : vx_Zq Bundle.tN "UNASSIGNED_STACK" Bundle.steD A s' s'.heap := by rw [hhp]; exact vx_Zq.moved hW0.alike (hU.kept hS.2.1)
  have hN' : vx_Zq Bundle.tN "SUPPRESSED_SENTINEL" Bundle.listD A s' s'.heap := by rw [hhp]; exact vx_Zq.moved hW0.alike (hN.kept hS.2.1)
  have h : ∀ w ∈ Bundle.ownAtoms own ic cls names, w.before args s' = true := vx_own hat' (vx_isRefq hU'.1) (vx_isRefq hN'.1) hU'.2.word hN'.2.word
  have hown' : s'.vm.findClass own = some m.cls := by rw [hvm]; exact hown
  have hins : (Cond.instantiable cls 6).before args s' = true := h _ (by simp [Bundle.ownAtoms])
  obtain ⟨vm₁, cX, kX, hfX, hkX, -, -, X₁, st1⟩ := Y.newCold hexec (own := own) (C := cls) (index := ik) (n := 6) hown' hk' hins hini'
    (g := F0 m pc ls rest) rfl (by rw [hb]; exact d0) (Nat.le_refl _) (Nat.le_refl _)
  generalize hT1 : (T.setVm vm₁).pushCell { cls := cX, slots := kX.instanceTypes.map defaultValue, vm := .none } = T1 at X₁ st1
  have hcat : (Value.ref T.heap.size).category = 1 := rfl
  have hcellA : T1.heap[T.heap.size]? = some (freshCell cX kX) := by rw [← hT1]; exact State.heap_pushCell_size _ _
  have d3' : decode c.code (pc + 3) = .ok (.dup, 1) := by rw [hb]; exact d3
  have d4' : decode c.code (pc + 4) = .ok (.ldc is, 2) := by rw [hb]; exact d4
  have hstr' : vk_R own is text sa s' := vk_R.warm hW0 hstr
  obtain ⟨U, hsteps, hrun, hend, hW, hsame, ce, hce, hO⟩ := X₁.ctorThrowS hexec htr (own := own) (cls := cls) (names := names) (ic := ic) hown' hcls hnames h (fun x hx => nomatch hx) hfX hkX hcellA (by rw [hhp, hT]; exact Nat.le_refl _) (msg := .ref sa) rfl
    (g := { method := m, pc := pc + 6, locals := ls, stack := .ref sa :: .ref T.heap.size :: .ref T.heap.size :: rest, locked := none }) rfl hsize rfl rfl (rest := rest) rfl
    (by rw [hb]; exact d6) (by rw [hb]; exact d9) hout hRframes (by simp only [List.map_cons, List.sum_cons, hcat]; omega) hlocks
  obtain ⟨f1, f2⟩ := vx_frame hsame
  rw [hhp] at f1 f2
  have hWs : s.WarmedH U.vm := State.WarmedH.trans hW0 hW
  have hcl : s.vm.findClass cls = some ce.cls := by
    have h9 := hO.cls
    rw [hvm] at h9
    exact h9
  have hall : s.sameButNew ({ U with vm := s.vm } : State) locs mc ms := by
    subst hA
    obtain ⟨e1, e2⟩ := hsame
    rw [State.setFrames_setFrames] at e1
    have h2 : (T.setVm s.vm).sameButNew ({ U with vm := s.vm } : State) [] (0 + 1) (0 + 6) := ⟨e1, e2⟩
    have h3 := X.same.trans h2
    rw [List.append_nil] at h3
    exact h3.mono hc hs
  refine ⟨U, ?_, .threw T.heap.size, hrun, hend, Or.inr ⟨T.heap.size, rfl, cls, ce, locs, hx U hWs.alike f1 (fun q hq => f2 q hq (fun z hz => nomatch hz)), hce, hO.vm, hcl, hWs, hall, hf⟩⟩
  refine st1 _ ?_
  show Steps p.tables e below (T1.setTop { method := m, pc := pc + 3, locals := ls, stack := .ref T.heap.size :: rest, locked := none }) _
  jvm_step X₁.here [X₁.here.top, hexec, d3', Value.category]
  exact X₁.ldcString hexec (own := own) (text := text) (index := is) (a := sa) hown' hstr'.1 hstr'.2
    (g := { method := m, pc := pc + 4, locals := ls, stack := .ref T.heap.size :: .ref T.heap.size :: rest, locked := none }) rfl d4' _ hsteps
/-- 'throw new E("text")', the text by a wide index -/
theorem vx_throwSW {cc : ByteArray} {pc : Nat} (hexec : p.tables.exec = Jvm.exec) (hb : c.code = cc) (hl : l.stackTraces = false) {own cls text : String} {names : List String} {ik is ic mc ms sa : Nat} {A : Nat → Prop}
    (hown : s.vm.findClass own = some m.cls) (hcls : Bundle.fit cls = true) (hnames : ∀ n ∈ names, Bundle.fit n = true)
    (hk : (Cond.classLink own ik cls).before args s = true) (hini : (Cond.initialized cls).before args s = true) (hstr : vk_R own is text sa s) (hat : ∀ w ∈ vx_atS own ic cls names, w.before args s = true)
    (hgood : ∀ w ∈ Cond.classLink own ik cls :: Cond.initialized cls :: vx_atS own ic cls names, vx_ot w = true)
    (hU : vx_Zq Bundle.tN "UNASSIGNED_STACK" Bundle.steD A s s.heap) (hN : vx_Zq Bundle.tN "SUPPRESSED_SENTINEL" Bundle.listD A s s.heap) (hS : va_S A s.heap H locs) (hsize : ls.size = c.maxLocals)
    (d0 : decode cc pc = .ok (.new ik, 3)) (d3 : decode cc (pc + 3) = .ok (.dup, 1)) (d4 : decode cc (pc + 4) = .ok (.ldc_w is, 3)) (d7 : decode cc (pc + 7) = .ok (.invokespecial ic, 3)) (d10 : decode cc (pc + 10) = .ok (.athrow, 1))
    (hout : ∀ x ∈ c.exceptionTable.toList, covers x (pc + 10) = false)
    (hRframes : names.length + 3 < R.frames) (hRlocals : (rest.map fun v => v.category).sum + (13 * (names.length + 1) + 43) ≤ R.locals) (hRcells : cells + 1 ≤ R.cells) (hRslots : slots + 6 ≤ R.slots) (hlocks : meth.locks = false)
    (hx : ∀ t : State, s.vm.Alike t.vm → H.size ≤ t.heap.size → (∀ q : Nat, q < H.size → t.heap[q]? = H[q]?) → XC cls s t)
    (hf : ∀ z ∈ locs, free z.base) (hc : cells + 1 ≤ mc) (hs : slots + 6 ≤ ms) :
    W p l e R s m args below meth c H locs cells slots (vx_MQ below Qc XC args s mc ms free) (F0 m pc ls rest) := by
  intro T hT X
  have htr : e.platform.stackTraces = false := (show e.platform.stackTraces = l.stackTraces by rw [X.admits.platform]).trans hl
  have Y := vx_rebase X (R' := { frames := R.frames, locals := R.locals, cells := 1, slots := 6 }) (Nat.le_refl _) (Nat.le_refl _) hRcells hRslots
  obtain ⟨s', hA⟩ : ∃ z, z = (T.setVm s.vm).setFrames (.invoking m args :: below) := ⟨_, rfl⟩
  rw [← hA] at Y
  have hvm : s'.vm = s.vm := by rw [hA]; rfl
  have hhp : s'.heap = H := by rw [hA]; exact hT
  have hW0 : s.WarmedH s'.vm := by rw [hvm]; exact State.WarmedH.refl s
  have hat' : ∀ w ∈ vx_atS own ic cls names, w.before args s' = true := fun w hw => vx_ot_at hW0 hvm.symm (hgood w (List.mem_cons_of_mem _ (List.mem_cons_of_mem _ hw))) (hat w hw)
  have hk' : (Cond.classLink own ik cls).before args s' = true := vx_ot_at hW0 hvm.symm (hgood _ List.mem_cons_self) hk
  have hini' : (Cond.initialized cls).before args s' = true := vx_ot_at hW0 hvm.symm (hgood _ (List.mem_cons_of_mem _ List.mem_cons_self)) hini
  have hU' : vx_Zq Bundle.tN "UNASSIGNED_STACK" Bundle.steD A s' s'.heap := by rw [hhp]; exact vx_Zq.moved hW0.alike (hU.kept hS.2.1)
  have hN' : vx_Zq Bundle.tN "SUPPRESSED_SENTINEL" Bundle.listD A s' s'.heap := by rw [hhp]; exact vx_Zq.moved hW0.alike (hN.kept hS.2.1)
  have h : ∀ w ∈ Bundle.ownAtoms own ic cls names, w.before args s' = true := vx_own hat' (vx_isRefq hU'.1) (vx_isRefq hN'.1) hU'.2.word hN'.2.word
  have hown' : s'.vm.findClass own = some m.cls := by rw [hvm]; exact hown
  have hins : (Cond.instantiable cls 6).before args s' = true := h _ (by simp [Bundle.ownAtoms])
  obtain ⟨vm₁, cX, kX, hfX, hkX, -, -, X₁, st1⟩ := Y.newCold hexec (own := own) (C := cls) (index := ik) (n := 6) hown' hk' hins hini'
    (g := F0 m pc ls rest) rfl (by rw [hb]; exact d0) (Nat.le_refl _) (Nat.le_refl _)
  generalize hT1 : (T.setVm vm₁).pushCell { cls := cX, slots := kX.instanceTypes.map defaultValue, vm := .none } = T1 at X₁ st1
  have hcat : (Value.ref T.heap.size).category = 1 := rfl
  have hcellA : T1.heap[T.heap.size]? = some (freshCell cX kX) := by rw [← hT1]; exact State.heap_pushCell_size _ _
  have d3' : decode c.code (pc + 3) = .ok (.dup, 1) := by rw [hb]; exact d3
  have d4' : decode c.code (pc + 4) = .ok (.ldc_w is, 3) := by rw [hb]; exact d4
  have hstr' : vk_R own is text sa s' := vk_R.warm hW0 hstr
  obtain ⟨U, hsteps, hrun, hend, hW, hsame, ce, hce, hO⟩ := X₁.ctorThrowS hexec htr (own := own) (cls := cls) (names := names) (ic := ic) hown' hcls hnames h (fun x hx => nomatch hx) hfX hkX hcellA (by rw [hhp, hT]; exact Nat.le_refl _) (msg := .ref sa) rfl
    (g := { method := m, pc := pc + 7, locals := ls, stack := .ref sa :: .ref T.heap.size :: .ref T.heap.size :: rest, locked := none }) rfl hsize rfl rfl (rest := rest) rfl
    (by rw [hb]; exact d7) (by rw [hb]; exact d10) hout hRframes (by simp only [List.map_cons, List.sum_cons, hcat]; omega) hlocks
  obtain ⟨f1, f2⟩ := vx_frame hsame
  rw [hhp] at f1 f2
  have hWs : s.WarmedH U.vm := State.WarmedH.trans hW0 hW
  have hcl : s.vm.findClass cls = some ce.cls := by
    have h9 := hO.cls
    rw [hvm] at h9
    exact h9
  have hall : s.sameButNew ({ U with vm := s.vm } : State) locs mc ms := by
    subst hA
    obtain ⟨e1, e2⟩ := hsame
    rw [State.setFrames_setFrames] at e1
    have h2 : (T.setVm s.vm).sameButNew ({ U with vm := s.vm } : State) [] (0 + 1) (0 + 6) := ⟨e1, e2⟩
    have h3 := X.same.trans h2
    rw [List.append_nil] at h3
    exact h3.mono hc hs
  refine ⟨U, ?_, .threw T.heap.size, hrun, hend, Or.inr ⟨T.heap.size, rfl, cls, ce, locs, hx U hWs.alike f1 (fun q hq => f2 q hq (fun z hz => nomatch hz)), hce, hO.vm, hcl, hWs, hall, hf⟩⟩
  refine st1 _ ?_
  show Steps p.tables e below (T1.setTop { method := m, pc := pc + 3, locals := ls, stack := .ref T.heap.size :: rest, locked := none }) _
  jvm_step X₁.here [X₁.here.top, hexec, d3', Value.category]
  exact X₁.ldcStringW hexec (own := own) (text := text) (index := is) (a := sa) hown' hstr'.1 hstr'.2
    (g := { method := m, pc := pc + 4, locals := ls, stack := .ref T.heap.size :: .ref T.heap.size :: rest, locked := none }) rfl d4' _ hsteps
end Ends
section Bodies
variable {l : Launch}
theorem vx_ofW {y : MethodName} {ws ws' : List Cond} {rm : Room} {Pc : Array Value → State → Prop} {Qc : Array Value → State → Outcome → State → Prop} {XC : String → State → State → Prop} {mc ms : Nat} {free : Addr → Prop} {cc : ByteArray} {maxL : Nat} {ret : Option FieldType}
    (hy : plainName y.cls = true) (hw : ws = Cond.code y cc maxL ret :: ws')
    (body : ∀ p e s m args below meth c s₁, BodyLoose p l y (headSpec ws rm) cc maxL ret e s m args below meth c s₁ → c.maxLocals = maxL → (∀ x ∈ c.exceptionTable.toList, False) → Pc args s →
      W p l e (headSpec ws rm).room s m args below meth c s.heap [] 0 0 (vx_MQ below Qc XC args s mc ms free) (entryFrame m args maxL)) : vx_Met l y ws rm Pc Qc XC mc ms free := by
  refine MetFree.of_bodyS (code := cc) (maxLocals := maxL) (ret := ret) hy ?_ ?_
  · intro args s m h hn
    obtain ⟨meth, c, h1, h2, h3, h4, h5, h6, -, -⟩ := Cond.code_spec hn (atoms_spec (ws := ws) h _ (by rw [hw]; exact List.mem_cons_self))
    exact ⟨meth, c, h1, h2, h3, h4, h5, h6⟩
  · intro p e s m args below meth c s₁ B hml hP _
    have hh0 : s₁.heap = s.heap := by rw [B.state]; rfl
    have ht : ∀ x ∈ c.exceptionTable.toList, False := by
      obtain ⟨meth9, c9, h1, h2, -, -, -, -, h7, -⟩ := Cond.code_spec B.named (atoms_spec (ws := ws) B.pre _ (by rw [hw]; exact List.mem_cons_self))
      cases Option.some.inj (h1.symm.trans B.method)
      cases Option.some.inj (h2.symm.trans (Stand.of_body B).code)
      intro x hx
      rw [Array.isEmpty_iff.mp h7] at hx
      cases hx
    obtain ⟨t, a1, o, b1, b2, b3⟩ := body p e s m args below meth c s₁ B hml ht hP s₁ hh0 (Stand.of_body B)
    exact ⟨t, o, a1, b1, b2, b3⟩
/-- the table of a body with handlers -/
theorem vx_table {p : Program} {x y : MethodName} {S : Spec} {cc bytes : ByteArray} {maxL maxL' : Nat} {ret ret' : Option FieldType} {e : Env} {s s₁ : State} {m : MethodId} {args : Array Value} {below : List Frame} {meth : Method} {c : Code} {hh : List (Nat × Nat × Nat × Nat)}
    (B : BodyLoose p l y S cc maxL ret e s m args below meth c s₁) (h : (Cond.codeWith y bytes maxL' ret' hh).before args s = true) : c.exceptionTable.toList = tableOf hh := by
  obtain ⟨m9, meth9, c9, hn9, h1, h2, -, -, h6, -⟩ := Cond.codeWith_spec h
  cases Option.some.inj (hn9.symm.trans B.named)
  cases Option.some.inj (h1.symm.trans B.method)
  cases Option.some.inj (h2.symm.trans (Stand.of_body B).code)
  rw [← h6, table_eq]
end Bodies
end VXA
/-! ===== END ===== -/
/-! ===== BEGIN a static call of a method with an exception table ===== -/
section VXS
variable {p : Program} {l : Launch} {e : Env} {R : Room} {s : State} {m : MethodId} {args : Array Value} {below : List Frame} {meth : Method} {c : Code} {T : State} {H : Heap} {locs : List Loc} {cells slots : Nat}
abbrev vx_CSW (R : Room) (s : State) (args : Array Value) (own : String) (index : Nat) (y : MethodName) (bytes : ByteArray) (maxL : Nat) (ret : Option FieldType) (hh : List (Nat × Nat × Nat × Nat)) (ws : List Cond) (rm : Room) (mc ms n : Nat) : Prop :=
  (rm.cells = mc ∧ rm.slots = ms ∧ rm.frames + 1 ≤ R.frames ∧ 8 + (maxL + 11) + rm.locals ≤ R.locals ∧ (∀ w ∈ ws, ∀ (a' : Array Value) (U : State), s.WarmedH U.vm → w.before a' U = true) ∧ Cond.codeWith y bytes maxL ret hh ∈ ws) ∧
  (Cond.codeWith y bytes maxL ret hh).before args s = true ∧ (Cond.initialized y.cls).before args s = true ∧ (y.cls ≠ "java/lang/invoke/MethodHandle" ∧ y.cls ≠ "java/lang/invoke/VarHandle") ∧
  (∀ sig, parseMethodDescriptor y.desc = some sig → n = sig.parameters.length) ∧ (Cond.methodLink own index y).before args s = true ∧ (Cond.static y).before args s = true
theorem vx_cwSW {own : String} {index maxL mc ms : Nat} {y : MethodName} {bytes : ByteArray} {ret : Option FieldType} {hh : List (Nat × Nat × Nat × Nat)} {Ts ws ws' : List Cond} {rm : Room} (n : Nat) (ht : ∀ w ∈ Ts, w.before args s = true) (hT : GoodIn Ts (va_wsS own index y ws)) (hw : ws = Cond.codeWith y bytes maxL ret hh :: ws') (hrc : rm.cells = mc) (hrs : rm.slots = ms)
    (hd : y.cls ≠ "java/lang/invoke/MethodHandle" ∧ y.cls ≠ "java/lang/invoke/VarHandle" ∧ (parseMethodDescriptor y.desc).map (fun d => d.parameters.length) = some n) (hR : rm.frames + 1 ≤ R.frames ∧ 8 + (maxL + 11) + rm.locals ≤ R.locals) :
    vx_CSW R s args own index y bytes maxL ret hh ws rm mc ms n := by
  have ok : ∀ w ∈ va_wsS own index y ws, w.before args s = true := fun w h => ht w (hT w h).1
  have hG : GoodIn Ts ws := fun w h => hT w (by unfold va_wsS; exact List.mem_append_right _ h)
  have hc : Cond.codeWith y bytes maxL ret hh ∈ ws := by rw [hw]; exact List.mem_cons_self
  refine ⟨⟨hrc, hrs, hR.1, hR.2, pay_in ht hG, hc⟩, ht _ (hG _ hc).1, ok _ (by simp [va_wsS]), ⟨hd.1, hd.2.1⟩, fun sig h => ?_, ok _ (by simp [va_wsS]), ok _ (by simp [va_wsS])⟩
  have h2 := hd.2.2
  rw [h] at h2
  exact (Option.some.inj h2).symm
theorem vx_callSW (X : Stand p l e R s m args below meth c T locs cells slots) (hexec : p.tables.exec = Jvm.exec) {own : String} {index : Nat} {y : MethodName} {bytes : ByteArray} {maxL : Nat} {ret : Option FieldType} {hh : List (Nat × Nat × Nat × Nat)}
    (hown : s.vm.findClass own = some m.cls) (hlink : (Cond.methodLink own index y).before args s = true) (hstat : (Cond.static y).before args s = true) (hinit : (Cond.initialized y.cls).before args s = true)
    (hcode : (Cond.codeWith y bytes maxL ret hh).before args s = true) (hy : y.cls ≠ "java/lang/invoke/MethodHandle" ∧ y.cls ≠ "java/lang/invoke/VarHandle")
    {W9 : Nat} {Pre : Pt → Array Value → Prop} {Post : Pt → Array Value → Option Value → Pt → Prop} (hK : Back l R p e below s args y 3 W9 Pre Post)
    {g : JFrame} (hg : g.method = m) (hsize : g.locals.size = c.maxLocals) {argsL rest : List Value} (hlen : ∀ sig, parseMethodDescriptor y.desc = some sig → argsL.length = sig.parameters.length)
    (hstack : g.stack = argsL.reverse ++ rest) (hW : 2 * g.monitorRoom + (rest.map fun v => v.category).sum ≤ W9) (hdg : decode c.code g.pc = .ok (.invokestatic index, 3))
    (hpre : ∀ vm₁, s.WarmedH vm₁ → Pre ⟨T.setVm vm₁, locs, cells, slots⟩ argsL.toArray) :
    ∃ (v : Option Value) (vm₁ : Vm) (B : Pt), s.WarmedH vm₁ ∧ Stand p l e R s m args below meth c B.U B.locs B.cells B.slots ∧ Post ⟨T.setVm vm₁, locs, cells, slots⟩ argsL.toArray v B ∧
      ∀ target, Steps p.tables e below (B.U.setTop { g with pc := g.pc + 3, stack := v.toList ++ rest }) target → Steps p.tables e below (T.setTop g) target := by
  obtain ⟨mk, methM, cM, hnamed, hmethM, -, -, -, -, -, -, hsigM⟩ := Cond.codeWith_spec hcode
  have hstatic : methM.isStatic = true := Cond.static_spec hnamed hmethM hstat
  obtain ⟨kP, hkP, -⟩ := className_of_methodNamed hnamed
  have hinitP : kP.init = .initialized := Cond.initialized_spec (findClass_of_methodNamed hnamed) hkP hinit
  obtain ⟨vm₁, X₁, hstep₁⟩ := X.invokestatic hexec hown hlink hnamed hmethM hstatic hkP hinitP hy (g := g) hg (argsL := argsL) (rest := rest) (hlen _ hsigM) hstack hdg
  obtain ⟨v, B, X', hpost, hsteps⟩ := hK m meth c ⟨T.setVm vm₁, locs, cells, slots⟩ { g with stack := rest } (.invokestatic index) mk argsL.toArray X₁ hg hsize hdg hW (X₁.named hnamed) (hpre vm₁ X₁.warmed)
  exact ⟨v, vm₁, B, X₁.warmed, X', hpost, fun target h => hstep₁ _ fun acts => by rw [doInvoke_state]; exact hsteps.trans h⟩
theorem vx_runSW {y : MethodName} {bytes cc : ByteArray} {maxL nL mc ms n index : Nat} {ret : Option FieldType} {hh : List (Nat × Nat × Nat × Nat)} {ws : List Cond} {rm : Room} {Pc : Array Value → State → Prop} {Qc : Array Value → State → Outcome → State → Prop} {free : Addr → Prop} {Ts : List Cond} {own : String} {As rest : List Value} {g : JFrame}
    (S : CallFix p m c cc nL s args Ts own) (hM : Met l y ws rm Pc Qc mc ms free) (cw : vx_CSW R s args own index y bytes maxL ret hh ws rm mc ms n) (hp : PreS s H Pc As)
    (hg : g.method = m) (hn : As.length = n) (hsize : g.locals.size = nL) (hstack : g.stack = As.reverse ++ rest) (hW : 2 * g.monitorRoom + (rest.map fun v => v.category).sum ≤ 8) (hdg : decode cc g.pc = .ok (.invokestatic index, 3)) (hf : cells + mc ≤ R.cells ∧ slots + ms ≤ R.slots) :
    va_Run p l e R s m args below meth c H locs cells slots mc ms g rest (Qc As.toArray) (free) := by
  obtain ⟨⟨hrc, hrs, hfr, hlo, hws, hcw⟩, hcode, hini, hy, hlen, hl, hstt⟩ := cw
  have hK : Back l R p e below s args y 3 8 (PreOf R mc ms Pc) (PostOf Qc mc ms free) := va_backW (hh := hh) (bytes := bytes) (maxL := maxL) (ret := ret) hM hp.1 hrc hrs hfr hlo hws hcw (fun a' U hW => word_at hW (Or.inl (by first | rfl | simp [Cond.onTables, Cond.keeps, Cond.steady])) hini)
  obtain ⟨hx, hb, hml, ho, -⟩ := S
  intro T hT X
  obtain ⟨v, vm₁, ⟨U', l2, c2, s2⟩, hW₁, X', ⟨g', mk, t, L, e1, e2, hq, h1, hL, h2, h3⟩, st⟩ := vx_callSW X hx (hh := hh) (bytes := bytes) (maxL := maxL) (ret := ret) ho hl hstt hini hcode hy hK hg (hsize.trans hml.symm) (argsL := As) (rest := rest) (fun sig h => hn.trans (hlen sig h)) hstack hW (by rw [hb]; exact hdg)
    (fun vm₁ hW₁ => ⟨hf.1, hf.2, hp.2 (T.setVm vm₁) hT hW₁⟩)
  dsimp only [Pt.U, Pt.locs, Pt.cells, Pt.slots] at X' e1 e2 h1 h2 h3 st
  subst h1; subst h2; subst h3
  exact ⟨v, (T.setVm vm₁).calling g' mk As.toArray, t, U', L, hT, X', hL, e1, e2, hq, st⟩
/-- not caught here, past rows that name other classes: it goes on to the caller -/
theorem vx_outP {p : Program} {l : Launch} {e : Env} {R : Room} {s : State} {m : MethodId} {args : Array Value} {below : List Frame} {meth : Method} {c : Code} {H : Heap} {locs : List Loc} {cells slots : Nat} {free : Addr → Prop} {ls : Array Slot} {rest : List Value} {Qc : Array Value → State → Outcome → State → Prop} {XC : String → State → State → Prop}
    {pc : Nat} {own E : String} {ce : Cell} {q : Addr} {mc ms : Nat} (hown : s.vm.findClass own = some m.cls) (hlocks : meth.locks = false)
    (hpass : ∀ z ∈ c.exceptionTable.toList, covers z pc = false ∨ (z.catchType ≠ 0 ∧ ∃ nm : String, (Cond.classLink own z.catchType nm).before args s = true ∧ va_Nc E nm s)) (hcell : H[q]? = some ce) (hv : ce.vm = .none) (hcl : s.vm.findClass E = some ce.cls)
    (hx : ∀ t : State, t.heap = H → s.vm.Alike t.vm → XC E s t) (hf : ∀ z ∈ locs, free z.base) (hc : cells ≤ mc) (hs : slots ≤ ms) :
    vx_W p l e R s m args below meth c H locs cells slots (vx_MQ below Qc XC args s mc ms free) (F0 m pc ls rest) q := by
  intro T hT X
  have hpl : e.platform.magicAccessors = ({} : Platform).magicAccessors := by rw [X.admits.platform]
  obtain ⟨vm', hW', X', st⟩ := X.outThrough hlocks q (g := F0 m pc ls rest) rfl rfl rfl (cell := ce) (by rw [hT]; exact hcell) (by rw [hv]; rfl)
    (by obtain ⟨k9, h9, -⟩ := Vm.findClass_spec hcl; exact ⟨k9, h9⟩) (fun z hz => by
      rcases hpass z hz with h | ⟨hz0, nm, hl1, hn1⟩
      · exact Or.inl h
      · obtain ⟨c6, hc6, hcl6⟩ := Cond.classLink_spec hown hl1 e.platform hpl
        obtain ⟨a8, b8, h1, h2, h3⟩ := hn1
        cases Option.some.inj (h1.symm.trans hcl)
        cases Option.some.inj (h2.symm.trans hc6)
        exact Or.inr ⟨hz0, _, hcl6, h3⟩)
  obtain ⟨g₀, hfr⟩ := X'.frames_eq
  have hcell9 : ((T.setVm vm').setFrames (.throwing q :: below)).heap[q]? = some ce := by
    show T.heap[q]? = some ce
    rw [hT]; exact hcell
  have hend : Ended ((T.setVm vm').setFrames (.throwing q :: below)) below (.threw q) := State.frames_setFrames _ (State.cur_lt_of_frames hfr)
  refine ⟨(T.setVm vm').setFrames (.throwing q :: below), ?_, .threw q, X'.here.running, hend, Or.inr ⟨q, rfl, E, ce, locs, hx _ hT (X'.ends _).1.alike, hcell9, hv, hcl, (X'.ends _).1, (X'.ends _).2.mono hc hs, hf⟩⟩
  rw [X.pushThrowing_eq]
  exact st
/-- a thing of a world lies in the heap -/
theorem vx_lt {D : va_G} {cl : List vw_C} {ws : va_W} {H1 : Heap} (h : va_P D cl ws H1) {k : Nat} {q : Nat × va_E} (hk : ws[k]? = some q) : q.1 < H1.size := (h k q hk).lt
end VXS
/-! ===== END ===== -/
/-! ===== BEGIN methods with a table of their own: called by a name, returning or throwing ===== -/
section VXH
/-! vx_backW, vx_callVX, vx_callSX, vx_callVW, vx_runVW, vx_runVX, vx_runSX, vx_ofWH follow the same proofs as their sisters above (Free/Laws.lean, Shelf42/LK1.lean); vx_outP calls Shelf42/NT130.lean (outThrough). -/
section
variable {l : Launch} {R : Room} {p : Program} {e : Env} {below : List Frame} {s : State} {sargs : Array Value} {y : MethodName} {len W9 : Nat}
theorem vx_backW {ws : List Cond} {rm : Room} {Pc : Array Value → State → Prop} {Qc : Array Value → State → Outcome → State → Prop} {XC : String → State → State → Prop} {mc ms : Nat} {free : Addr → Prop} {bytes : ByteArray} {maxL : Nat} {ret : Option FieldType} {hh : List (Nat × Nat × Nat × Nat)}
    (hM : vx_Met l y ws rm Pc Qc XC mc ms free) (hblind : FrameBlind Pc) (hrc : rm.cells = mc) (hrs : rm.slots = ms)
    (hframes : rm.frames + 1 ≤ R.frames) (hlocals : W9 + (maxL + 11) + rm.locals ≤ R.locals)
    (hws : ∀ w ∈ ws, ∀ a' U, s.WarmedH U.vm → w.before a' U = true) (hcode : Cond.codeWith y bytes maxL ret hh ∈ ws) (hinit : ∀ a' U, s.WarmedH U.vm → (Cond.initialized y.cls).before a' U = true) :
    vx_Back l R p e below s sargs y len W9 (PreOf R mc ms Pc) (PostOf Qc mc ms free) (vx_Post XC mc ms free) := by
  intro m meth c A g ig mk a X hg hsize hdg hW hn hp
  have h1 : (headSpec ws rm).pre.before a A.U = true := atoms_intro fun w hw => hws w hw _ _ X.warmed
  have h2 : (Cond.codeWith y bytes maxL ret hh).before a A.U = true := hws _ hcode _ _ X.warmed
  have h3 : (Cond.initialized y.cls).before a A.U = true := hinit _ _ X.warmed
  have h4 : A.cells + (headSpec ws rm).room.cells ≤ R.cells := by rw [show (headSpec ws rm).room.cells = mc from hrc]; exact hp.1
  have h5 : A.slots + (headSpec ws rm).room.slots ≤ R.slots := by rw [show (headSpec ws rm).room.slots = ms from hrs]; exact hp.2.1
  have hPc : Pc a (A.U.calling g mk a) := hblind _ _ _ _ hp.2.2
  obtain ⟨U, Ls, c0, s0⟩ := A
  dsimp only [Pt.U, Pt.locs, Pt.cells, Pt.slots] at h1 h2 h3 h4 h5 X hn hPc ⊢
  obtain ⟨m9, methY, cY, hn9, hmY, hcY, -, hlY, -⟩ := Cond.codeWith_spec h2
  cases Option.some.inj (hn9.symm.trans hn)
  obtain ⟨kY, hkY, -⟩ := className_of_methodNamed hn
  have hinitY : kY.init = .initialized := Cond.initialized_spec (findClass_of_methodNamed hn) hkY h3
  have h : At U g.method c below := by rw [hg]; exact X.here
  have hlocals9 : W9 + (maxL + 11) + (headSpec ws rm).room.locals ≤ R.locals := hlocals
  have happ : (headSpec ws rm).appliesLoose y e.platform (U.calling g mk a) = true :=
    Spec.appliesLoose_calling (g := g) h hdg hn hkY hinitY
      (X.room_calling (g := g) (R' := (headSpec ws rm).room) hsize hmY hcY hframes (by rw [hlY]; omega) h4 h5) h1
  obtain ⟨mid, hmid⟩ := h.above
  have hfr : (U.setTop g).frames = (.java g :: mid) ++ below := by rw [State.frames_setTop' g h.top, hmid]; rfl
  obtain ⟨o, s₂, hsteps, -, hend, hq⟩ := Steps.callFree hM p X.admits X.cas X.clock (acts := []) hfr happ hPc trivial
  have hq' : vx_Q Qc XC mc ms free a (U.calling g mk a) o s₂ := hq
  rw [State.frames_setTop' g h.top] at hend
  obtain ⟨g₀, hg0⟩ := Option.isSome_iff_exists.mp h.top
  obtain ⟨r, hr⟩ := State.topJava?_eq_some.mp hg0
  have hr' : (({ U with heap := s₂.heap, slotsUsed := s₂.slotsUsed } : State).setVm s₂.vm).frames = .java g₀ :: r := hr
  rcases hq' with ⟨hqc, L, hfe, hL⟩ | ⟨q, rfl, E, ce, L, hx, hce, hcv, hcl, hW₂, hsm, hL⟩
  · obtain ⟨⟨v, rfl⟩, hW₂, e2, q2, q3, q4, q5, q6⟩ := id hfe
    have e3 : s₂ = ({ (U.calling g mk a).setFrames s₂.frames with heap := s₂.heap, slotsUsed := s₂.slotsUsed } : State).setVm s₂.vm := by
      have : s₂ = ({ s₂ with vm := (U.calling g mk a).vm } : State).setVm s₂.vm := rfl
      rw [e2] at this
      exact this
    obtain ⟨c₂, i₂, len₂, hc₂, hd₂, hf₂⟩ := hend
    have hW' : U.WarmedH s₂.vm := hW₂
    have hcc : c₂ = c := by
      have h1 : s₂.code? g.method = U.code? g.method := by
        rw [State.code?_eq, State.code?_eq, hW'.alike.method?]
      exact Option.some.inj (hc₂.symm.trans (h1.trans h.code))
    subst hcc
    have hlen : len₂ = len := by rw [hdg] at hd₂; cases hd₂; rfl
    subst hlen
    have hs₂ : s₂ = (({ U with heap := s₂.heap, slotsUsed := s₂.slotsUsed } : State).setVm s₂.vm).setTop { g with pc := g.pc + len₂, stack := v.toList ++ g.stack } := by
      refine e3.trans ?_
      rw [hf₂, State.calling_eq h.top, State.setFrames_setFrames, State.setTop_of_frames _ hr', hr]
      rfl
    have hsame : U.sameButNew ({ U with heap := s₂.heap, slotsUsed := s₂.slotsUsed } : State) L mc ms := by
      refine ⟨?_, q2, q3, q4, q5, q6⟩
      obtain ⟨t, ht, -⟩ := State.frames_cons hr
      show ({ U with heap := s₂.heap, slotsUsed := s₂.slotsUsed } : State) = { U.setFrames U.frames with heap := s₂.heap, slotsUsed := s₂.slotsUsed }
      rw [State.setFrames_self ht]
    subst hg
    refine Or.inl ⟨v, ⟨(({ U with heap := s₂.heap, slotsUsed := s₂.slotsUsed } : State).setVm s₂.vm), Ls ++ L, c0 + mc, s0 + ms⟩,
      ⟨X.admits, X.cas, X.clock, X.frames, X.room, X.hears, X.method, X.code, (X.here.setHeapUsed s₂.heap s₂.slotsUsed).setVm hW'.alike, X.tail, State.WarmedH.trans X.warmed hW', X.limits, X.bytes, X.same.trans (hsame.setVm s.vm)⟩,
      ⟨g, mk, s₂, L, rfl, rfl, hqc, rfl, hL, rfl, rfl⟩, ?_⟩
    show Steps p.tables e below _ ((({ U with heap := s₂.heap, slotsUsed := s₂.slotsUsed } : State).setVm s₂.vm).setTop { g with pc := g.pc + len₂, stack := v.toList ++ g.stack })
    rw [← hs₂]
    exact hsteps
  · obtain ⟨e2, q2, q3, q4, q5, q6⟩ := id hsm
    have e3 : s₂ = ({ (U.calling g mk a).setFrames s₂.frames with heap := s₂.heap, slotsUsed := s₂.slotsUsed } : State).setVm s₂.vm := by
      have : s₂ = ({ s₂ with vm := (U.calling g mk a).vm } : State).setVm s₂.vm := rfl
      rw [e2] at this
      exact this
    have hf₂ : s₂.frames = .throwing q :: .java g :: U.frames.tail := hend
    have hW' : U.WarmedH s₂.vm := hW₂
    have hs₂ : s₂ = ((({ U with heap := s₂.heap, slotsUsed := s₂.slotsUsed } : State).setVm s₂.vm).setTop g).pushFrame (.throwing q) := by
      refine e3.trans ?_
      rw [hf₂, State.calling_eq h.top, State.setFrames_setFrames, State.pushFrame, State.frames_setTop _ hr', State.setTop_of_frames _ hr', State.setFrames_setFrames, hr]
      rfl
    have hsame : U.sameButNew ({ U with heap := s₂.heap, slotsUsed := s₂.slotsUsed } : State) L mc ms := by
      refine ⟨?_, q2, q3, q4, q5, q6⟩
      obtain ⟨t, ht, -⟩ := State.frames_cons hr
      show ({ U with heap := s₂.heap, slotsUsed := s₂.slotsUsed } : State) = { U.setFrames U.frames with heap := s₂.heap, slotsUsed := s₂.slotsUsed }
      rw [State.setFrames_self ht]
    subst hg
    refine Or.inr ⟨q, ⟨(({ U with heap := s₂.heap, slotsUsed := s₂.slotsUsed } : State).setVm s₂.vm), Ls ++ L, c0 + mc, s0 + ms⟩,
      ⟨X.admits, X.cas, X.clock, X.frames, X.room, X.hears, X.method, X.code, (X.here.setHeapUsed s₂.heap s₂.slotsUsed).setVm hW'.alike, X.tail, State.WarmedH.trans X.warmed hW', X.limits, X.bytes, X.same.trans (hsame.setVm s.vm)⟩,
      ⟨g, mk, s₂, L, E, ce, rfl, rfl, hx, hce, hcv, hcl, rfl, hL, rfl, rfl⟩, ?_⟩
    show Steps p.tables e below _ (((({ U with heap := s₂.heap, slotsUsed := s₂.slotsUsed } : State).setVm s₂.vm).setTop g).pushFrame (.throwing q))
    rw [← hs₂]
    exact hsteps
end
variable {p : Program} {l : Launch} {e : Env} {R : Room} {s : State} {m : MethodId} {args : Array Value} {below : List Frame} {meth : Method} {c : Code} {T : State} {H : Heap} {locs : List Loc} {cells slots : Nat}
theorem vx_callVX (X : Stand p l e R s m args below meth c T locs cells slots) (hexec : p.tables.exec = Jvm.exec) {own C : String} {index : Nat} {y : MethodName} {bytes : ByteArray} {maxL : Nat} {ret : Option FieldType} {hh : List (Nat × Nat × Nat × Nat)}
    (hown : s.vm.findClass own = some m.cls) (hlink : (Cond.methodLink own index y).before args s = true) (hinst : (Cond.instanceMethod y).before args s = true) (hsel : (Cond.selects C y y).before args s = true)
    (hcode : (Cond.codeWith y bytes maxL ret hh).before args s = true) (hy : y.cls ≠ "java/lang/invoke/MethodHandle" ∧ y.cls ≠ "java/lang/invoke/VarHandle")
    {W9 : Nat} {Pre : Pt → Array Value → Prop} {Post : Pt → Array Value → Option Value → Pt → Prop} {PostX : Pt → Array Value → Addr → Pt → Prop} (hK : vx_Back l R p e below s args y 3 W9 Pre Post PostX)
    {b : Addr} {cellB : Cell} (hcell : T.heap[b]? = some cellB) (hobj : cellB.vm.isStatics = false) (hcls : s.vm.findClass C = some cellB.cls)
    {g : JFrame} (hg : g.method = m) (hsize : g.locals.size = c.maxLocals) {argsL rest : List Value} (hlen : ∀ sig, parseMethodDescriptor y.desc = some sig → argsL.length = sig.parameters.length)
    (hstack : g.stack = argsL.reverse ++ .ref b :: rest) (hW : 2 * g.monitorRoom + (rest.map fun v => v.category).sum ≤ W9) (hdg : decode c.code g.pc = .ok (.invokevirtual index, 3))
    (hpre : ∀ vm₁, s.WarmedH vm₁ → Pre ⟨T.setVm vm₁, locs, cells, slots⟩ (Value.ref b :: argsL).toArray) :
    (∃ (v : Option Value) (vm₁ : Vm) (B : Pt), s.WarmedH vm₁ ∧ Stand p l e R s m args below meth c B.U B.locs B.cells B.slots ∧ Post ⟨T.setVm vm₁, locs, cells, slots⟩ (Value.ref b :: argsL).toArray v B ∧
      ∀ target, Steps p.tables e below (B.U.setTop { g with pc := g.pc + 3, stack := v.toList ++ rest }) target → Steps p.tables e below (T.setTop g) target) ∨
    (∃ (q : Addr) (vm₁ : Vm) (B : Pt), s.WarmedH vm₁ ∧ Stand p l e R s m args below meth c B.U B.locs B.cells B.slots ∧ PostX ⟨T.setVm vm₁, locs, cells, slots⟩ (Value.ref b :: argsL).toArray q B ∧
      Steps p.tables e below (T.setTop g) ((B.U.setTop { g with stack := rest }).pushFrame (.throwing q))) := by
  obtain ⟨mk, methM, hnamed, hmethM, hstM, habM⟩ := Cond.instanceMethod_spec hinst
  obtain ⟨m8, methM', cM, hn8, hmethM', -, -, -, -, -, -, hsigM⟩ := Cond.codeWith_spec hcode
  cases Option.some.inj (hn8.symm.trans hnamed)
  cases hmethM.symm.trans hmethM'
  obtain ⟨c2, r2, m2, q1, q2, q3, q4, kP, hkP, hkPi⟩ := Cond.selects_spec hsel
  cases hcls.symm.trans q1
  cases (State.methodFound?_of_named hnamed hy).symm.trans q2
  cases hnamed.symm.trans q3
  have hselP : selectMethod e.platform s.vm cellB.cls mk = .method mk := by rw [Launch.admits_selectMethod X.admits]; exact q4
  obtain ⟨vm₁, X₁, hstep₁⟩ := X.invokevirtual hexec hown hlink hnamed hmethM hstM hkP hkPi hy (a := b) (cell := cellB) hcell
    (fun z h => by rw [h] at hobj; cases hobj) hselP hmethM habM hkP hkPi (g := g) hg (argsL := argsL) (rest := rest) (hlen _ hsigM) hstack hdg
  rcases hK m meth c ⟨T.setVm vm₁, locs, cells, slots⟩ { g with stack := rest } (.invokevirtual index) mk (Value.ref b :: argsL).toArray X₁ hg hsize hdg hW (X₁.named hnamed) (hpre vm₁ X₁.warmed) with ⟨v, B, X', hpost, hsteps⟩ | ⟨q, B, X', hpost, hsteps⟩
  · exact Or.inl ⟨v, vm₁, B, X₁.warmed, X', hpost, fun target h => hstep₁ _ fun acts => by rw [doInvoke_state]; exact hsteps.trans h⟩
  · exact Or.inr ⟨q, vm₁, B, X₁.warmed, X', hpost, hstep₁ _ fun acts => by rw [doInvoke_state]; exact hsteps⟩
theorem vx_callSX (X : Stand p l e R s m args below meth c T locs cells slots) (hexec : p.tables.exec = Jvm.exec) {own : String} {index : Nat} {y : MethodName} {bytes : ByteArray} {maxL : Nat} {ret : Option FieldType} {hh : List (Nat × Nat × Nat × Nat)}
    (hown : s.vm.findClass own = some m.cls) (hlink : (Cond.methodLink own index y).before args s = true) (hstat : (Cond.static y).before args s = true) (hinit : (Cond.initialized y.cls).before args s = true)
    (hcode : (Cond.codeWith y bytes maxL ret hh).before args s = true) (hy : y.cls ≠ "java/lang/invoke/MethodHandle" ∧ y.cls ≠ "java/lang/invoke/VarHandle")
    {W9 : Nat} {Pre : Pt → Array Value → Prop} {Post : Pt → Array Value → Option Value → Pt → Prop} {PostX : Pt → Array Value → Addr → Pt → Prop} (hK : vx_Back l R p e below s args y 3 W9 Pre Post PostX)
    {g : JFrame} (hg : g.method = m) (hsize : g.locals.size = c.maxLocals) {argsL rest : List Value} (hlen : ∀ sig, parseMethodDescriptor y.desc = some sig → argsL.length = sig.parameters.length)
    (hstack : g.stack = argsL.reverse ++ rest) (hW : 2 * g.monitorRoom + (rest.map fun v => v.category).sum ≤ W9) (hdg : decode c.code g.pc = .ok (.invokestatic index, 3))
    (hpre : ∀ vm₁, s.WarmedH vm₁ → Pre ⟨T.setVm vm₁, locs, cells, slots⟩ argsL.toArray) :
    (∃ (v : Option Value) (vm₁ : Vm) (B : Pt), s.WarmedH vm₁ ∧ Stand p l e R s m args below meth c B.U B.locs B.cells B.slots ∧ Post ⟨T.setVm vm₁, locs, cells, slots⟩ argsL.toArray v B ∧
      ∀ target, Steps p.tables e below (B.U.setTop { g with pc := g.pc + 3, stack := v.toList ++ rest }) target → Steps p.tables e below (T.setTop g) target) ∨
    (∃ (q : Addr) (vm₁ : Vm) (B : Pt), s.WarmedH vm₁ ∧ Stand p l e R s m args below meth c B.U B.locs B.cells B.slots ∧ PostX ⟨T.setVm vm₁, locs, cells, slots⟩ argsL.toArray q B ∧
      Steps p.tables e below (T.setTop g) ((B.U.setTop { g with stack := rest }).pushFrame (.throwing q))) := by
  obtain ⟨mk, methM, cM, hnamed, hmethM, -, -, -, -, -, -, hsigM⟩ := Cond.codeWith_spec hcode
  have hstatic : methM.isStatic = true := Cond.static_spec hnamed hmethM hstat
  obtain ⟨kP, hkP, -⟩ := className_of_methodNamed hnamed
  have hinitP : kP.init = .initialized := Cond.initialized_spec (findClass_of_methodNamed hnamed) hkP hinit
  obtain ⟨vm₁, X₁, hstep₁⟩ := X.invokestatic hexec hown hlink hnamed hmethM hstatic hkP hinitP hy (g := g) hg (argsL := argsL) (rest := rest) (hlen _ hsigM) hstack hdg
  rcases hK m meth c ⟨T.setVm vm₁, locs, cells, slots⟩ { g with stack := rest } (.invokestatic index) mk argsL.toArray X₁ hg hsize hdg hW (X₁.named hnamed) (hpre vm₁ X₁.warmed) with ⟨v, B, X', hpost, hsteps⟩ | ⟨q, B, X', hpost, hsteps⟩
  · exact Or.inl ⟨v, vm₁, B, X₁.warmed, X', hpost, fun target h => hstep₁ _ fun acts => by rw [doInvoke_state]; exact hsteps.trans h⟩
  · exact Or.inr ⟨q, vm₁, B, X₁.warmed, X', hpost, hstep₁ _ fun acts => by rw [doInvoke_state]; exact hsteps⟩
theorem vx_callVW (X : Stand p l e R s m args below meth c T locs cells slots) (hexec : p.tables.exec = Jvm.exec) {own C : String} {index : Nat} {y : MethodName} {bytes : ByteArray} {maxL : Nat} {ret : Option FieldType} {hh : List (Nat × Nat × Nat × Nat)}
    (hown : s.vm.findClass own = some m.cls) (hlink : (Cond.methodLink own index y).before args s = true) (hinst : (Cond.instanceMethod y).before args s = true) (hsel : (Cond.selects C y y).before args s = true)
    (hcode : (Cond.codeWith y bytes maxL ret hh).before args s = true) (hy : y.cls ≠ "java/lang/invoke/MethodHandle" ∧ y.cls ≠ "java/lang/invoke/VarHandle")
    {W9 : Nat} {Pre : Pt → Array Value → Prop} {Post : Pt → Array Value → Option Value → Pt → Prop} (hK : Back l R p e below s args y 3 W9 Pre Post)
    {b : Addr} {cellB : Cell} (hcell : T.heap[b]? = some cellB) (hobj : cellB.vm.isStatics = false) (hcls : s.vm.findClass C = some cellB.cls)
    {g : JFrame} (hg : g.method = m) (hsize : g.locals.size = c.maxLocals) {argsL rest : List Value} (hlen : ∀ sig, parseMethodDescriptor y.desc = some sig → argsL.length = sig.parameters.length)
    (hstack : g.stack = argsL.reverse ++ .ref b :: rest) (hW : 2 * g.monitorRoom + (rest.map fun v => v.category).sum ≤ W9) (hdg : decode c.code g.pc = .ok (.invokevirtual index, 3))
    (hpre : ∀ vm₁, s.WarmedH vm₁ → Pre ⟨T.setVm vm₁, locs, cells, slots⟩ (Value.ref b :: argsL).toArray) :
    ∃ (v : Option Value) (vm₁ : Vm) (B : Pt), s.WarmedH vm₁ ∧ Stand p l e R s m args below meth c B.U B.locs B.cells B.slots ∧ Post ⟨T.setVm vm₁, locs, cells, slots⟩ (Value.ref b :: argsL).toArray v B ∧
      ∀ target, Steps p.tables e below (B.U.setTop { g with pc := g.pc + 3, stack := v.toList ++ rest }) target → Steps p.tables e below (T.setTop g) target := by
  obtain ⟨mk, methM, hnamed, hmethM, hstM, habM⟩ := Cond.instanceMethod_spec hinst
  obtain ⟨m8, methM', cM, hn8, hmethM', -, -, -, -, -, -, hsigM⟩ := Cond.codeWith_spec hcode
  cases Option.some.inj (hn8.symm.trans hnamed)
  cases hmethM.symm.trans hmethM'
  obtain ⟨c2, r2, m2, q1, q2, q3, q4, kP, hkP, hkPi⟩ := Cond.selects_spec hsel
  cases hcls.symm.trans q1
  cases (State.methodFound?_of_named hnamed hy).symm.trans q2
  cases hnamed.symm.trans q3
  have hselP : selectMethod e.platform s.vm cellB.cls mk = .method mk := by rw [Launch.admits_selectMethod X.admits]; exact q4
  obtain ⟨vm₁, X₁, hstep₁⟩ := X.invokevirtual hexec hown hlink hnamed hmethM hstM hkP hkPi hy (a := b) (cell := cellB) hcell
    (fun z h => by rw [h] at hobj; cases hobj) hselP hmethM habM hkP hkPi (g := g) hg (argsL := argsL) (rest := rest) (hlen _ hsigM) hstack hdg
  obtain ⟨v, B, X', hpost, hsteps⟩ := hK m meth c ⟨T.setVm vm₁, locs, cells, slots⟩ { g with stack := rest } (.invokevirtual index) mk (Value.ref b :: argsL).toArray X₁ hg hsize hdg hW (X₁.named hnamed) (hpre vm₁ X₁.warmed)
  exact ⟨v, vm₁, B, X₁.warmed, X', hpost, fun target h => hstep₁ _ fun acts => by rw [doInvoke_state]; exact hsteps.trans h⟩
abbrev vx_CVW (R : Room) (s : State) (args : Array Value) (own C : String) (index : Nat) (y : MethodName) (bytes : ByteArray) (maxL : Nat) (ret : Option FieldType) (hh : List (Nat × Nat × Nat × Nat)) (ws : List Cond) (rm : Room) (mc ms n : Nat) : Prop :=
  (rm.cells = mc ∧ rm.slots = ms ∧ rm.frames + 1 ≤ R.frames ∧ 8 + (maxL + 11) + rm.locals ≤ R.locals ∧ (∀ w ∈ ws, ∀ (a' : Array Value) (U : State), s.WarmedH U.vm → w.before a' U = true) ∧ Cond.codeWith y bytes maxL ret hh ∈ ws) ∧
  (Cond.codeWith y bytes maxL ret hh).before args s = true ∧ (Cond.initialized y.cls).before args s = true ∧ (y.cls ≠ "java/lang/invoke/MethodHandle" ∧ y.cls ≠ "java/lang/invoke/VarHandle") ∧
  (∀ sig, parseMethodDescriptor y.desc = some sig → n = sig.parameters.length) ∧ (Cond.methodLink own index y).before args s = true ∧ (Cond.instanceMethod y).before args s = true ∧ (Cond.selects C y y).before args s = true
theorem vx_cwVW {own C : String} {index maxL mc ms : Nat} {y : MethodName} {bytes : ByteArray} {ret : Option FieldType} {hh : List (Nat × Nat × Nat × Nat)} {Ts ws ws' : List Cond} {rm : Room} (n : Nat) (ht : ∀ w ∈ Ts, w.before args s = true) (hT : GoodIn Ts (wsV own index C y ws)) (hw : ws = Cond.codeWith y bytes maxL ret hh :: ws') (hrc : rm.cells = mc) (hrs : rm.slots = ms)
    (hd : y.cls = C ∧ y.cls ≠ "java/lang/invoke/MethodHandle" ∧ y.cls ≠ "java/lang/invoke/VarHandle" ∧ (parseMethodDescriptor y.desc).map (fun d => d.parameters.length) = some n) (hR : rm.frames + 1 ≤ R.frames ∧ 8 + (maxL + 11) + rm.locals ≤ R.locals) :
    vx_CVW R s args own C index y bytes maxL ret hh ws rm mc ms n := by
  obtain ⟨hC, hd⟩ := hd
  subst hC
  have ok : ∀ w ∈ wsV own index y.cls y ws, w.before args s = true := fun w h => ht w (hT w h).1
  have hG : GoodIn Ts ws := fun w h => hT w (by unfold wsV; exact List.mem_append_right _ h)
  have hc : Cond.codeWith y bytes maxL ret hh ∈ ws := by rw [hw]; exact List.mem_cons_self
  refine ⟨⟨hrc, hrs, hR.1, hR.2, pay_in ht hG, hc⟩, ht _ (hG _ hc).1, ok _ (by simp [wsV]), ⟨hd.1, hd.2.1⟩, fun sig h => ?_, ok _ (by simp [wsV]), ok _ (by simp [wsV]), ok _ (by simp [wsV])⟩
  have h2 := hd.2.2
  rw [h] at h2
  exact (Option.some.inj h2).symm
theorem vx_runVW {y : MethodName} {bytes cc : ByteArray} {maxL nL mc ms n index : Nat} {ret : Option FieldType} {hh : List (Nat × Nat × Nat × Nat)} {ws : List Cond} {rm : Room} {Pc : Array Value → State → Prop} {Qc : Array Value → State → Outcome → State → Prop} {free : Addr → Prop} {Ts : List Cond} {own C : String} {b : Addr} {As rest : List Value} {g : JFrame}
    (S : CallFix p m c cc nL s args Ts own) (hM : Met l y ws rm Pc Qc mc ms free) (cw : vx_CVW R s args own C index y bytes maxL ret hh ws rm mc ms n) (hp : PreV s H C b Pc As)
    (hg : g.method = m) (hn : As.length = n) (hsize : g.locals.size = nL) (hstack : g.stack = As.reverse ++ .ref b :: rest) (hW : 2 * g.monitorRoom + (rest.map fun v => v.category).sum ≤ 8) (hdg : decode cc g.pc = .ok (.invokevirtual index, 3)) (hf : cells + mc ≤ R.cells ∧ slots + ms ≤ R.slots) :
    va_Run p l e R s m args below meth c H locs cells slots mc ms g rest (Qc (Value.ref b :: As).toArray) free := by
  obtain ⟨⟨hrc, hrs, hfr, hlo, hws, hcw⟩, hcode, hini, hy, hlen, hl, hin, hse⟩ := cw
  have hK : Back l R p e below s args y 3 8 (PreOf R mc ms Pc) (PostOf Qc mc ms free) := va_backW (hh := hh) (bytes := bytes) (maxL := maxL) (ret := ret) hM hp.1 hrc hrs hfr hlo hws hcw (fun a' U hW => word_at hW (Or.inl (by first | rfl | simp [Cond.onTables, Cond.keeps, Cond.steady])) hini)
  obtain ⟨hx, hb, hml, ho, -⟩ := S
  obtain ⟨-, ⟨cellB, hcB, hoB, hclB⟩, hPc⟩ := hp
  intro T hT X
  obtain ⟨v, vm₁, ⟨U', l2, c2, s2⟩, hW₁, X', ⟨g', mk, t, L, e1, e2, hq, h1, hL, h2, h3⟩, st⟩ := vx_callVW X hx (C := C) (hh := hh) (bytes := bytes) (maxL := maxL) (ret := ret) ho hl hin hse hcode hy hK (by rw [hT]; exact hcB) hoB hclB hg (hsize.trans hml.symm) (argsL := As) (rest := rest) (fun sig h => hn.trans (hlen sig h)) hstack hW (by rw [hb]; exact hdg)
    (fun vm₁ hW₁ => ⟨hf.1, hf.2, hPc (T.setVm vm₁) hT hW₁⟩)
  dsimp only [Pt.U, Pt.locs, Pt.cells, Pt.slots] at X' e1 e2 h1 h2 h3 st
  subst h1; subst h2; subst h3
  exact ⟨v, (T.setVm vm₁).calling g' mk (Value.ref b :: As).toArray, t, U', L, hT, X', hL, e1, e2, hq, st⟩
section
variable {y : MethodName} {bytes cc : ByteArray} {maxL nL mc ms n index : Nat} {ret : Option FieldType} {ws : List Cond} {rm : Room} {Pc : Array Value → State → Prop} {Qc : Array Value → State → Outcome → State → Prop} {XC : String → State → State → Prop} {free : Addr → Prop} {Ts : List Cond} {own C : String} {b : Addr} {As rest : List Value} {g : JFrame}
theorem vx_runVX {hh : List (Nat × Nat × Nat × Nat)} (S : CallFix p m c cc nL s args Ts own) (hM : vx_Met l y ws rm Pc Qc XC mc ms free) (cw : vx_CVW R s args own C index y bytes maxL ret hh ws rm mc ms n) (hp : PreV s H C b Pc As)
    (hg : g.method = m) (hn : As.length = n) (hsize : g.locals.size = nL) (hstack : g.stack = As.reverse ++ .ref b :: rest) (hW : 2 * g.monitorRoom + (rest.map fun v => v.category).sum ≤ 8) (hdg : decode cc g.pc = .ok (.invokevirtual index, 3)) (hf : cells + mc ≤ R.cells ∧ slots + ms ≤ R.slots) :
    vx_Run p l e R s m args below meth c H locs cells slots mc ms g rest (Qc (Value.ref b :: As).toArray) XC free := by
  obtain ⟨⟨hrc, hrs, hfr, hlo, hws, hcw⟩, hcode, hini, hy, hlen, hl, hin, hse⟩ := cw
  have hK : vx_Back l R p e below s args y 3 8 (PreOf R mc ms Pc) (PostOf Qc mc ms free) (vx_Post XC mc ms free) := vx_backW (hh := hh) (bytes := bytes) (maxL := maxL) (ret := ret) hM hp.1 hrc hrs hfr hlo hws hcw (fun a' U hW => word_at hW (Or.inl (by first | rfl | simp [Cond.onTables, Cond.keeps, Cond.steady])) hini)
  obtain ⟨hx, hb, hml, ho, -⟩ := S
  obtain ⟨-, ⟨cellB, hcB, hoB, hclB⟩, hPc⟩ := hp
  intro T hT X
  rcases vx_callVX X hx (C := C) (hh := hh) (bytes := bytes) (maxL := maxL) (ret := ret) ho hl hin hse hcode hy hK (by rw [hT]; exact hcB) hoB hclB hg (hsize.trans hml.symm) (argsL := As) (rest := rest) (fun sig h => hn.trans (hlen sig h)) hstack hW (by rw [hb]; exact hdg)
    (fun vm₁ hW₁ => ⟨hf.1, hf.2, hPc (T.setVm vm₁) hT hW₁⟩) with ⟨v, vm₁, ⟨U', l2, c2, s2⟩, hW₁, X', ⟨g', mk, t, L, e1, e2, hq, h1, hL, h2, h3⟩, st⟩ | ⟨q, vm₁, ⟨U', l2, c2, s2⟩, hW₁, X', ⟨g', mk, t, L, E, ce, e1, e2, hq, hce, hcv, hcl, h1, hL, h2, h3⟩, st⟩
  · dsimp only [Pt.U, Pt.locs, Pt.cells, Pt.slots] at X' e1 e2 h1 h2 h3 st
    subst h1; subst h2; subst h3
    exact Or.inl ⟨v, (T.setVm vm₁).calling g' mk (Value.ref b :: As).toArray, t, U', L, hT, X', hL, e1, e2, hq, st⟩
  · dsimp only [Pt.U, Pt.locs, Pt.cells, Pt.slots] at X' e1 e2 h1 h2 h3 st hcl
    subst h1; subst h2; subst h3
    exact Or.inr ⟨q, (T.setVm vm₁).calling g' mk (Value.ref b :: As).toArray, t, U', L, E, ce, hT, X', hL, e1, e2, hq, hce, hcv, vx_cls hW₁ hcl, st⟩
theorem vx_runSX {hh : List (Nat × Nat × Nat × Nat)} (S : CallFix p m c cc nL s args Ts own) (hM : vx_Met l y ws rm Pc Qc XC mc ms free) (cw : vx_CSW R s args own index y bytes maxL ret hh ws rm mc ms n) (hp : PreS s H Pc As)
    (hg : g.method = m) (hn : As.length = n) (hsize : g.locals.size = nL) (hstack : g.stack = As.reverse ++ rest) (hW : 2 * g.monitorRoom + (rest.map fun v => v.category).sum ≤ 8) (hdg : decode cc g.pc = .ok (.invokestatic index, 3)) (hf : cells + mc ≤ R.cells ∧ slots + ms ≤ R.slots) :
    vx_Run p l e R s m args below meth c H locs cells slots mc ms g rest (Qc As.toArray) XC free := by
  obtain ⟨⟨hrc, hrs, hfr, hlo, hws, hcw⟩, hcode, hini, hy, hlen, hl, hstt⟩ := cw
  have hK : vx_Back l R p e below s args y 3 8 (PreOf R mc ms Pc) (PostOf Qc mc ms free) (vx_Post XC mc ms free) := vx_backW (hh := hh) (bytes := bytes) (maxL := maxL) (ret := ret) hM hp.1 hrc hrs hfr hlo hws hcw (fun a' U hW => word_at hW (Or.inl (by first | rfl | simp [Cond.onTables, Cond.keeps, Cond.steady])) hini)
  obtain ⟨hx, hb, hml, ho, -⟩ := S
  intro T hT X
  rcases vx_callSX X hx (hh := hh) (bytes := bytes) (maxL := maxL) (ret := ret) ho hl hstt hini hcode hy hK hg (hsize.trans hml.symm) (argsL := As) (rest := rest) (fun sig h => hn.trans (hlen sig h)) hstack hW (by rw [hb]; exact hdg)
    (fun vm₁ hW₁ => ⟨hf.1, hf.2, hp.2 (T.setVm vm₁) hT hW₁⟩) with ⟨v, vm₁, ⟨U', l2, c2, s2⟩, hW₁, X', ⟨g', mk, t, L, e1, e2, hq, h1, hL, h2, h3⟩, st⟩ | ⟨q, vm₁, ⟨U', l2, c2, s2⟩, hW₁, X', ⟨g', mk, t, L, E, ce, e1, e2, hq, hce, hcv, hcl, h1, hL, h2, h3⟩, st⟩
  · dsimp only [Pt.U, Pt.locs, Pt.cells, Pt.slots] at X' e1 e2 h1 h2 h3 st
    subst h1; subst h2; subst h3
    exact Or.inl ⟨v, (T.setVm vm₁).calling g' mk As.toArray, t, U', L, hT, X', hL, e1, e2, hq, st⟩
  · dsimp only [Pt.U, Pt.locs, Pt.cells, Pt.slots] at X' e1 e2 h1 h2 h3 st hcl
    subst h1; subst h2; subst h3
    exact Or.inr ⟨q, (T.setVm vm₁).calling g' mk As.toArray, t, U', L, E, ce, hT, X', hL, e1, e2, hq, hce, hcv, vx_cls hW₁ hcl, st⟩
end
end VXH
theorem vx_ofWH {l : Launch} {y : MethodName} {ws ws' : List Cond} {rm : Room} {Pc : Array Value → State → Prop} {Qc : Array Value → State → Outcome → State → Prop} {XC : String → State → State → Prop} {mc ms : Nat} {free : Addr → Prop} {cc : ByteArray} {maxL : Nat} {ret : Option FieldType} {hh : List (Nat × Nat × Nat × Nat)}
    (hy : plainName y.cls = true) (hw : ws = Cond.codeWith y cc maxL ret hh :: ws')
    (body : ∀ p e s m args below meth c s₁, BodyLoose p l y (headSpec ws rm) cc maxL ret e s m args below meth c s₁ → c.maxLocals = maxL → Pc args s →
      W p l e (headSpec ws rm).room s m args below meth c s.heap [] 0 0 (vx_MQ below Qc XC args s mc ms free) (entryFrame m args maxL)) : vx_Met l y ws rm Pc Qc XC mc ms free := by
  refine MetFree.of_bodyS (code := cc) (maxLocals := maxL) (ret := ret) hy ?_ ?_
  · intro args s m h hn
    obtain ⟨m9, meth, c, hn9, h1, h2, h3, h4, -, h5, h6, -⟩ := Cond.codeWith_spec (atoms_spec (ws := ws) h _ (by rw [hw]; exact List.mem_cons_self))
    cases hn.symm.trans hn9
    exact ⟨meth, c, h1, h2, h3, h4, h5, h6⟩
  · intro p e s m args below meth c s₁ B hml hP _
    have hh0 : s₁.heap = s.heap := by rw [B.state]; rfl
    obtain ⟨t, a1, o, b1, b2, b3⟩ := body p e s m args below meth c s₁ B hml hP s₁ hh0 (Stand.of_body B)
    exact ⟨t, o, a1, b1, b2, b3⟩
/-! ===== END ===== -/
end
section
/-! ===== BEGIN printed: names, fields, word lists, decode rows ===== -/
def RX0 : String := "RentHarmony$Bids"
def TX0 : u_T := fun k => match k with
  | 0 => ("RentHarmony$Bids", "coins", "[I", true)
  | _ => ("RentHarmony$Bids", "size", "I", false)
def tyX0 : Nat → FieldType := fun k => match k with
  | 0 => .array .int
  | _ => .int
abbrev wsX00 : List Cond := u_ws RX0 TX0 2
theorem nmX0 : ∀ a, a < 2 → ∀ b, b < 2 → a ≠ b → (TX0 a).2.1 ≠ (TX0 b).2.1 := by decide +kernel
theorem tyX0_ok : ∀ k, k < 2 → parseFieldDescriptor (TX0 k).2.2.1 = some (tyX0 k) := by decide +kernel
abbrev cX0_init : ByteArray := prog_2_method_1_code
def yX0_init : MethodName := ⟨RX0, "<init>", "()V"⟩
abbrev cX0_size : ByteArray := prog_2_method_2_code
def yX0_size : MethodName := ⟨RX0, "size", "()I"⟩
abbrev cX0_has : ByteArray := prog_2_method_3_code
def yX0_has : MethodName := ⟨RX0, "has", "(I)Z"⟩
abbrev cX0_of : ByteArray := prog_2_method_4_code
def yX0_of : MethodName := ⟨RX0, "of", "(II)I"⟩
abbrev cX0_set : ByteArray := prog_2_method_5_code
def yX0_set : MethodName := ⟨RX0, "set", "(III)V"⟩
abbrev cX0_copy : ByteArray := prog_2_method_6_code
def yX0_copy : MethodName := ⟨RX0, "copy", "(LRentHarmony$Bids;)V"⟩
abbrev cX0_grow : ByteArray := prog_2_method_7_code
def yX0_grow : MethodName := ⟨RX0, "grow", "()V"⟩
abbrev cX0_shrink : ByteArray := prog_2_method_8_code
def yX0_shrink : MethodName := ⟨RX0, "shrink", "(II)V"⟩
def RX1 : String := "RentHarmony$Giving"
def TX1 : u_T := fun k => match k with
  | 0 => ("RentHarmony$Giving", "bestOfRest", "[I", true)
  | 1 => ("RentHarmony$Giving", "waysOfRest", "[I", true)
  | _ => ("RentHarmony$Giving", "rooms", "[I", true)
def tyX1 : Nat → FieldType := fun k => match k with
  | 0 => .array .int
  | 1 => .array .int
  | _ => .array .int
abbrev wsX10 : List Cond := u_ws RX1 TX1 3
theorem nmX1 : ∀ a, a < 3 → ∀ b, b < 3 → a ≠ b → (TX1 a).2.1 ≠ (TX1 b).2.1 := by decide +kernel
theorem tyX1_ok : ∀ k, k < 3 → parseFieldDescriptor (TX1 k).2.2.1 = some (tyX1 k) := by decide +kernel
abbrev cX1_init : ByteArray := prog_3_method_1_code
def yX1_init : MethodName := ⟨RX1, "<init>", "()V"⟩
abbrev cX1_worth : ByteArray := prog_3_method_2_code
def yX1_worth : MethodName := ⟨RX1, "worth", "()I"⟩
abbrev cX1_ways : ByteArray := prog_3_method_3_code
def yX1_ways : MethodName := ⟨RX1, "ways", "()I"⟩
abbrev cX1_roomOf : ByteArray := prog_3_method_4_code
def yX1_roomOf : MethodName := ⟨RX1, "roomOf", "(I)I"⟩
abbrev cX1_choose : ByteArray := prog_3_method_5_code
def yX1_choose : MethodName := ⟨RX1, "choose", "(LRentHarmony$Bids;)V"⟩
abbrev cX1_weigh : ByteArray := prog_3_method_6_code
def yX1_weigh : MethodName := ⟨RX1, "weigh", "(LRentHarmony$Bids;I)V"⟩
abbrev cX1_firstBestRoom : ByteArray := prog_3_method_7_code
def yX1_firstBestRoom : MethodName := ⟨RX1, "firstBestRoom", "(LRentHarmony$Bids;II)I"⟩
def RX2 : String := "RentHarmony"
def TX2 : u_T := fun k => match k with
  | 0 => ("RentHarmony", "bids", "LRentHarmony$Bids;", true)
  | 1 => ("RentHarmony", "giving", "LRentHarmony$Giving;", true)
  | 2 => ("RentHarmony", "triedBids", "LRentHarmony$Bids;", true)
  | 3 => ("RentHarmony", "triedGiving", "LRentHarmony$Giving;", true)
  | 4 => ("RentHarmony", "firstRebates", "[I", true)
  | 5 => ("RentHarmony", "chains", "[I", true)
  | 6 => ("RentHarmony", "rentCoins", "I", false)
  | 7 => ("RentHarmony", "share", "I", false)
  | _ => ("RentHarmony", "pot", "I", false)
def tyX2 : Nat → FieldType := fun k => match k with
  | 0 => .object "RentHarmony$Bids"
  | 1 => .object "RentHarmony$Giving"
  | 2 => .object "RentHarmony$Bids"
  | 3 => .object "RentHarmony$Giving"
  | 4 => .array .int
  | 5 => .array .int
  | 6 => .int
  | 7 => .int
  | _ => .int
abbrev wsX20 : List Cond := u_ws RX2 TX2 9
theorem nmX2 : ∀ a, a < 9 → ∀ b, b < 9 → a ≠ b → (TX2 a).2.1 ≠ (TX2 b).2.1 := by decide +kernel
theorem tyX2_ok : ∀ k, k < 9 → parseFieldDescriptor (TX2 k).2.2.1 = some (tyX2 k) := by decide +kernel
abbrev cX2_init : ByteArray := prog_1_method_1_code
def yX2_init : MethodName := ⟨RX2, "<init>", "()V"⟩
abbrev cX2_come : ByteArray := prog_1_method_2_code
def yX2_come : MethodName := ⟨RX2, "come", "()I"⟩
abbrev cX2_bid : ByteArray := prog_1_method_3_code
def yX2_bid : MethodName := ⟨RX2, "bid", "(III)I"⟩
abbrev cX2_rent : ByteArray := prog_1_method_4_code
def yX2_rent : MethodName := ⟨RX2, "rent", "(I)I"⟩
abbrev cX2_leave : ByteArray := prog_1_method_5_code
def yX2_leave : MethodName := ⟨RX2, "leave", "(I)I"⟩
abbrev cX2_told : ByteArray := prog_1_method_6_code
def yX2_told : MethodName := ⟨RX2, "told", "(II)I"⟩
abbrev cX2_offer : ByteArray := prog_1_method_7_code
def yX2_offer : MethodName := ⟨RX2, "offer", "(II)I"⟩
abbrev cX2_count : ByteArray := prog_1_method_8_code
def yX2_count : MethodName := ⟨RX2, "count", "(I)I"⟩
abbrev cX2_envies : ByteArray := prog_1_method_9_code
def yX2_envies : MethodName := ⟨RX2, "envies", "(II)Z"⟩
abbrev cX2_gap : ByteArray := prog_1_method_10_code
def yX2_gap : MethodName := ⟨RX2, "gap", "(II)I"⟩
abbrev cX2_chain : ByteArray := prog_1_method_11_code
def yX2_chain : MethodName := ⟨RX2, "chain", "()I"⟩
abbrev cX2_would : ByteArray := prog_1_method_12_code
def yX2_would : MethodName := ⟨RX2, "would", "(III)I"⟩
abbrev cX2_needs : ByteArray := prog_1_method_13_code
def yX2_needs : MethodName := ⟨RX2, "needs", "(II)I"⟩
abbrev cX2_without : ByteArray := prog_1_method_14_code
def yX2_without : MethodName := ⟨RX2, "without", "(I)I"⟩
abbrev cX2_mean : ByteArray := prog_1_method_15_code
def yX2_mean : MethodName := ⟨RX2, "mean", "()D"⟩
abbrev cX2_digest : ByteArray := prog_1_method_16_code
def yX2_digest : MethodName := ⟨RX2, "digest", "()J"⟩
abbrev cX2_fact : ByteArray := prog_1_method_17_code
def yX2_fact : MethodName := ⟨RX2, "fact", "(II)I"⟩
abbrev cX2_total : ByteArray := prog_1_method_18_code
def yX2_total : MethodName := ⟨RX2, "total", "(I)I"⟩
abbrev cX2_ownBidOf : ByteArray := prog_1_method_19_code
def yX2_ownBidOf : MethodName := ⟨RX2, "ownBidOf", "(I)I"⟩
abbrev cX2_firstRebateOf : ByteArray := prog_1_method_20_code
def yX2_firstRebateOf : MethodName := ⟨RX2, "firstRebateOf", "(I)I"⟩
abbrev cX2_rebateOf : ByteArray := prog_1_method_21_code
def yX2_rebateOf : MethodName := ⟨RX2, "rebateOf", "(I)I"⟩
abbrev cX2_payOf : ByteArray := prog_1_method_22_code
def yX2_payOf : MethodName := ⟨RX2, "payOf", "(I)I"⟩
abbrev cX2_allFirstRebates : ByteArray := prog_1_method_23_code
def yX2_allFirstRebates : MethodName := ⟨RX2, "allFirstRebates", "()I"⟩
abbrev cX2_allPays : ByteArray := prog_1_method_24_code
def yX2_allPays : MethodName := ⟨RX2, "allPays", "()I"⟩
abbrev cX2_wouldEnvy : ByteArray := prog_1_method_25_code
def yX2_wouldEnvy : MethodName := ⟨RX2, "wouldEnvy", "(II)Z"⟩
abbrev cX2_enviedBy : ByteArray := prog_1_method_26_code
def yX2_enviedBy : MethodName := ⟨RX2, "enviedBy", "(I)I"⟩
abbrev cX2_longestChainFrom : ByteArray := prog_1_method_27_code
def yX2_longestChainFrom : MethodName := ⟨RX2, "longestChainFrom", "(I)I"⟩
abbrev cX2_roomTried : ByteArray := prog_1_method_28_code
def yX2_roomTried : MethodName := ⟨RX2, "roomTried", "(III)I"⟩
abbrev cX2_settleAll : ByteArray := prog_1_method_29_code
def yX2_settleAll : MethodName := ⟨RX2, "settleAll", "()V"⟩
abbrev cX2_settleFirstRebates : ByteArray := prog_1_method_30_code
def yX2_settleFirstRebates : MethodName := ⟨RX2, "settleFirstRebates", "()V"⟩
abbrev cX2_bestOfAllRooms : ByteArray := prog_1_method_31_code
def yX2_bestOfAllRooms : MethodName := ⟨RX2, "bestOfAllRooms", "(I)I"⟩
abbrev cX2_settleLeftOver : ByteArray := prog_1_method_32_code
def yX2_settleLeftOver : MethodName := ⟨RX2, "settleLeftOver", "()V"⟩
def RX3 : String := "RentHarmonyModel"
def TX3 : u_T := fun k => match k with
  | 0 => ("RentHarmonyModel", "thrown", "I", false)
  | 1 => ("RentHarmonyModel", "lodgers", "I", false)
  | 2 => ("RentHarmonyModel", "rent", "I", false)
  | 3 => ("RentHarmonyModel", "bids", "[I", true)
  | 4 => ("RentHarmonyModel", "rooms", "[I", true)
  | 5 => ("RentHarmonyModel", "early", "[I", true)
  | 6 => ("RentHarmonyModel", "rebates", "[I", true)
  | 7 => ("RentHarmonyModel", "worth", "I", false)
  | 8 => ("RentHarmonyModel", "ways", "I", false)
  | 9 => ("RentHarmonyModel", "pot", "I", false)
  | 10 => ("RentHarmonyModel", "tried", "[I", true)
  | 11 => ("RentHarmonyModel", "free", "I", false)
  | 12 => ("RentHarmonyModel", "who", "I", false)
  | 13 => ("RentHarmonyModel", "which", "I", false)
  | _ => ("RentHarmonyModel", "must", "Z", false)
def tyX3 : Nat → FieldType := fun k => match k with
  | 0 => .int
  | 1 => .int
  | 2 => .int
  | 3 => .array .int
  | 4 => .array .int
  | 5 => .array .int
  | 6 => .array .int
  | 7 => .int
  | 8 => .int
  | 9 => .int
  | 10 => .array .int
  | 11 => .int
  | 12 => .int
  | 13 => .int
  | _ => .boolean
abbrev wsX30 : List Cond := u_ws RX3 TX3 15
theorem nmX3 : ∀ a, a < 15 → ∀ b, b < 15 → a ≠ b → (TX3 a).2.1 ≠ (TX3 b).2.1 := by decide +kernel
theorem tyX3_ok : ∀ k, k < 15 → parseFieldDescriptor (TX3 k).2.2.1 = some (tyX3 k) := by decide +kernel
abbrev cX3_init : ByteArray := prog_5_method_1_code
def yX3_init : MethodName := ⟨RX3, "<init>", "()V"⟩
abbrev cX3_thrown : ByteArray := prog_5_method_2_code
def yX3_thrown : MethodName := ⟨RX3, "thrown", "()I"⟩
abbrev cX3_fail : ByteArray := prog_5_method_3_code
def yX3_fail : MethodName := ⟨RX3, "fail", "(I)I"⟩
abbrev cX3_isIn : ByteArray := prog_5_method_4_code
def yX3_isIn : MethodName := ⟨RX3, "isIn", "(III)Z"⟩
abbrev cX3_isOne : ByteArray := prog_5_method_5_code
def yX3_isOne : MethodName := ⟨RX3, "isOne", "(I)Z"⟩
abbrev cX3_bi : ByteArray := prog_5_method_6_code
def yX3_bi : MethodName := ⟨RX3, "bi", "(II)I"⟩
abbrev cX3_come : ByteArray := prog_5_method_7_code
def yX3_come : MethodName := ⟨RX3, "come", "()I"⟩
abbrev cX3_bid : ByteArray := prog_5_method_8_code
def yX3_bid : MethodName := ⟨RX3, "bid", "(III)I"⟩
abbrev cX3_rent : ByteArray := prog_5_method_9_code
def yX3_rent : MethodName := ⟨RX3, "rent", "(I)I"⟩
abbrev cX3_isTaken : ByteArray := prog_5_method_10_code
def yX3_isTaken : MethodName := ⟨RX3, "isTaken", "(II)Z"⟩
abbrev cX3_tryFrom : ByteArray := prog_5_method_11_code
def yX3_tryFrom : MethodName := ⟨RX3, "tryFrom", "(II)V"⟩
abbrev cX3_give : ByteArray := prog_5_method_12_code
def yX3_give : MethodName := ⟨RX3, "give", "()I"⟩
abbrev cX3_of : ByteArray := prog_5_method_13_code
def yX3_of : MethodName := ⟨RX3, "of", "(II)I"⟩
abbrev cX3_isRaised : ByteArray := prog_5_method_14_code
def yX3_isRaised : MethodName := ⟨RX3, "isRaised", "()Z"⟩
abbrev cX3_settle : ByteArray := prog_5_method_15_code
def yX3_settle : MethodName := ⟨RX3, "settle", "()V"⟩
abbrev cX3_pays : ByteArray := prog_5_method_16_code
def yX3_pays : MethodName := ⟨RX3, "pays", "(I)I"⟩
abbrev cX3_isEnvy : ByteArray := prog_5_method_17_code
def yX3_isEnvy : MethodName := ⟨RX3, "isEnvy", "(II)Z"⟩
abbrev cX3_leave : ByteArray := prog_5_method_18_code
def yX3_leave : MethodName := ⟨RX3, "leave", "(I)I"⟩
abbrev cX3_toldOf : ByteArray := prog_5_method_19_code
def yX3_toldOf : MethodName := ⟨RX3, "toldOf", "(II)I"⟩
abbrev cX3_told : ByteArray := prog_5_method_20_code
def yX3_told : MethodName := ⟨RX3, "told", "(II)I"⟩
abbrev cX3_offer : ByteArray := prog_5_method_21_code
def yX3_offer : MethodName := ⟨RX3, "offer", "(II)I"⟩
abbrev cX3_counted : ByteArray := prog_5_method_22_code
def yX3_counted : MethodName := ⟨RX3, "counted", "(I)I"⟩
abbrev cX3_count : ByteArray := prog_5_method_23_code
def yX3_count : MethodName := ⟨RX3, "count", "(I)I"⟩
abbrev cX3_envies : ByteArray := prog_5_method_24_code
def yX3_envies : MethodName := ⟨RX3, "envies", "(II)Z"⟩
abbrev cX3_gap : ByteArray := prog_5_method_25_code
def yX3_gap : MethodName := ⟨RX3, "gap", "(II)I"⟩
abbrev cX3_chainFrom : ByteArray := prog_5_method_26_code
def yX3_chainFrom : MethodName := ⟨RX3, "chainFrom", "(I)I"⟩
abbrev cX3_chain : ByteArray := prog_5_method_27_code
def yX3_chain : MethodName := ⟨RX3, "chain", "()I"⟩
abbrev cX3_roomWith : ByteArray := prog_5_method_28_code
def yX3_roomWith : MethodName := ⟨RX3, "roomWith", "(III)I"⟩
abbrev cX3_would : ByteArray := prog_5_method_29_code
def yX3_would : MethodName := ⟨RX3, "would", "(III)I"⟩
abbrev cX3_worthWith : ByteArray := prog_5_method_30_code
def yX3_worthWith : MethodName := ⟨RX3, "worthWith", "(IIZZ)I"⟩
abbrev cX3_needs : ByteArray := prog_5_method_31_code
def yX3_needs : MethodName := ⟨RX3, "needs", "(II)I"⟩
abbrev cX3_without : ByteArray := prog_5_method_32_code
def yX3_without : MethodName := ⟨RX3, "without", "(I)I"⟩
abbrev cX3_mean : ByteArray := prog_5_method_33_code
def yX3_mean : MethodName := ⟨RX3, "mean", "()D"⟩
abbrev cX3_digest : ByteArray := prog_5_method_34_code
def yX3_digest : MethodName := ⟨RX3, "digest", "()J"⟩
def RJ6 : String := "java/lang/Integer"
def TJ6 : u_T := fun k => match k with
  | _ => ("", "", "", false)
def tyJ6 : Nat → FieldType := fun k => match k with
  | _ => .int
abbrev wsJ60 : List Cond := u_ws RJ6 TJ6 0
theorem nmJ6 : ∀ a, a < 0 → ∀ b, b < 0 → a ≠ b → (TJ6 a).2.1 ≠ (TJ6 b).2.1 := by decide +kernel
theorem tyJ6_ok : ∀ k, k < 0 → parseFieldDescriptor (TJ6 k).2.2.1 = some (tyJ6 k) := by decide +kernel
abbrev cJ6_bitCount_0f7a4 : ByteArray := prog_10_method_49_code
def yJ6_bitCount_0f7a4 : MethodName := ⟨RJ6, "bitCount", "(I)I"⟩
def RJ9 : String := "java/lang/Math"
def TJ9 : u_T := fun k => match k with
  | _ => ("", "", "", false)
def tyJ9 : Nat → FieldType := fun k => match k with
  | _ => .int
abbrev wsJ90 : List Cond := u_ws RJ9 TJ9 0
theorem nmJ9 : ∀ a, a < 0 → ∀ b, b < 0 → a ≠ b → (TJ9 a).2.1 ≠ (TJ9 b).2.1 := by decide +kernel
theorem tyJ9_ok : ∀ k, k < 0 → parseFieldDescriptor (TJ9 k).2.2.1 = some (tyJ9 k) := by decide +kernel
abbrev cJ9_max_7cf53 : ByteArray := prog_11_method_65_code
def yJ9_max_7cf53 : MethodName := ⟨RJ9, "max", "(II)I"⟩
abbrev cJ9_min_7cf53 : ByteArray := prog_11_method_69_code
def yJ9_min_7cf53 : MethodName := ⟨RJ9, "min", "(II)I"⟩
def RJ0 : String := "java/lang/String"
def TJ0 : u_T := fun k => match k with
  | _ => ("", "", "", false)
def tyJ0 : Nat → FieldType := fun k => match k with
  | _ => .int
abbrev wsJ00 : List Cond := u_ws RJ0 TJ0 0
theorem nmJ0 : ∀ a, a < 0 → ∀ b, b < 0 → a ≠ b → (TJ0 a).2.1 ≠ (TJ0 b).2.1 := by decide +kernel
theorem tyJ0_ok : ∀ k, k < 0 → parseFieldDescriptor (TJ0 k).2.2.1 = some (tyJ0 k) := by decide +kernel
def RJ10 : String := "java/lang/System"
def TJ10 : u_T := fun k => match k with
  | _ => ("", "", "", false)
def tyJ10 : Nat → FieldType := fun k => match k with
  | _ => .int
abbrev wsJ100 : List Cond := u_ws RJ10 TJ10 0
theorem nmJ10 : ∀ a, a < 0 → ∀ b, b < 0 → a ≠ b → (TJ10 a).2.1 ≠ (TJ10 b).2.1 := by decide +kernel
theorem tyJ10_ok : ∀ k, k < 0 → parseFieldDescriptor (TJ10 k).2.2.1 = some (tyJ10 k) := by decide +kernel
def RL : String := "RentHarmonyLaw"
abbrev cL_come : ByteArray := method_3_code
def yL_come : MethodName := ⟨RL, "come", "(LRentHarmony;[J)I"⟩
abbrev cL_bid : ByteArray := method_4_code
def yL_bid : MethodName := ⟨RL, "bid", "(LRentHarmony;III[J)I"⟩
abbrev cL_rent : ByteArray := method_5_code
def yL_rent : MethodName := ⟨RL, "rent", "(LRentHarmony;I[J)I"⟩
abbrev cL_leave : ByteArray := method_6_code
def yL_leave : MethodName := ⟨RL, "leave", "(LRentHarmony;I[J)I"⟩
abbrev cL_told : ByteArray := method_7_code
def yL_told : MethodName := ⟨RL, "told", "(LRentHarmony;II[J)I"⟩
abbrev cL_offer : ByteArray := method_8_code
def yL_offer : MethodName := ⟨RL, "offer", "(LRentHarmony;II[J)I"⟩
abbrev cL_count : ByteArray := method_9_code
def yL_count : MethodName := ⟨RL, "count", "(LRentHarmony;I[J)I"⟩
abbrev cL_envies : ByteArray := method_10_code
def yL_envies : MethodName := ⟨RL, "envies", "(LRentHarmony;II[J)I"⟩
abbrev cL_gap : ByteArray := method_11_code
def yL_gap : MethodName := ⟨RL, "gap", "(LRentHarmony;II[J)I"⟩
abbrev cL_would : ByteArray := method_12_code
def yL_would : MethodName := ⟨RL, "would", "(LRentHarmony;III[J)I"⟩
abbrev cL_needs : ByteArray := method_13_code
def yL_needs : MethodName := ⟨RL, "needs", "(LRentHarmony;II[J)I"⟩
abbrev cL_without : ByteArray := method_14_code
def yL_without : MethodName := ⟨RL, "without", "(LRentHarmony;I[J)I"⟩
abbrev cL_law : ByteArray := code
def yL_law : MethodName := ⟨RL, "law", "([I)Z"⟩
def wsX0_init : List Cond := .code yX0_init cX0_init 1 none :: ([.methodLink RX0 3 objectInit, .instanceMethod objectInit, .code objectInit ⟨#[0xb1]⟩ 1 none, .arrayClass .int, .fieldLink RX0 9 "RentHarmony$Bids" "coins" "[I", .fieldLink RX0 15 "RentHarmony$Bids" "size" "I"] ++ wsX00)
def wsX0_size : List Cond := .code yX0_size cX0_size 1 (some .int) :: ([.fieldLink RX0 15 "RentHarmony$Bids" "size" "I"] ++ wsX00)
def wsX0_has : List Cond := .code yX0_has cX0_has 2 (some .boolean) :: ([.fieldLink RX0 15 "RentHarmony$Bids" "size" "I"] ++ wsX00)
def wsX0_of : List Cond := .code yX0_of cX0_of 3 (some .int) :: ([.fieldLink RX0 9 "RentHarmony$Bids" "coins" "[I", .methodLink RX0 19 yX0_has, .instanceMethod yX0_has, .selects RX0 yX0_has yX0_has, .initialized RX0, .code yX0_has cX0_has 2 (some .boolean), .fieldLink RX0 15 "RentHarmony$Bids" "size" "I"] ++ wsX00)
def wsX0_set : List Cond := .code yX0_set cX0_set 4 none :: ([.fieldLink RX0 9 "RentHarmony$Bids" "coins" "[I", .methodLink RX0 19 yX0_has, .instanceMethod yX0_has, .selects RX0 yX0_has yX0_has, .initialized RX0, .code yX0_has cX0_has 2 (some .boolean), .fieldLink RX0 15 "RentHarmony$Bids" "size" "I"] ++ wsX00)
def wsX0_copy : List Cond := .code yX0_copy cX0_copy 2 none :: ([.fieldLink RX0 9 "RentHarmony$Bids" "coins" "[I", .methodLink RX0 23 arraycopyName, .native arraycopyName, .static arraycopyName, .initialized "java/lang/System", .fieldLink RX0 15 "RentHarmony$Bids" "size" "I"] ++ wsX00)
def wsX0_grow : List Cond := .code yX0_grow cX0_grow 2 none :: ([.fieldLink RX0 15 "RentHarmony$Bids" "size" "I", .methodLink RX0 29 yX0_set, .instanceMethod yX0_set, .selects RX0 yX0_set yX0_set, .initialized RX0, .code yX0_set cX0_set 4 none, .fieldLink RX0 9 "RentHarmony$Bids" "coins" "[I", .methodLink RX0 19 yX0_has, .instanceMethod yX0_has, .selects RX0 yX0_has yX0_has, .code yX0_has cX0_has 2 (some .boolean)] ++ wsX00)
def wsX0_shrink : List Cond := .code yX0_shrink cX0_shrink 5 none :: ([.fieldLink RX0 15 "RentHarmony$Bids" "size" "I", .methodLink RX0 19 yX0_has, .instanceMethod yX0_has, .selects RX0 yX0_has yX0_has, .initialized RX0, .code yX0_has cX0_has 2 (some .boolean), .methodLink RX0 33 yX0_of, .instanceMethod yX0_of, .selects RX0 yX0_of yX0_of, .code yX0_of cX0_of 3 (some .int), .fieldLink RX0 9 "RentHarmony$Bids" "coins" "[I", .methodLink RX0 29 yX0_set, .instanceMethod yX0_set, .selects RX0 yX0_set yX0_set, .code yX0_set cX0_set 4 none] ++ wsX00)
def wsX1_init : List Cond := .code yX1_init cX1_init 1 none :: ([.methodLink RX1 3 objectInit, .instanceMethod objectInit, .code objectInit ⟨#[0xb1]⟩ 1 none, .arrayClass .int, .fieldLink RX1 9 "RentHarmony$Giving" "bestOfRest" "[I", .fieldLink RX1 15 "RentHarmony$Giving" "waysOfRest" "[I", .fieldLink RX1 18 "RentHarmony$Giving" "rooms" "[I"] ++ wsX10)
def wsX1_worth : List Cond := .code yX1_worth cX1_worth 1 (some .int) :: ([.fieldLink RX1 9 "RentHarmony$Giving" "bestOfRest" "[I"] ++ wsX10)
def wsX1_ways : List Cond := .code yX1_ways cX1_ways 1 (some .int) :: ([.fieldLink RX1 15 "RentHarmony$Giving" "waysOfRest" "[I"] ++ wsX10)
def wsX1_roomOf : List Cond := .code yX1_roomOf cX1_roomOf 2 (some .int) :: ([.fieldLink RX1 18 "RentHarmony$Giving" "rooms" "[I"] ++ wsX10)
def wsJ6_bitCount_0f7a4 : List Cond := .code yJ6_bitCount_0f7a4 cJ6_bitCount_0f7a4 1 (some .int) :: ([.constant RJ6 265 (1431655765), .constant RJ6 266 (858993459), .constant RJ6 267 (252645135)])
def wsX1_weigh : List Cond := .code yX1_weigh cX1_weigh 9 none :: ([.fieldLink RX1 9 "RentHarmony$Giving" "bestOfRest" "[I", .fieldLink RX1 15 "RentHarmony$Giving" "waysOfRest" "[I", .methodLink RX1 35 yJ6_bitCount_0f7a4, .static yJ6_bitCount_0f7a4, .initialized RJ6, .code yJ6_bitCount_0f7a4 cJ6_bitCount_0f7a4 1 (some .int), .constant RJ6 265 (1431655765), .constant RJ6 266 (858993459), .constant RJ6 267 (252645135), .methodLink RX1 21 yX0_size, .instanceMethod yX0_size, .selects RX0 yX0_size yX0_size, .initialized RX0, .code yX0_size cX0_size 1 (some .int), .fieldLink RX0 15 "RentHarmony$Bids" "size" "I", .methodLink RX1 41 yX0_of, .instanceMethod yX0_of, .selects RX0 yX0_of yX0_of, .code yX0_of cX0_of 3 (some .int), .fieldLink RX0 9 "RentHarmony$Bids" "coins" "[I", .methodLink RX0 19 yX0_has, .instanceMethod yX0_has, .selects RX0 yX0_has yX0_has, .code yX0_has cX0_has 2 (some .boolean)] ++ wsX10 ++ wsX00)
def wsX1_firstBestRoom : List Cond := .code yX1_firstBestRoom cX1_firstBestRoom 5 (some .int) :: ([.fieldLink RX1 9 "RentHarmony$Giving" "bestOfRest" "[I", .methodLink RX1 21 yX0_size, .instanceMethod yX0_size, .selects RX0 yX0_size yX0_size, .initialized RX0, .code yX0_size cX0_size 1 (some .int), .fieldLink RX0 15 "RentHarmony$Bids" "size" "I", .methodLink RX1 41 yX0_of, .instanceMethod yX0_of, .selects RX0 yX0_of yX0_of, .code yX0_of cX0_of 3 (some .int), .fieldLink RX0 9 "RentHarmony$Bids" "coins" "[I", .methodLink RX0 19 yX0_has, .instanceMethod yX0_has, .selects RX0 yX0_has yX0_has, .code yX0_has cX0_has 2 (some .boolean)] ++ wsX10 ++ wsX00)
def wsX1_choose_r1 : List Cond := [Cond.fieldLink RX1 9 "RentHarmony$Giving" "bestOfRest" "[I", Cond.fieldLink RX1 15 "RentHarmony$Giving" "waysOfRest" "[I", Cond.fieldLink RX1 18 "RentHarmony$Giving" "rooms" "[I", Cond.methodLink RX1 21 yX0_size, Cond.instanceMethod yX0_size, Cond.selects RX0 yX0_size yX0_size, Cond.initialized RX0, Cond.code yX0_size cX0_size 1 (some .int), Cond.fieldLink RX0 15 "RentHarmony$Bids" "size" "I", Cond.methodLink RX1 27 yX1_weigh, Cond.instanceMethod yX1_weigh, Cond.selects RX1 yX1_weigh yX1_weigh, Cond.initialized RX1, Cond.code yX1_weigh cX1_weigh 9 none, Cond.methodLink RX1 35 yJ6_bitCount_0f7a4, Cond.static yJ6_bitCount_0f7a4, Cond.initialized RJ6, Cond.code yJ6_bitCount_0f7a4 cJ6_bitCount_0f7a4 1 (some .int), Cond.constant RJ6 265 (1431655765), Cond.constant RJ6 266 (858993459), Cond.constant RJ6 267 (252645135), Cond.methodLink RX1 41 yX0_of, Cond.instanceMethod yX0_of, Cond.selects RX0 yX0_of yX0_of]
def wsX1_choose_r2 : List Cond := [Cond.code yX0_of cX0_of 3 (some .int), Cond.fieldLink RX0 9 "RentHarmony$Bids" "coins" "[I", Cond.methodLink RX0 19 yX0_has, Cond.instanceMethod yX0_has, Cond.selects RX0 yX0_has yX0_has, Cond.code yX0_has cX0_has 2 (some .boolean), Cond.methodLink RX1 31 yX1_firstBestRoom, Cond.instanceMethod yX1_firstBestRoom, Cond.selects RX1 yX1_firstBestRoom yX1_firstBestRoom, Cond.code yX1_firstBestRoom cX1_firstBestRoom 5 (some .int)]
def wsX1_choose : List Cond := .code yX1_choose cX1_choose 5 none :: ((wsX1_choose_r1 ++ wsX1_choose_r2) ++ wsX10 ++ wsX00)
def wsX2_init_r1 : List Cond := [Cond.methodLink RX2 1 objectInit, Cond.instanceMethod objectInit, Cond.code objectInit ⟨#[0xb1]⟩ 1 none, Cond.classLink RX2 7 RX0, Cond.instantiable RX0 2, Cond.initialized RX0, Cond.fieldLink RX2 10 "RentHarmony" "bids" "LRentHarmony$Bids;", Cond.classLink RX2 16 RX1, Cond.instantiable RX1 3, Cond.initialized RX1, Cond.fieldLink RX2 19 "RentHarmony" "giving" "LRentHarmony$Giving;", Cond.fieldLink RX2 23 "RentHarmony" "triedBids" "LRentHarmony$Bids;", Cond.fieldLink RX2 26 "RentHarmony" "triedGiving" "LRentHarmony$Giving;", Cond.arrayClass .int, Cond.fieldLink RX2 29 "RentHarmony" "firstRebates" "[I", Cond.fieldLink RX2 33 "RentHarmony" "chains" "[I", Cond.fieldLink RX2 36 "RentHarmony" "rentCoins" "I", Cond.fieldLink RX2 40 "RentHarmony" "share" "I", Cond.fieldLink RX2 43 "RentHarmony" "pot" "I", Cond.instanceMethod yX0_init, Cond.code yX0_init cX0_init 1 none, Cond.methodLink RX0 3 objectInit, Cond.fieldLink RX0 9 "RentHarmony$Bids" "coins" "[I", Cond.fieldLink RX0 15 "RentHarmony$Bids" "size" "I"]
def wsX2_init_r2 : List Cond := [Cond.methodLink RX2 18 yX1_init, Cond.instanceMethod yX1_init, Cond.code yX1_init cX1_init 1 none, Cond.methodLink RX1 3 objectInit, Cond.fieldLink RX1 9 "RentHarmony$Giving" "bestOfRest" "[I", Cond.fieldLink RX1 15 "RentHarmony$Giving" "waysOfRest" "[I", Cond.fieldLink RX1 18 "RentHarmony$Giving" "rooms" "[I"]
def wsX2_init : List Cond := .code yX2_init cX2_init 1 none :: ((wsX2_init_r1 ++ wsX2_init_r2) ++ wsX00 ++ wsX20 ++ wsX10)
def wsX2_firstRebateOf : List Cond := .code yX2_firstRebateOf cX2_firstRebateOf 2 (some .int) :: ([.fieldLink RX2 10 "RentHarmony" "bids" "LRentHarmony$Bids;", .fieldLink RX2 29 "RentHarmony" "firstRebates" "[I", .methodLink RX2 63 yX0_has, .instanceMethod yX0_has, .selects RX0 yX0_has yX0_has, .initialized RX0, .code yX0_has cX0_has 2 (some .boolean), .fieldLink RX0 15 "RentHarmony$Bids" "size" "I"] ++ wsX20 ++ wsX00)
def wsX2_ownBidOf : List Cond := .code yX2_ownBidOf cX2_ownBidOf 2 (some .int) :: ([.fieldLink RX2 10 "RentHarmony" "bids" "LRentHarmony$Bids;", .fieldLink RX2 19 "RentHarmony" "giving" "LRentHarmony$Giving;", .methodLink RX2 92 yX1_roomOf, .instanceMethod yX1_roomOf, .selects RX1 yX1_roomOf yX1_roomOf, .initialized RX1, .code yX1_roomOf cX1_roomOf 2 (some .int), .fieldLink RX1 18 "RentHarmony$Giving" "rooms" "[I", .methodLink RX2 77 yX0_of, .instanceMethod yX0_of, .selects RX0 yX0_of yX0_of, .initialized RX0, .code yX0_of cX0_of 3 (some .int), .fieldLink RX0 9 "RentHarmony$Bids" "coins" "[I", .methodLink RX0 19 yX0_has, .instanceMethod yX0_has, .selects RX0 yX0_has yX0_has, .code yX0_has cX0_has 2 (some .boolean), .fieldLink RX0 15 "RentHarmony$Bids" "size" "I"] ++ wsX20 ++ wsX10 ++ wsX00)
def wsX2_bestOfAllRooms_r1 : List Cond := [Cond.fieldLink RX2 10 "RentHarmony" "bids" "LRentHarmony$Bids;", Cond.fieldLink RX2 19 "RentHarmony" "giving" "LRentHarmony$Giving;", Cond.methodLink RX2 123 Lib.Math.max.name, Cond.static Lib.Math.max.name, Cond.initialized "java/lang/Math", Cond.code Lib.Math.max.name Lib.Math.max.code 2 (some .int), Cond.methodLink RX2 152 yX2_firstRebateOf, Cond.instanceMethod yX2_firstRebateOf, Cond.selects RX2 yX2_firstRebateOf yX2_firstRebateOf, Cond.initialized RX2, Cond.code yX2_firstRebateOf cX2_firstRebateOf 2 (some .int), Cond.fieldLink RX2 29 "RentHarmony" "firstRebates" "[I", Cond.methodLink RX2 63 yX0_has, Cond.instanceMethod yX0_has, Cond.selects RX0 yX0_has yX0_has, Cond.initialized RX0, Cond.code yX0_has cX0_has 2 (some .boolean), Cond.fieldLink RX0 15 "RentHarmony$Bids" "size" "I", Cond.methodLink RX2 46 yX0_size, Cond.instanceMethod yX0_size, Cond.selects RX0 yX0_size yX0_size, Cond.code yX0_size cX0_size 1 (some .int), Cond.methodLink RX2 149 yX2_ownBidOf, Cond.instanceMethod yX2_ownBidOf]
def wsX2_bestOfAllRooms_r2 : List Cond := [Cond.selects RX2 yX2_ownBidOf yX2_ownBidOf, Cond.code yX2_ownBidOf cX2_ownBidOf 2 (some .int), Cond.methodLink RX2 92 yX1_roomOf, Cond.instanceMethod yX1_roomOf, Cond.selects RX1 yX1_roomOf yX1_roomOf, Cond.initialized RX1, Cond.code yX1_roomOf cX1_roomOf 2 (some .int), Cond.fieldLink RX1 18 "RentHarmony$Giving" "rooms" "[I", Cond.methodLink RX2 77 yX0_of, Cond.instanceMethod yX0_of, Cond.selects RX0 yX0_of yX0_of, Cond.code yX0_of cX0_of 3 (some .int), Cond.fieldLink RX0 9 "RentHarmony$Bids" "coins" "[I", Cond.methodLink RX0 19 yX0_has]
def wsX2_bestOfAllRooms : List Cond := .code yX2_bestOfAllRooms cX2_bestOfAllRooms 5 (some .int) :: ((wsX2_bestOfAllRooms_r1 ++ wsX2_bestOfAllRooms_r2) ++ wsX20 ++ wsX00 ++ wsX10)
def wsX2_settleFirstRebates_r1 : List Cond := [Cond.fieldLink RX2 10 "RentHarmony" "bids" "LRentHarmony$Bids;", Cond.fieldLink RX2 29 "RentHarmony" "firstRebates" "[I", Cond.methodLink RX2 46 yX0_size, Cond.instanceMethod yX0_size, Cond.selects RX0 yX0_size yX0_size, Cond.initialized RX0, Cond.code yX0_size cX0_size 1 (some .int), Cond.fieldLink RX0 15 "RentHarmony$Bids" "size" "I", Cond.methodLink RX2 167 yX2_bestOfAllRooms, Cond.instanceMethod yX2_bestOfAllRooms, Cond.selects RX2 yX2_bestOfAllRooms yX2_bestOfAllRooms, Cond.initialized RX2, Cond.code yX2_bestOfAllRooms cX2_bestOfAllRooms 5 (some .int), Cond.fieldLink RX2 19 "RentHarmony" "giving" "LRentHarmony$Giving;", Cond.methodLink RX2 123 Lib.Math.max.name, Cond.static Lib.Math.max.name, Cond.initialized "java/lang/Math", Cond.code Lib.Math.max.name Lib.Math.max.code 2 (some .int), Cond.methodLink RX2 152 yX2_firstRebateOf, Cond.instanceMethod yX2_firstRebateOf, Cond.selects RX2 yX2_firstRebateOf yX2_firstRebateOf, Cond.code yX2_firstRebateOf cX2_firstRebateOf 2 (some .int), Cond.methodLink RX2 63 yX0_has, Cond.instanceMethod yX0_has]
def wsX2_settleFirstRebates_r2 : List Cond := [Cond.selects RX0 yX0_has yX0_has, Cond.code yX0_has cX0_has 2 (some .boolean), Cond.methodLink RX2 149 yX2_ownBidOf, Cond.instanceMethod yX2_ownBidOf, Cond.selects RX2 yX2_ownBidOf yX2_ownBidOf, Cond.code yX2_ownBidOf cX2_ownBidOf 2 (some .int), Cond.methodLink RX2 92 yX1_roomOf, Cond.instanceMethod yX1_roomOf, Cond.selects RX1 yX1_roomOf yX1_roomOf, Cond.initialized RX1, Cond.code yX1_roomOf cX1_roomOf 2 (some .int), Cond.fieldLink RX1 18 "RentHarmony$Giving" "rooms" "[I", Cond.methodLink RX2 77 yX0_of, Cond.instanceMethod yX0_of, Cond.selects RX0 yX0_of yX0_of, Cond.code yX0_of cX0_of 3 (some .int), Cond.fieldLink RX0 9 "RentHarmony$Bids" "coins" "[I", Cond.methodLink RX0 19 yX0_has]
def wsX2_settleFirstRebates : List Cond := .code yX2_settleFirstRebates cX2_settleFirstRebates 4 none :: ((wsX2_settleFirstRebates_r1 ++ wsX2_settleFirstRebates_r2) ++ wsX20 ++ wsX00 ++ wsX10)
def wsX2_allFirstRebates : List Cond := .code yX2_allFirstRebates cX2_allFirstRebates 3 (some .int) :: ([.fieldLink RX2 10 "RentHarmony" "bids" "LRentHarmony$Bids;", .fieldLink RX2 29 "RentHarmony" "firstRebates" "[I", .methodLink RX2 46 yX0_size, .instanceMethod yX0_size, .selects RX0 yX0_size yX0_size, .initialized RX0, .code yX0_size cX0_size 1 (some .int), .fieldLink RX0 15 "RentHarmony$Bids" "size" "I"] ++ wsX20 ++ wsX00)
def wsX2_settleLeftOver : List Cond := .code yX2_settleLeftOver cX2_settleLeftOver 3 none :: ([.fieldLink RX2 10 "RentHarmony" "bids" "LRentHarmony$Bids;", .fieldLink RX2 19 "RentHarmony" "giving" "LRentHarmony$Giving;", .fieldLink RX2 36 "RentHarmony" "rentCoins" "I", .fieldLink RX2 40 "RentHarmony" "share" "I", .fieldLink RX2 43 "RentHarmony" "pot" "I", .methodLink RX2 46 yX0_size, .instanceMethod yX0_size, .selects RX0 yX0_size yX0_size, .initialized RX0, .code yX0_size cX0_size 1 (some .int), .fieldLink RX0 15 "RentHarmony$Bids" "size" "I", .methodLink RX2 139 yX1_worth, .instanceMethod yX1_worth, .selects RX1 yX1_worth yX1_worth, .initialized RX1, .code yX1_worth cX1_worth 1 (some .int), .fieldLink RX1 9 "RentHarmony$Giving" "bestOfRest" "[I", .methodLink RX2 158 yX2_allFirstRebates, .instanceMethod yX2_allFirstRebates, .selects RX2 yX2_allFirstRebates yX2_allFirstRebates, .initialized RX2, .code yX2_allFirstRebates cX2_allFirstRebates 3 (some .int), .fieldLink RX2 29 "RentHarmony" "firstRebates" "[I"] ++ wsX20 ++ wsX00 ++ wsX10)
def wsX2_settleAll_r1 : List Cond := [Cond.fieldLink RX2 19 "RentHarmony" "giving" "LRentHarmony$Giving;", Cond.fieldLink RX2 10 "RentHarmony" "bids" "LRentHarmony$Bids;", Cond.methodLink RX2 136 yX1_choose, Cond.instanceMethod yX1_choose, Cond.selects RX1 yX1_choose yX1_choose, Cond.initialized RX1, Cond.code yX1_choose cX1_choose 5 none, Cond.fieldLink RX1 9 "RentHarmony$Giving" "bestOfRest" "[I", Cond.fieldLink RX1 15 "RentHarmony$Giving" "waysOfRest" "[I", Cond.fieldLink RX1 18 "RentHarmony$Giving" "rooms" "[I", Cond.methodLink RX1 21 yX0_size, Cond.instanceMethod yX0_size, Cond.selects RX0 yX0_size yX0_size, Cond.initialized RX0, Cond.code yX0_size cX0_size 1 (some .int), Cond.fieldLink RX0 15 "RentHarmony$Bids" "size" "I", Cond.methodLink RX1 27 yX1_weigh, Cond.instanceMethod yX1_weigh, Cond.selects RX1 yX1_weigh yX1_weigh, Cond.code yX1_weigh cX1_weigh 9 none, Cond.methodLink RX1 35 yJ6_bitCount_0f7a4, Cond.static yJ6_bitCount_0f7a4, Cond.initialized RJ6, Cond.code yJ6_bitCount_0f7a4 cJ6_bitCount_0f7a4 1 (some .int)]
def wsX2_settleAll_r2 : List Cond := [Cond.constant RJ6 265 (1431655765), Cond.constant RJ6 266 (858993459), Cond.constant RJ6 267 (252645135), Cond.methodLink RX1 41 yX0_of, Cond.instanceMethod yX0_of, Cond.selects RX0 yX0_of yX0_of, Cond.code yX0_of cX0_of 3 (some .int), Cond.fieldLink RX0 9 "RentHarmony$Bids" "coins" "[I", Cond.methodLink RX0 19 yX0_has, Cond.instanceMethod yX0_has, Cond.selects RX0 yX0_has yX0_has, Cond.code yX0_has cX0_has 2 (some .boolean), Cond.methodLink RX1 31 yX1_firstBestRoom, Cond.instanceMethod yX1_firstBestRoom, Cond.selects RX1 yX1_firstBestRoom yX1_firstBestRoom, Cond.code yX1_firstBestRoom cX1_firstBestRoom 5 (some .int), Cond.methodLink RX2 164 yX2_settleFirstRebates, Cond.instanceMethod yX2_settleFirstRebates, Cond.selects RX2 yX2_settleFirstRebates yX2_settleFirstRebates, Cond.initialized RX2, Cond.code yX2_settleFirstRebates cX2_settleFirstRebates 4 none, Cond.fieldLink RX2 29 "RentHarmony" "firstRebates" "[I", Cond.methodLink RX2 46 yX0_size, Cond.methodLink RX2 167 yX2_bestOfAllRooms]
def wsX2_settleAll_r3 : List Cond := [Cond.instanceMethod yX2_bestOfAllRooms, Cond.selects RX2 yX2_bestOfAllRooms yX2_bestOfAllRooms, Cond.code yX2_bestOfAllRooms cX2_bestOfAllRooms 5 (some .int), Cond.methodLink RX2 123 Lib.Math.max.name, Cond.static Lib.Math.max.name, Cond.initialized "java/lang/Math", Cond.code Lib.Math.max.name Lib.Math.max.code 2 (some .int), Cond.methodLink RX2 152 yX2_firstRebateOf, Cond.instanceMethod yX2_firstRebateOf, Cond.selects RX2 yX2_firstRebateOf yX2_firstRebateOf, Cond.code yX2_firstRebateOf cX2_firstRebateOf 2 (some .int), Cond.methodLink RX2 63 yX0_has, Cond.methodLink RX2 149 yX2_ownBidOf, Cond.instanceMethod yX2_ownBidOf, Cond.selects RX2 yX2_ownBidOf yX2_ownBidOf, Cond.code yX2_ownBidOf cX2_ownBidOf 2 (some .int), Cond.methodLink RX2 92 yX1_roomOf, Cond.instanceMethod yX1_roomOf, Cond.selects RX1 yX1_roomOf yX1_roomOf, Cond.code yX1_roomOf cX1_roomOf 2 (some .int), Cond.methodLink RX2 77 yX0_of, Cond.methodLink RX2 87 yX2_settleLeftOver, Cond.instanceMethod yX2_settleLeftOver, Cond.selects RX2 yX2_settleLeftOver yX2_settleLeftOver]
def wsX2_settleAll_r4 : List Cond := [Cond.code yX2_settleLeftOver cX2_settleLeftOver 3 none, Cond.fieldLink RX2 36 "RentHarmony" "rentCoins" "I", Cond.fieldLink RX2 40 "RentHarmony" "share" "I", Cond.fieldLink RX2 43 "RentHarmony" "pot" "I", Cond.methodLink RX2 139 yX1_worth, Cond.instanceMethod yX1_worth, Cond.selects RX1 yX1_worth yX1_worth, Cond.code yX1_worth cX1_worth 1 (some .int), Cond.methodLink RX2 158 yX2_allFirstRebates, Cond.instanceMethod yX2_allFirstRebates, Cond.selects RX2 yX2_allFirstRebates yX2_allFirstRebates, Cond.code yX2_allFirstRebates cX2_allFirstRebates 3 (some .int)]
def wsX2_settleAll : List Cond := .code yX2_settleAll cX2_settleAll 1 none :: ((wsX2_settleAll_r1 ++ (wsX2_settleAll_r2 ++ (wsX2_settleAll_r3 ++ wsX2_settleAll_r4))) ++ wsX20 ++ wsX10 ++ wsX00)
def wsX2_come_r1 : List Cond := [Cond.classLink RX2 50 "java/lang/IllegalStateException", Cond.initialized "java/lang/IllegalStateException", Cond.fieldLink RX2 10 "RentHarmony" "bids" "LRentHarmony$Bids;", Cond.methodLink RX2 46 yX0_size, Cond.instanceMethod yX0_size, Cond.selects RX0 yX0_size yX0_size, Cond.initialized RX0, Cond.code yX0_size cX0_size 1 (some .int), Cond.fieldLink RX0 15 "RentHarmony$Bids" "size" "I", Cond.methodLink RX2 57 yX0_grow, Cond.instanceMethod yX0_grow, Cond.selects RX0 yX0_grow yX0_grow, Cond.code yX0_grow cX0_grow 2 none, Cond.methodLink RX0 29 yX0_set, Cond.instanceMethod yX0_set, Cond.selects RX0 yX0_set yX0_set, Cond.code yX0_set cX0_set 4 none, Cond.fieldLink RX0 9 "RentHarmony$Bids" "coins" "[I", Cond.methodLink RX0 19 yX0_has, Cond.instanceMethod yX0_has, Cond.selects RX0 yX0_has yX0_has, Cond.code yX0_has cX0_has 2 (some .boolean), Cond.methodLink RX2 60 yX2_settleAll, Cond.instanceMethod yX2_settleAll]
def wsX2_come_r2 : List Cond := [Cond.selects RX2 yX2_settleAll yX2_settleAll, Cond.initialized RX2, Cond.code yX2_settleAll cX2_settleAll 1 none, Cond.fieldLink RX2 19 "RentHarmony" "giving" "LRentHarmony$Giving;", Cond.methodLink RX2 136 yX1_choose, Cond.instanceMethod yX1_choose, Cond.selects RX1 yX1_choose yX1_choose, Cond.initialized RX1, Cond.code yX1_choose cX1_choose 5 none, Cond.fieldLink RX1 9 "RentHarmony$Giving" "bestOfRest" "[I", Cond.fieldLink RX1 15 "RentHarmony$Giving" "waysOfRest" "[I", Cond.fieldLink RX1 18 "RentHarmony$Giving" "rooms" "[I", Cond.methodLink RX1 21 yX0_size, Cond.methodLink RX1 27 yX1_weigh, Cond.instanceMethod yX1_weigh, Cond.selects RX1 yX1_weigh yX1_weigh, Cond.code yX1_weigh cX1_weigh 9 none, Cond.methodLink RX1 35 yJ6_bitCount_0f7a4, Cond.static yJ6_bitCount_0f7a4, Cond.initialized RJ6, Cond.code yJ6_bitCount_0f7a4 cJ6_bitCount_0f7a4 1 (some .int), Cond.constant RJ6 265 (1431655765), Cond.constant RJ6 266 (858993459), Cond.constant RJ6 267 (252645135)]
def wsX2_come_r3 : List Cond := [Cond.methodLink RX1 41 yX0_of, Cond.instanceMethod yX0_of, Cond.selects RX0 yX0_of yX0_of, Cond.code yX0_of cX0_of 3 (some .int), Cond.methodLink RX1 31 yX1_firstBestRoom, Cond.instanceMethod yX1_firstBestRoom, Cond.selects RX1 yX1_firstBestRoom yX1_firstBestRoom, Cond.code yX1_firstBestRoom cX1_firstBestRoom 5 (some .int), Cond.methodLink RX2 164 yX2_settleFirstRebates, Cond.instanceMethod yX2_settleFirstRebates, Cond.selects RX2 yX2_settleFirstRebates yX2_settleFirstRebates, Cond.code yX2_settleFirstRebates cX2_settleFirstRebates 4 none, Cond.fieldLink RX2 29 "RentHarmony" "firstRebates" "[I", Cond.methodLink RX2 167 yX2_bestOfAllRooms, Cond.instanceMethod yX2_bestOfAllRooms, Cond.selects RX2 yX2_bestOfAllRooms yX2_bestOfAllRooms, Cond.code yX2_bestOfAllRooms cX2_bestOfAllRooms 5 (some .int), Cond.methodLink RX2 123 Lib.Math.max.name, Cond.static Lib.Math.max.name, Cond.initialized "java/lang/Math", Cond.code Lib.Math.max.name Lib.Math.max.code 2 (some .int), Cond.methodLink RX2 152 yX2_firstRebateOf, Cond.instanceMethod yX2_firstRebateOf, Cond.selects RX2 yX2_firstRebateOf yX2_firstRebateOf]
def wsX2_come_r4 : List Cond := [Cond.code yX2_firstRebateOf cX2_firstRebateOf 2 (some .int), Cond.methodLink RX2 63 yX0_has, Cond.methodLink RX2 149 yX2_ownBidOf, Cond.instanceMethod yX2_ownBidOf, Cond.selects RX2 yX2_ownBidOf yX2_ownBidOf, Cond.code yX2_ownBidOf cX2_ownBidOf 2 (some .int), Cond.methodLink RX2 92 yX1_roomOf, Cond.instanceMethod yX1_roomOf, Cond.selects RX1 yX1_roomOf yX1_roomOf, Cond.code yX1_roomOf cX1_roomOf 2 (some .int), Cond.methodLink RX2 77 yX0_of, Cond.methodLink RX2 87 yX2_settleLeftOver, Cond.instanceMethod yX2_settleLeftOver, Cond.selects RX2 yX2_settleLeftOver yX2_settleLeftOver, Cond.code yX2_settleLeftOver cX2_settleLeftOver 3 none, Cond.fieldLink RX2 36 "RentHarmony" "rentCoins" "I", Cond.fieldLink RX2 40 "RentHarmony" "share" "I", Cond.fieldLink RX2 43 "RentHarmony" "pot" "I", Cond.methodLink RX2 139 yX1_worth, Cond.instanceMethod yX1_worth, Cond.selects RX1 yX1_worth yX1_worth, Cond.code yX1_worth cX1_worth 1 (some .int), Cond.methodLink RX2 158 yX2_allFirstRebates, Cond.instanceMethod yX2_allFirstRebates]
def wsX2_come_r5 : List Cond := [Cond.selects RX2 yX2_allFirstRebates yX2_allFirstRebates, Cond.code yX2_allFirstRebates cX2_allFirstRebates 3 (some .int)]
def wsX2_come : List Cond := .code yX2_come cX2_come 1 (some .int) :: ((wsX2_come_r1 ++ (wsX2_come_r2 ++ (wsX2_come_r3 ++ (wsX2_come_r4 ++ wsX2_come_r5)))) ++ wsX20 ++ wsX00 ++ wsX10 ++ (vx_atS RX2 54 "java/lang/IllegalStateException" ["java/lang/RuntimeException", "java/lang/Exception"]).filter goodWord)
def wsX2_bid_r1 : List Cond := [Cond.classLink RX2 67 "java/lang/IndexOutOfBoundsException", Cond.initialized "java/lang/IndexOutOfBoundsException", Cond.classLink RX2 72 "java/lang/IllegalArgumentException", Cond.initialized "java/lang/IllegalArgumentException", Cond.fieldLink RX2 10 "RentHarmony" "bids" "LRentHarmony$Bids;", Cond.methodLink RX2 63 yX0_has, Cond.instanceMethod yX0_has, Cond.selects RX0 yX0_has yX0_has, Cond.initialized RX0, Cond.code yX0_has cX0_has 2 (some .boolean), Cond.fieldLink RX0 15 "RentHarmony$Bids" "size" "I", Cond.methodLink RX2 77 yX0_of, Cond.instanceMethod yX0_of, Cond.selects RX0 yX0_of yX0_of, Cond.code yX0_of cX0_of 3 (some .int), Cond.fieldLink RX0 9 "RentHarmony$Bids" "coins" "[I", Cond.methodLink RX0 19 yX0_has, Cond.methodLink RX2 81 yX0_set, Cond.instanceMethod yX0_set, Cond.selects RX0 yX0_set yX0_set, Cond.code yX0_set cX0_set 4 none, Cond.methodLink RX2 60 yX2_settleAll, Cond.instanceMethod yX2_settleAll, Cond.selects RX2 yX2_settleAll yX2_settleAll]
def wsX2_bid_r2 : List Cond := [Cond.initialized RX2, Cond.code yX2_settleAll cX2_settleAll 1 none, Cond.fieldLink RX2 19 "RentHarmony" "giving" "LRentHarmony$Giving;", Cond.methodLink RX2 136 yX1_choose, Cond.instanceMethod yX1_choose, Cond.selects RX1 yX1_choose yX1_choose, Cond.initialized RX1, Cond.code yX1_choose cX1_choose 5 none, Cond.fieldLink RX1 9 "RentHarmony$Giving" "bestOfRest" "[I", Cond.fieldLink RX1 15 "RentHarmony$Giving" "waysOfRest" "[I", Cond.fieldLink RX1 18 "RentHarmony$Giving" "rooms" "[I", Cond.methodLink RX1 21 yX0_size, Cond.instanceMethod yX0_size, Cond.selects RX0 yX0_size yX0_size, Cond.code yX0_size cX0_size 1 (some .int), Cond.methodLink RX1 27 yX1_weigh, Cond.instanceMethod yX1_weigh, Cond.selects RX1 yX1_weigh yX1_weigh, Cond.code yX1_weigh cX1_weigh 9 none, Cond.methodLink RX1 35 yJ6_bitCount_0f7a4, Cond.static yJ6_bitCount_0f7a4, Cond.initialized RJ6, Cond.code yJ6_bitCount_0f7a4 cJ6_bitCount_0f7a4 1 (some .int), Cond.constant RJ6 265 (1431655765)]
def wsX2_bid_r3 : List Cond := [Cond.constant RJ6 266 (858993459), Cond.constant RJ6 267 (252645135), Cond.methodLink RX1 41 yX0_of, Cond.methodLink RX1 31 yX1_firstBestRoom, Cond.instanceMethod yX1_firstBestRoom, Cond.selects RX1 yX1_firstBestRoom yX1_firstBestRoom, Cond.code yX1_firstBestRoom cX1_firstBestRoom 5 (some .int), Cond.methodLink RX2 164 yX2_settleFirstRebates, Cond.instanceMethod yX2_settleFirstRebates, Cond.selects RX2 yX2_settleFirstRebates yX2_settleFirstRebates, Cond.code yX2_settleFirstRebates cX2_settleFirstRebates 4 none, Cond.fieldLink RX2 29 "RentHarmony" "firstRebates" "[I", Cond.methodLink RX2 46 yX0_size, Cond.methodLink RX2 167 yX2_bestOfAllRooms, Cond.instanceMethod yX2_bestOfAllRooms, Cond.selects RX2 yX2_bestOfAllRooms yX2_bestOfAllRooms, Cond.code yX2_bestOfAllRooms cX2_bestOfAllRooms 5 (some .int), Cond.methodLink RX2 123 Lib.Math.max.name, Cond.static Lib.Math.max.name, Cond.initialized "java/lang/Math", Cond.code Lib.Math.max.name Lib.Math.max.code 2 (some .int), Cond.methodLink RX2 152 yX2_firstRebateOf, Cond.instanceMethod yX2_firstRebateOf, Cond.selects RX2 yX2_firstRebateOf yX2_firstRebateOf]
def wsX2_bid_r4 : List Cond := [Cond.code yX2_firstRebateOf cX2_firstRebateOf 2 (some .int), Cond.methodLink RX2 149 yX2_ownBidOf, Cond.instanceMethod yX2_ownBidOf, Cond.selects RX2 yX2_ownBidOf yX2_ownBidOf, Cond.code yX2_ownBidOf cX2_ownBidOf 2 (some .int), Cond.methodLink RX2 92 yX1_roomOf, Cond.instanceMethod yX1_roomOf, Cond.selects RX1 yX1_roomOf yX1_roomOf, Cond.code yX1_roomOf cX1_roomOf 2 (some .int), Cond.methodLink RX2 87 yX2_settleLeftOver, Cond.instanceMethod yX2_settleLeftOver, Cond.selects RX2 yX2_settleLeftOver yX2_settleLeftOver, Cond.code yX2_settleLeftOver cX2_settleLeftOver 3 none, Cond.fieldLink RX2 36 "RentHarmony" "rentCoins" "I", Cond.fieldLink RX2 40 "RentHarmony" "share" "I", Cond.fieldLink RX2 43 "RentHarmony" "pot" "I", Cond.methodLink RX2 139 yX1_worth, Cond.instanceMethod yX1_worth, Cond.selects RX1 yX1_worth yX1_worth, Cond.code yX1_worth cX1_worth 1 (some .int), Cond.methodLink RX2 158 yX2_allFirstRebates, Cond.instanceMethod yX2_allFirstRebates, Cond.selects RX2 yX2_allFirstRebates yX2_allFirstRebates, Cond.code yX2_allFirstRebates cX2_allFirstRebates 3 (some .int)]
def wsX2_bid : List Cond := .code yX2_bid cX2_bid 5 (some .int) :: ((wsX2_bid_r1 ++ (wsX2_bid_r2 ++ (wsX2_bid_r3 ++ wsX2_bid_r4))) ++ wsX20 ++ wsX00 ++ wsX10 ++ (vx_atS RX2 71 "java/lang/IndexOutOfBoundsException" ["java/lang/RuntimeException", "java/lang/Exception"]).filter goodWord ++ (vx_atS RX2 76 "java/lang/IllegalArgumentException" ["java/lang/RuntimeException", "java/lang/Exception"]).filter goodWord)
def wsX2_rent_r1 : List Cond := [Cond.classLink RX2 72 "java/lang/IllegalArgumentException", Cond.initialized "java/lang/IllegalArgumentException", Cond.fieldLink RX2 36 "RentHarmony" "rentCoins" "I", Cond.methodLink RX2 87 yX2_settleLeftOver, Cond.instanceMethod yX2_settleLeftOver, Cond.selects RX2 yX2_settleLeftOver yX2_settleLeftOver, Cond.initialized RX2, Cond.code yX2_settleLeftOver cX2_settleLeftOver 3 none, Cond.fieldLink RX2 10 "RentHarmony" "bids" "LRentHarmony$Bids;", Cond.fieldLink RX2 19 "RentHarmony" "giving" "LRentHarmony$Giving;", Cond.fieldLink RX2 40 "RentHarmony" "share" "I", Cond.fieldLink RX2 43 "RentHarmony" "pot" "I", Cond.methodLink RX2 46 yX0_size, Cond.instanceMethod yX0_size, Cond.selects RX0 yX0_size yX0_size, Cond.initialized RX0, Cond.code yX0_size cX0_size 1 (some .int), Cond.fieldLink RX0 15 "RentHarmony$Bids" "size" "I", Cond.methodLink RX2 139 yX1_worth, Cond.instanceMethod yX1_worth, Cond.selects RX1 yX1_worth yX1_worth, Cond.initialized RX1, Cond.code yX1_worth cX1_worth 1 (some .int), Cond.fieldLink RX1 9 "RentHarmony$Giving" "bestOfRest" "[I"]
def wsX2_rent_r2 : List Cond := [Cond.methodLink RX2 158 yX2_allFirstRebates, Cond.instanceMethod yX2_allFirstRebates, Cond.selects RX2 yX2_allFirstRebates yX2_allFirstRebates, Cond.code yX2_allFirstRebates cX2_allFirstRebates 3 (some .int), Cond.fieldLink RX2 29 "RentHarmony" "firstRebates" "[I"]
def wsX2_rent : List Cond := .code yX2_rent cX2_rent 3 (some .int) :: ((wsX2_rent_r1 ++ wsX2_rent_r2) ++ wsX20 ++ wsX00 ++ wsX10 ++ (vx_atS RX2 76 "java/lang/IllegalArgumentException" ["java/lang/RuntimeException", "java/lang/Exception"]).filter goodWord)
def wsX2_leave_r1 : List Cond := [Cond.classLink RX2 67 "java/lang/IndexOutOfBoundsException", Cond.initialized "java/lang/IndexOutOfBoundsException", Cond.fieldLink RX2 10 "RentHarmony" "bids" "LRentHarmony$Bids;", Cond.fieldLink RX2 19 "RentHarmony" "giving" "LRentHarmony$Giving;", Cond.methodLink RX2 63 yX0_has, Cond.instanceMethod yX0_has, Cond.selects RX0 yX0_has yX0_has, Cond.initialized RX0, Cond.code yX0_has cX0_has 2 (some .boolean), Cond.fieldLink RX0 15 "RentHarmony$Bids" "size" "I", Cond.methodLink RX2 92 yX1_roomOf, Cond.instanceMethod yX1_roomOf, Cond.selects RX1 yX1_roomOf yX1_roomOf, Cond.initialized RX1, Cond.code yX1_roomOf cX1_roomOf 2 (some .int), Cond.fieldLink RX1 18 "RentHarmony$Giving" "rooms" "[I", Cond.methodLink RX2 96 yX0_shrink, Cond.instanceMethod yX0_shrink, Cond.selects RX0 yX0_shrink yX0_shrink, Cond.code yX0_shrink cX0_shrink 5 none, Cond.methodLink RX0 19 yX0_has, Cond.methodLink RX0 33 yX0_of, Cond.instanceMethod yX0_of, Cond.selects RX0 yX0_of yX0_of]
def wsX2_leave_r2 : List Cond := [Cond.code yX0_of cX0_of 3 (some .int), Cond.fieldLink RX0 9 "RentHarmony$Bids" "coins" "[I", Cond.methodLink RX0 29 yX0_set, Cond.instanceMethod yX0_set, Cond.selects RX0 yX0_set yX0_set, Cond.code yX0_set cX0_set 4 none, Cond.methodLink RX2 60 yX2_settleAll, Cond.instanceMethod yX2_settleAll, Cond.selects RX2 yX2_settleAll yX2_settleAll, Cond.initialized RX2, Cond.code yX2_settleAll cX2_settleAll 1 none, Cond.methodLink RX2 136 yX1_choose, Cond.instanceMethod yX1_choose, Cond.selects RX1 yX1_choose yX1_choose, Cond.code yX1_choose cX1_choose 5 none, Cond.fieldLink RX1 9 "RentHarmony$Giving" "bestOfRest" "[I", Cond.fieldLink RX1 15 "RentHarmony$Giving" "waysOfRest" "[I", Cond.methodLink RX1 21 yX0_size, Cond.instanceMethod yX0_size, Cond.selects RX0 yX0_size yX0_size, Cond.code yX0_size cX0_size 1 (some .int), Cond.methodLink RX1 27 yX1_weigh, Cond.instanceMethod yX1_weigh, Cond.selects RX1 yX1_weigh yX1_weigh]
def wsX2_leave_r3 : List Cond := [Cond.code yX1_weigh cX1_weigh 9 none, Cond.methodLink RX1 35 yJ6_bitCount_0f7a4, Cond.static yJ6_bitCount_0f7a4, Cond.initialized RJ6, Cond.code yJ6_bitCount_0f7a4 cJ6_bitCount_0f7a4 1 (some .int), Cond.constant RJ6 265 (1431655765), Cond.constant RJ6 266 (858993459), Cond.constant RJ6 267 (252645135), Cond.methodLink RX1 41 yX0_of, Cond.methodLink RX1 31 yX1_firstBestRoom, Cond.instanceMethod yX1_firstBestRoom, Cond.selects RX1 yX1_firstBestRoom yX1_firstBestRoom, Cond.code yX1_firstBestRoom cX1_firstBestRoom 5 (some .int), Cond.methodLink RX2 164 yX2_settleFirstRebates, Cond.instanceMethod yX2_settleFirstRebates, Cond.selects RX2 yX2_settleFirstRebates yX2_settleFirstRebates, Cond.code yX2_settleFirstRebates cX2_settleFirstRebates 4 none, Cond.fieldLink RX2 29 "RentHarmony" "firstRebates" "[I", Cond.methodLink RX2 46 yX0_size, Cond.methodLink RX2 167 yX2_bestOfAllRooms, Cond.instanceMethod yX2_bestOfAllRooms, Cond.selects RX2 yX2_bestOfAllRooms yX2_bestOfAllRooms, Cond.code yX2_bestOfAllRooms cX2_bestOfAllRooms 5 (some .int), Cond.methodLink RX2 123 Lib.Math.max.name]
def wsX2_leave_r4 : List Cond := [Cond.static Lib.Math.max.name, Cond.initialized "java/lang/Math", Cond.code Lib.Math.max.name Lib.Math.max.code 2 (some .int), Cond.methodLink RX2 152 yX2_firstRebateOf, Cond.instanceMethod yX2_firstRebateOf, Cond.selects RX2 yX2_firstRebateOf yX2_firstRebateOf, Cond.code yX2_firstRebateOf cX2_firstRebateOf 2 (some .int), Cond.methodLink RX2 149 yX2_ownBidOf, Cond.instanceMethod yX2_ownBidOf, Cond.selects RX2 yX2_ownBidOf yX2_ownBidOf, Cond.code yX2_ownBidOf cX2_ownBidOf 2 (some .int), Cond.methodLink RX2 77 yX0_of, Cond.methodLink RX2 87 yX2_settleLeftOver, Cond.instanceMethod yX2_settleLeftOver, Cond.selects RX2 yX2_settleLeftOver yX2_settleLeftOver, Cond.code yX2_settleLeftOver cX2_settleLeftOver 3 none, Cond.fieldLink RX2 36 "RentHarmony" "rentCoins" "I", Cond.fieldLink RX2 40 "RentHarmony" "share" "I", Cond.fieldLink RX2 43 "RentHarmony" "pot" "I", Cond.methodLink RX2 139 yX1_worth, Cond.instanceMethod yX1_worth, Cond.selects RX1 yX1_worth yX1_worth, Cond.code yX1_worth cX1_worth 1 (some .int), Cond.methodLink RX2 158 yX2_allFirstRebates]
def wsX2_leave_r5 : List Cond := [Cond.instanceMethod yX2_allFirstRebates, Cond.selects RX2 yX2_allFirstRebates yX2_allFirstRebates, Cond.code yX2_allFirstRebates cX2_allFirstRebates 3 (some .int)]
def wsX2_leave : List Cond := .code yX2_leave cX2_leave 3 (some .int) :: ((wsX2_leave_r1 ++ (wsX2_leave_r2 ++ (wsX2_leave_r3 ++ (wsX2_leave_r4 ++ wsX2_leave_r5)))) ++ wsX20 ++ wsX00 ++ wsX10 ++ (vx_atS RX2 71 "java/lang/IndexOutOfBoundsException" ["java/lang/RuntimeException", "java/lang/Exception"]).filter goodWord)
def wsX2_rebateOf : List Cond := .code yX2_rebateOf cX2_rebateOf 2 (some .int) :: ([.fieldLink RX2 40 "RentHarmony" "share" "I", .methodLink RX2 152 yX2_firstRebateOf, .instanceMethod yX2_firstRebateOf, .selects RX2 yX2_firstRebateOf yX2_firstRebateOf, .initialized RX2, .code yX2_firstRebateOf cX2_firstRebateOf 2 (some .int), .fieldLink RX2 10 "RentHarmony" "bids" "LRentHarmony$Bids;", .fieldLink RX2 29 "RentHarmony" "firstRebates" "[I", .methodLink RX2 63 yX0_has, .instanceMethod yX0_has, .selects RX0 yX0_has yX0_has, .initialized RX0, .code yX0_has cX0_has 2 (some .boolean), .fieldLink RX0 15 "RentHarmony$Bids" "size" "I"] ++ wsX20 ++ wsX00)
def wsX2_payOf_r1 : List Cond := [Cond.methodLink RX2 149 yX2_ownBidOf, Cond.instanceMethod yX2_ownBidOf, Cond.selects RX2 yX2_ownBidOf yX2_ownBidOf, Cond.initialized RX2, Cond.code yX2_ownBidOf cX2_ownBidOf 2 (some .int), Cond.fieldLink RX2 10 "RentHarmony" "bids" "LRentHarmony$Bids;", Cond.fieldLink RX2 19 "RentHarmony" "giving" "LRentHarmony$Giving;", Cond.methodLink RX2 92 yX1_roomOf, Cond.instanceMethod yX1_roomOf, Cond.selects RX1 yX1_roomOf yX1_roomOf, Cond.initialized RX1, Cond.code yX1_roomOf cX1_roomOf 2 (some .int), Cond.fieldLink RX1 18 "RentHarmony$Giving" "rooms" "[I", Cond.methodLink RX2 77 yX0_of, Cond.instanceMethod yX0_of, Cond.selects RX0 yX0_of yX0_of, Cond.initialized RX0, Cond.code yX0_of cX0_of 3 (some .int), Cond.fieldLink RX0 9 "RentHarmony$Bids" "coins" "[I", Cond.methodLink RX0 19 yX0_has, Cond.instanceMethod yX0_has, Cond.selects RX0 yX0_has yX0_has, Cond.code yX0_has cX0_has 2 (some .boolean), Cond.fieldLink RX0 15 "RentHarmony$Bids" "size" "I"]
def wsX2_payOf_r2 : List Cond := [Cond.methodLink RX2 114 yX2_rebateOf, Cond.instanceMethod yX2_rebateOf, Cond.selects RX2 yX2_rebateOf yX2_rebateOf, Cond.code yX2_rebateOf cX2_rebateOf 2 (some .int), Cond.fieldLink RX2 40 "RentHarmony" "share" "I", Cond.methodLink RX2 152 yX2_firstRebateOf, Cond.instanceMethod yX2_firstRebateOf, Cond.selects RX2 yX2_firstRebateOf yX2_firstRebateOf, Cond.code yX2_firstRebateOf cX2_firstRebateOf 2 (some .int), Cond.fieldLink RX2 29 "RentHarmony" "firstRebates" "[I", Cond.methodLink RX2 63 yX0_has]
def wsX2_payOf : List Cond := .code yX2_payOf cX2_payOf 2 (some .int) :: ((wsX2_payOf_r1 ++ wsX2_payOf_r2) ++ wsX20 ++ wsX10 ++ wsX00)
def wsX2_wouldEnvy : List Cond := .code yX2_wouldEnvy cX2_wouldEnvy 3 (some .boolean) :: ([.fieldLink RX2 10 "RentHarmony" "bids" "LRentHarmony$Bids;", .fieldLink RX2 19 "RentHarmony" "giving" "LRentHarmony$Giving;", .methodLink RX2 92 yX1_roomOf, .instanceMethod yX1_roomOf, .selects RX1 yX1_roomOf yX1_roomOf, .initialized RX1, .code yX1_roomOf cX1_roomOf 2 (some .int), .fieldLink RX1 18 "RentHarmony$Giving" "rooms" "[I", .methodLink RX2 77 yX0_of, .instanceMethod yX0_of, .selects RX0 yX0_of yX0_of, .initialized RX0, .code yX0_of cX0_of 3 (some .int), .fieldLink RX0 9 "RentHarmony$Bids" "coins" "[I", .methodLink RX0 19 yX0_has, .instanceMethod yX0_has, .selects RX0 yX0_has yX0_has, .code yX0_has cX0_has 2 (some .boolean), .fieldLink RX0 15 "RentHarmony$Bids" "size" "I", .methodLink RX2 149 yX2_ownBidOf, .instanceMethod yX2_ownBidOf, .selects RX2 yX2_ownBidOf yX2_ownBidOf, .initialized RX2, .code yX2_ownBidOf cX2_ownBidOf 2 (some .int)] ++ wsX20 ++ wsX10 ++ wsX00)
def wsX2_enviedBy_r1 : List Cond := [Cond.fieldLink RX2 10 "RentHarmony" "bids" "LRentHarmony$Bids;", Cond.methodLink RX2 46 yX0_size, Cond.instanceMethod yX0_size, Cond.selects RX0 yX0_size yX0_size, Cond.initialized RX0, Cond.code yX0_size cX0_size 1 (some .int), Cond.fieldLink RX0 15 "RentHarmony$Bids" "size" "I", Cond.methodLink RX2 110 yX2_wouldEnvy, Cond.instanceMethod yX2_wouldEnvy, Cond.selects RX2 yX2_wouldEnvy yX2_wouldEnvy, Cond.initialized RX2, Cond.code yX2_wouldEnvy cX2_wouldEnvy 3 (some .boolean), Cond.fieldLink RX2 19 "RentHarmony" "giving" "LRentHarmony$Giving;", Cond.methodLink RX2 92 yX1_roomOf, Cond.instanceMethod yX1_roomOf, Cond.selects RX1 yX1_roomOf yX1_roomOf, Cond.initialized RX1, Cond.code yX1_roomOf cX1_roomOf 2 (some .int), Cond.fieldLink RX1 18 "RentHarmony$Giving" "rooms" "[I", Cond.methodLink RX2 77 yX0_of, Cond.instanceMethod yX0_of, Cond.selects RX0 yX0_of yX0_of, Cond.code yX0_of cX0_of 3 (some .int), Cond.fieldLink RX0 9 "RentHarmony$Bids" "coins" "[I"]
def wsX2_enviedBy_r2 : List Cond := [Cond.methodLink RX0 19 yX0_has, Cond.instanceMethod yX0_has, Cond.selects RX0 yX0_has yX0_has, Cond.code yX0_has cX0_has 2 (some .boolean), Cond.methodLink RX2 149 yX2_ownBidOf, Cond.instanceMethod yX2_ownBidOf, Cond.selects RX2 yX2_ownBidOf yX2_ownBidOf, Cond.code yX2_ownBidOf cX2_ownBidOf 2 (some .int)]
def wsX2_enviedBy : List Cond := .code yX2_enviedBy cX2_enviedBy 4 (some .int) :: ((wsX2_enviedBy_r1 ++ wsX2_enviedBy_r2) ++ wsX20 ++ wsX00 ++ wsX10)
def wsX2_fact_r1 : List Cond := [Cond.fieldLink RX2 19 "RentHarmony" "giving" "LRentHarmony$Giving;", Cond.methodLink RX2 92 yX1_roomOf, Cond.instanceMethod yX1_roomOf, Cond.selects RX1 yX1_roomOf yX1_roomOf, Cond.initialized RX1, Cond.code yX1_roomOf cX1_roomOf 2 (some .int), Cond.fieldLink RX1 18 "RentHarmony$Giving" "rooms" "[I", Cond.methodLink RX2 149 yX2_ownBidOf, Cond.instanceMethod yX2_ownBidOf, Cond.selects RX2 yX2_ownBidOf yX2_ownBidOf, Cond.initialized RX2, Cond.code yX2_ownBidOf cX2_ownBidOf 2 (some .int), Cond.fieldLink RX2 10 "RentHarmony" "bids" "LRentHarmony$Bids;", Cond.methodLink RX2 77 yX0_of, Cond.instanceMethod yX0_of, Cond.selects RX0 yX0_of yX0_of, Cond.initialized RX0, Cond.code yX0_of cX0_of 3 (some .int), Cond.fieldLink RX0 9 "RentHarmony$Bids" "coins" "[I", Cond.methodLink RX0 19 yX0_has, Cond.instanceMethod yX0_has, Cond.selects RX0 yX0_has yX0_has, Cond.code yX0_has cX0_has 2 (some .boolean), Cond.fieldLink RX0 15 "RentHarmony$Bids" "size" "I"]
def wsX2_fact_r2 : List Cond := [Cond.methodLink RX2 114 yX2_rebateOf, Cond.instanceMethod yX2_rebateOf, Cond.selects RX2 yX2_rebateOf yX2_rebateOf, Cond.code yX2_rebateOf cX2_rebateOf 2 (some .int), Cond.fieldLink RX2 40 "RentHarmony" "share" "I", Cond.methodLink RX2 152 yX2_firstRebateOf, Cond.instanceMethod yX2_firstRebateOf, Cond.selects RX2 yX2_firstRebateOf yX2_firstRebateOf, Cond.code yX2_firstRebateOf cX2_firstRebateOf 2 (some .int), Cond.fieldLink RX2 29 "RentHarmony" "firstRebates" "[I", Cond.methodLink RX2 63 yX0_has, Cond.methodLink RX2 117 yX2_payOf, Cond.instanceMethod yX2_payOf, Cond.selects RX2 yX2_payOf yX2_payOf, Cond.code yX2_payOf cX2_payOf 2 (some .int), Cond.methodLink RX2 155 yX2_enviedBy, Cond.instanceMethod yX2_enviedBy, Cond.selects RX2 yX2_enviedBy yX2_enviedBy, Cond.code yX2_enviedBy cX2_enviedBy 4 (some .int), Cond.methodLink RX2 46 yX0_size, Cond.instanceMethod yX0_size, Cond.selects RX0 yX0_size yX0_size, Cond.code yX0_size cX0_size 1 (some .int), Cond.methodLink RX2 110 yX2_wouldEnvy]
def wsX2_fact_r3 : List Cond := [Cond.instanceMethod yX2_wouldEnvy, Cond.selects RX2 yX2_wouldEnvy yX2_wouldEnvy, Cond.code yX2_wouldEnvy cX2_wouldEnvy 3 (some .boolean)]
def wsX2_fact : List Cond := .code yX2_fact cX2_fact 3 (some .int) :: ((wsX2_fact_r1 ++ (wsX2_fact_r2 ++ wsX2_fact_r3)) ++ wsX20 ++ wsX10 ++ wsX00)
def wsX2_told_r1 : List Cond := [Cond.classLink RX2 67 "java/lang/IndexOutOfBoundsException", Cond.initialized "java/lang/IndexOutOfBoundsException", Cond.fieldLink RX2 10 "RentHarmony" "bids" "LRentHarmony$Bids;", Cond.methodLink RX2 63 yX0_has, Cond.instanceMethod yX0_has, Cond.selects RX0 yX0_has yX0_has, Cond.initialized RX0, Cond.code yX0_has cX0_has 2 (some .boolean), Cond.fieldLink RX0 15 "RentHarmony$Bids" "size" "I", Cond.methodLink RX2 102 yX2_fact, Cond.instanceMethod yX2_fact, Cond.selects RX2 yX2_fact yX2_fact, Cond.initialized RX2, Cond.code yX2_fact cX2_fact 3 (some .int), Cond.fieldLink RX2 19 "RentHarmony" "giving" "LRentHarmony$Giving;", Cond.methodLink RX2 92 yX1_roomOf, Cond.instanceMethod yX1_roomOf, Cond.selects RX1 yX1_roomOf yX1_roomOf, Cond.initialized RX1, Cond.code yX1_roomOf cX1_roomOf 2 (some .int), Cond.fieldLink RX1 18 "RentHarmony$Giving" "rooms" "[I", Cond.methodLink RX2 149 yX2_ownBidOf, Cond.instanceMethod yX2_ownBidOf, Cond.selects RX2 yX2_ownBidOf yX2_ownBidOf]
def wsX2_told_r2 : List Cond := [Cond.code yX2_ownBidOf cX2_ownBidOf 2 (some .int), Cond.methodLink RX2 77 yX0_of, Cond.instanceMethod yX0_of, Cond.selects RX0 yX0_of yX0_of, Cond.code yX0_of cX0_of 3 (some .int), Cond.fieldLink RX0 9 "RentHarmony$Bids" "coins" "[I", Cond.methodLink RX0 19 yX0_has, Cond.methodLink RX2 114 yX2_rebateOf, Cond.instanceMethod yX2_rebateOf, Cond.selects RX2 yX2_rebateOf yX2_rebateOf, Cond.code yX2_rebateOf cX2_rebateOf 2 (some .int), Cond.fieldLink RX2 40 "RentHarmony" "share" "I", Cond.methodLink RX2 152 yX2_firstRebateOf, Cond.instanceMethod yX2_firstRebateOf, Cond.selects RX2 yX2_firstRebateOf yX2_firstRebateOf, Cond.code yX2_firstRebateOf cX2_firstRebateOf 2 (some .int), Cond.fieldLink RX2 29 "RentHarmony" "firstRebates" "[I", Cond.methodLink RX2 117 yX2_payOf, Cond.instanceMethod yX2_payOf, Cond.selects RX2 yX2_payOf yX2_payOf, Cond.code yX2_payOf cX2_payOf 2 (some .int), Cond.methodLink RX2 155 yX2_enviedBy, Cond.instanceMethod yX2_enviedBy, Cond.selects RX2 yX2_enviedBy yX2_enviedBy]
def wsX2_told_r3 : List Cond := [Cond.code yX2_enviedBy cX2_enviedBy 4 (some .int), Cond.methodLink RX2 46 yX0_size, Cond.instanceMethod yX0_size, Cond.selects RX0 yX0_size yX0_size, Cond.code yX0_size cX0_size 1 (some .int), Cond.methodLink RX2 110 yX2_wouldEnvy, Cond.instanceMethod yX2_wouldEnvy, Cond.selects RX2 yX2_wouldEnvy yX2_wouldEnvy, Cond.code yX2_wouldEnvy cX2_wouldEnvy 3 (some .boolean)]
def wsX2_told : List Cond := .code yX2_told cX2_told 3 (some .int) :: ((wsX2_told_r1 ++ (wsX2_told_r2 ++ wsX2_told_r3)) ++ wsX20 ++ wsX00 ++ wsX10 ++ (vx_atS RX2 71 "java/lang/IndexOutOfBoundsException" ["java/lang/RuntimeException", "java/lang/Exception"]).filter goodWord)
def wsX2_offer : List Cond := .code yX2_offer cX2_offer 3 (some .int) :: ([.classLink RX2 67 "java/lang/IndexOutOfBoundsException", .initialized "java/lang/IndexOutOfBoundsException", .fieldLink RX2 10 "RentHarmony" "bids" "LRentHarmony$Bids;", .methodLink RX2 63 yX0_has, .instanceMethod yX0_has, .selects RX0 yX0_has yX0_has, .initialized RX0, .code yX0_has cX0_has 2 (some .boolean), .fieldLink RX0 15 "RentHarmony$Bids" "size" "I", .methodLink RX2 77 yX0_of, .instanceMethod yX0_of, .selects RX0 yX0_of yX0_of, .code yX0_of cX0_of 3 (some .int), .fieldLink RX0 9 "RentHarmony$Bids" "coins" "[I", .methodLink RX0 19 yX0_has] ++ wsX20 ++ wsX00 ++ (vx_atS RX2 71 "java/lang/IndexOutOfBoundsException" ["java/lang/RuntimeException", "java/lang/Exception"]).filter goodWord)
def wsX2_allPays_r1 : List Cond := [Cond.fieldLink RX2 10 "RentHarmony" "bids" "LRentHarmony$Bids;", Cond.methodLink RX2 46 yX0_size, Cond.instanceMethod yX0_size, Cond.selects RX0 yX0_size yX0_size, Cond.initialized RX0, Cond.code yX0_size cX0_size 1 (some .int), Cond.fieldLink RX0 15 "RentHarmony$Bids" "size" "I", Cond.methodLink RX2 117 yX2_payOf, Cond.instanceMethod yX2_payOf, Cond.selects RX2 yX2_payOf yX2_payOf, Cond.initialized RX2, Cond.code yX2_payOf cX2_payOf 2 (some .int), Cond.methodLink RX2 149 yX2_ownBidOf, Cond.instanceMethod yX2_ownBidOf, Cond.selects RX2 yX2_ownBidOf yX2_ownBidOf, Cond.code yX2_ownBidOf cX2_ownBidOf 2 (some .int), Cond.fieldLink RX2 19 "RentHarmony" "giving" "LRentHarmony$Giving;", Cond.methodLink RX2 92 yX1_roomOf, Cond.instanceMethod yX1_roomOf, Cond.selects RX1 yX1_roomOf yX1_roomOf, Cond.initialized RX1, Cond.code yX1_roomOf cX1_roomOf 2 (some .int), Cond.fieldLink RX1 18 "RentHarmony$Giving" "rooms" "[I", Cond.methodLink RX2 77 yX0_of]
def wsX2_allPays_r2 : List Cond := [Cond.instanceMethod yX0_of, Cond.selects RX0 yX0_of yX0_of, Cond.code yX0_of cX0_of 3 (some .int), Cond.fieldLink RX0 9 "RentHarmony$Bids" "coins" "[I", Cond.methodLink RX0 19 yX0_has, Cond.instanceMethod yX0_has, Cond.selects RX0 yX0_has yX0_has, Cond.code yX0_has cX0_has 2 (some .boolean), Cond.methodLink RX2 114 yX2_rebateOf, Cond.instanceMethod yX2_rebateOf, Cond.selects RX2 yX2_rebateOf yX2_rebateOf, Cond.code yX2_rebateOf cX2_rebateOf 2 (some .int), Cond.fieldLink RX2 40 "RentHarmony" "share" "I", Cond.methodLink RX2 152 yX2_firstRebateOf, Cond.instanceMethod yX2_firstRebateOf, Cond.selects RX2 yX2_firstRebateOf yX2_firstRebateOf, Cond.code yX2_firstRebateOf cX2_firstRebateOf 2 (some .int), Cond.fieldLink RX2 29 "RentHarmony" "firstRebates" "[I", Cond.methodLink RX2 63 yX0_has]
def wsX2_allPays : List Cond := .code yX2_allPays cX2_allPays 3 (some .int) :: ((wsX2_allPays_r1 ++ wsX2_allPays_r2) ++ wsX20 ++ wsX00 ++ wsX10)
def wsX2_total_r1 : List Cond := [Cond.fieldLink RX2 10 "RentHarmony" "bids" "LRentHarmony$Bids;", Cond.fieldLink RX2 36 "RentHarmony" "rentCoins" "I", Cond.fieldLink RX2 19 "RentHarmony" "giving" "LRentHarmony$Giving;", Cond.fieldLink RX2 40 "RentHarmony" "share" "I", Cond.fieldLink RX2 43 "RentHarmony" "pot" "I", Cond.methodLink RX2 46 yX0_size, Cond.instanceMethod yX0_size, Cond.selects RX0 yX0_size yX0_size, Cond.initialized RX0, Cond.code yX0_size cX0_size 1 (some .int), Cond.fieldLink RX0 15 "RentHarmony$Bids" "size" "I", Cond.methodLink RX2 139 yX1_worth, Cond.instanceMethod yX1_worth, Cond.selects RX1 yX1_worth yX1_worth, Cond.initialized RX1, Cond.code yX1_worth cX1_worth 1 (some .int), Cond.fieldLink RX1 9 "RentHarmony$Giving" "bestOfRest" "[I", Cond.methodLink RX2 158 yX2_allFirstRebates, Cond.instanceMethod yX2_allFirstRebates, Cond.selects RX2 yX2_allFirstRebates yX2_allFirstRebates, Cond.initialized RX2, Cond.code yX2_allFirstRebates cX2_allFirstRebates 3 (some .int), Cond.fieldLink RX2 29 "RentHarmony" "firstRebates" "[I", Cond.methodLink RX2 161 yX1_ways]
def wsX2_total_r2 : List Cond := [Cond.instanceMethod yX1_ways, Cond.selects RX1 yX1_ways yX1_ways, Cond.code yX1_ways cX1_ways 1 (some .int), Cond.fieldLink RX1 15 "RentHarmony$Giving" "waysOfRest" "[I", Cond.methodLink RX2 142 yX2_allPays, Cond.instanceMethod yX2_allPays, Cond.selects RX2 yX2_allPays yX2_allPays, Cond.code yX2_allPays cX2_allPays 3 (some .int), Cond.methodLink RX2 117 yX2_payOf, Cond.instanceMethod yX2_payOf, Cond.selects RX2 yX2_payOf yX2_payOf, Cond.code yX2_payOf cX2_payOf 2 (some .int), Cond.methodLink RX2 149 yX2_ownBidOf, Cond.instanceMethod yX2_ownBidOf, Cond.selects RX2 yX2_ownBidOf yX2_ownBidOf, Cond.code yX2_ownBidOf cX2_ownBidOf 2 (some .int), Cond.methodLink RX2 92 yX1_roomOf, Cond.instanceMethod yX1_roomOf, Cond.selects RX1 yX1_roomOf yX1_roomOf, Cond.code yX1_roomOf cX1_roomOf 2 (some .int), Cond.fieldLink RX1 18 "RentHarmony$Giving" "rooms" "[I", Cond.methodLink RX2 77 yX0_of, Cond.instanceMethod yX0_of, Cond.selects RX0 yX0_of yX0_of]
def wsX2_total_r3 : List Cond := [Cond.code yX0_of cX0_of 3 (some .int), Cond.fieldLink RX0 9 "RentHarmony$Bids" "coins" "[I", Cond.methodLink RX0 19 yX0_has, Cond.instanceMethod yX0_has, Cond.selects RX0 yX0_has yX0_has, Cond.code yX0_has cX0_has 2 (some .boolean), Cond.methodLink RX2 114 yX2_rebateOf, Cond.instanceMethod yX2_rebateOf, Cond.selects RX2 yX2_rebateOf yX2_rebateOf, Cond.code yX2_rebateOf cX2_rebateOf 2 (some .int), Cond.methodLink RX2 152 yX2_firstRebateOf, Cond.instanceMethod yX2_firstRebateOf, Cond.selects RX2 yX2_firstRebateOf yX2_firstRebateOf, Cond.code yX2_firstRebateOf cX2_firstRebateOf 2 (some .int), Cond.methodLink RX2 63 yX0_has]
def wsX2_total : List Cond := .code yX2_total cX2_total 2 (some .int) :: ((wsX2_total_r1 ++ (wsX2_total_r2 ++ wsX2_total_r3)) ++ wsX20 ++ wsX00 ++ wsX10)
def wsX2_count_r1 : List Cond := [Cond.classLink RX2 67 "java/lang/IndexOutOfBoundsException", Cond.initialized "java/lang/IndexOutOfBoundsException", Cond.methodLink RX2 107 yX2_total, Cond.instanceMethod yX2_total, Cond.selects RX2 yX2_total yX2_total, Cond.initialized RX2, Cond.code yX2_total cX2_total 2 (some .int), Cond.fieldLink RX2 10 "RentHarmony" "bids" "LRentHarmony$Bids;", Cond.fieldLink RX2 36 "RentHarmony" "rentCoins" "I", Cond.fieldLink RX2 19 "RentHarmony" "giving" "LRentHarmony$Giving;", Cond.fieldLink RX2 40 "RentHarmony" "share" "I", Cond.fieldLink RX2 43 "RentHarmony" "pot" "I", Cond.methodLink RX2 46 yX0_size, Cond.instanceMethod yX0_size, Cond.selects RX0 yX0_size yX0_size, Cond.initialized RX0, Cond.code yX0_size cX0_size 1 (some .int), Cond.fieldLink RX0 15 "RentHarmony$Bids" "size" "I", Cond.methodLink RX2 139 yX1_worth, Cond.instanceMethod yX1_worth, Cond.selects RX1 yX1_worth yX1_worth, Cond.initialized RX1, Cond.code yX1_worth cX1_worth 1 (some .int), Cond.fieldLink RX1 9 "RentHarmony$Giving" "bestOfRest" "[I"]
def wsX2_count_r2 : List Cond := [Cond.methodLink RX2 158 yX2_allFirstRebates, Cond.instanceMethod yX2_allFirstRebates, Cond.selects RX2 yX2_allFirstRebates yX2_allFirstRebates, Cond.code yX2_allFirstRebates cX2_allFirstRebates 3 (some .int), Cond.fieldLink RX2 29 "RentHarmony" "firstRebates" "[I", Cond.methodLink RX2 161 yX1_ways, Cond.instanceMethod yX1_ways, Cond.selects RX1 yX1_ways yX1_ways, Cond.code yX1_ways cX1_ways 1 (some .int), Cond.fieldLink RX1 15 "RentHarmony$Giving" "waysOfRest" "[I", Cond.methodLink RX2 142 yX2_allPays, Cond.instanceMethod yX2_allPays, Cond.selects RX2 yX2_allPays yX2_allPays, Cond.code yX2_allPays cX2_allPays 3 (some .int), Cond.methodLink RX2 117 yX2_payOf, Cond.instanceMethod yX2_payOf, Cond.selects RX2 yX2_payOf yX2_payOf, Cond.code yX2_payOf cX2_payOf 2 (some .int), Cond.methodLink RX2 149 yX2_ownBidOf, Cond.instanceMethod yX2_ownBidOf, Cond.selects RX2 yX2_ownBidOf yX2_ownBidOf, Cond.code yX2_ownBidOf cX2_ownBidOf 2 (some .int), Cond.methodLink RX2 92 yX1_roomOf, Cond.instanceMethod yX1_roomOf]
def wsX2_count_r3 : List Cond := [Cond.selects RX1 yX1_roomOf yX1_roomOf, Cond.code yX1_roomOf cX1_roomOf 2 (some .int), Cond.fieldLink RX1 18 "RentHarmony$Giving" "rooms" "[I", Cond.methodLink RX2 77 yX0_of, Cond.instanceMethod yX0_of, Cond.selects RX0 yX0_of yX0_of, Cond.code yX0_of cX0_of 3 (some .int), Cond.fieldLink RX0 9 "RentHarmony$Bids" "coins" "[I", Cond.methodLink RX0 19 yX0_has, Cond.instanceMethod yX0_has, Cond.selects RX0 yX0_has yX0_has, Cond.code yX0_has cX0_has 2 (some .boolean), Cond.methodLink RX2 114 yX2_rebateOf, Cond.instanceMethod yX2_rebateOf, Cond.selects RX2 yX2_rebateOf yX2_rebateOf, Cond.code yX2_rebateOf cX2_rebateOf 2 (some .int), Cond.methodLink RX2 152 yX2_firstRebateOf, Cond.instanceMethod yX2_firstRebateOf, Cond.selects RX2 yX2_firstRebateOf yX2_firstRebateOf, Cond.code yX2_firstRebateOf cX2_firstRebateOf 2 (some .int), Cond.methodLink RX2 63 yX0_has]
def wsX2_count : List Cond := .code yX2_count cX2_count 2 (some .int) :: ((wsX2_count_r1 ++ (wsX2_count_r2 ++ wsX2_count_r3)) ++ wsX20 ++ wsX00 ++ wsX10 ++ (vx_atS RX2 71 "java/lang/IndexOutOfBoundsException" ["java/lang/RuntimeException", "java/lang/Exception"]).filter goodWord)
def wsX2_envies_r1 : List Cond := [Cond.classLink RX2 67 "java/lang/IndexOutOfBoundsException", Cond.initialized "java/lang/IndexOutOfBoundsException", Cond.fieldLink RX2 10 "RentHarmony" "bids" "LRentHarmony$Bids;", Cond.methodLink RX2 63 yX0_has, Cond.instanceMethod yX0_has, Cond.selects RX0 yX0_has yX0_has, Cond.initialized RX0, Cond.code yX0_has cX0_has 2 (some .boolean), Cond.fieldLink RX0 15 "RentHarmony$Bids" "size" "I", Cond.methodLink RX2 110 yX2_wouldEnvy, Cond.instanceMethod yX2_wouldEnvy, Cond.selects RX2 yX2_wouldEnvy yX2_wouldEnvy, Cond.initialized RX2, Cond.code yX2_wouldEnvy cX2_wouldEnvy 3 (some .boolean), Cond.fieldLink RX2 19 "RentHarmony" "giving" "LRentHarmony$Giving;", Cond.methodLink RX2 92 yX1_roomOf, Cond.instanceMethod yX1_roomOf, Cond.selects RX1 yX1_roomOf yX1_roomOf, Cond.initialized RX1, Cond.code yX1_roomOf cX1_roomOf 2 (some .int), Cond.fieldLink RX1 18 "RentHarmony$Giving" "rooms" "[I", Cond.methodLink RX2 77 yX0_of, Cond.instanceMethod yX0_of, Cond.selects RX0 yX0_of yX0_of]
def wsX2_envies_r2 : List Cond := [Cond.code yX0_of cX0_of 3 (some .int), Cond.fieldLink RX0 9 "RentHarmony$Bids" "coins" "[I", Cond.methodLink RX0 19 yX0_has, Cond.methodLink RX2 149 yX2_ownBidOf, Cond.instanceMethod yX2_ownBidOf, Cond.selects RX2 yX2_ownBidOf yX2_ownBidOf, Cond.code yX2_ownBidOf cX2_ownBidOf 2 (some .int)]
def wsX2_envies : List Cond := .code yX2_envies cX2_envies 3 (some .boolean) :: ((wsX2_envies_r1 ++ wsX2_envies_r2) ++ wsX20 ++ wsX00 ++ wsX10 ++ (vx_atS RX2 71 "java/lang/IndexOutOfBoundsException" ["java/lang/RuntimeException", "java/lang/Exception"]).filter goodWord)
def wsX2_gap_r1 : List Cond := [Cond.classLink RX2 67 "java/lang/IndexOutOfBoundsException", Cond.initialized "java/lang/IndexOutOfBoundsException", Cond.fieldLink RX2 10 "RentHarmony" "bids" "LRentHarmony$Bids;", Cond.fieldLink RX2 19 "RentHarmony" "giving" "LRentHarmony$Giving;", Cond.methodLink RX2 63 yX0_has, Cond.instanceMethod yX0_has, Cond.selects RX0 yX0_has yX0_has, Cond.initialized RX0, Cond.code yX0_has cX0_has 2 (some .boolean), Cond.fieldLink RX0 15 "RentHarmony$Bids" "size" "I", Cond.methodLink RX2 114 yX2_rebateOf, Cond.instanceMethod yX2_rebateOf, Cond.selects RX2 yX2_rebateOf yX2_rebateOf, Cond.initialized RX2, Cond.code yX2_rebateOf cX2_rebateOf 2 (some .int), Cond.fieldLink RX2 40 "RentHarmony" "share" "I", Cond.methodLink RX2 152 yX2_firstRebateOf, Cond.instanceMethod yX2_firstRebateOf, Cond.selects RX2 yX2_firstRebateOf yX2_firstRebateOf, Cond.code yX2_firstRebateOf cX2_firstRebateOf 2 (some .int), Cond.fieldLink RX2 29 "RentHarmony" "firstRebates" "[I", Cond.methodLink RX2 92 yX1_roomOf, Cond.instanceMethod yX1_roomOf, Cond.selects RX1 yX1_roomOf yX1_roomOf]
def wsX2_gap_r2 : List Cond := [Cond.initialized RX1, Cond.code yX1_roomOf cX1_roomOf 2 (some .int), Cond.fieldLink RX1 18 "RentHarmony$Giving" "rooms" "[I", Cond.methodLink RX2 77 yX0_of, Cond.instanceMethod yX0_of, Cond.selects RX0 yX0_of yX0_of, Cond.code yX0_of cX0_of 3 (some .int), Cond.fieldLink RX0 9 "RentHarmony$Bids" "coins" "[I", Cond.methodLink RX0 19 yX0_has, Cond.methodLink RX2 117 yX2_payOf, Cond.instanceMethod yX2_payOf, Cond.selects RX2 yX2_payOf yX2_payOf, Cond.code yX2_payOf cX2_payOf 2 (some .int), Cond.methodLink RX2 149 yX2_ownBidOf, Cond.instanceMethod yX2_ownBidOf, Cond.selects RX2 yX2_ownBidOf yX2_ownBidOf, Cond.code yX2_ownBidOf cX2_ownBidOf 2 (some .int)]
def wsX2_gap : List Cond := .code yX2_gap cX2_gap 3 (some .int) :: ((wsX2_gap_r1 ++ wsX2_gap_r2) ++ wsX20 ++ wsX00 ++ wsX10 ++ (vx_atS RX2 71 "java/lang/IndexOutOfBoundsException" ["java/lang/RuntimeException", "java/lang/Exception"]).filter goodWord)
def wsX2_longestChainFrom_r1 : List Cond := [Cond.fieldLink RX2 10 "RentHarmony" "bids" "LRentHarmony$Bids;", Cond.fieldLink RX2 33 "RentHarmony" "chains" "[I", Cond.methodLink RX2 123 Lib.Math.max.name, Cond.static Lib.Math.max.name, Cond.initialized "java/lang/Math", Cond.code Lib.Math.max.name Lib.Math.max.code 2 (some .int), Cond.methodLink RX2 46 yX0_size, Cond.instanceMethod yX0_size, Cond.selects RX0 yX0_size yX0_size, Cond.initialized RX0, Cond.code yX0_size cX0_size 1 (some .int), Cond.fieldLink RX0 15 "RentHarmony$Bids" "size" "I", Cond.methodLink RX2 110 yX2_wouldEnvy, Cond.instanceMethod yX2_wouldEnvy, Cond.selects RX2 yX2_wouldEnvy yX2_wouldEnvy, Cond.initialized RX2, Cond.code yX2_wouldEnvy cX2_wouldEnvy 3 (some .boolean), Cond.fieldLink RX2 19 "RentHarmony" "giving" "LRentHarmony$Giving;", Cond.methodLink RX2 92 yX1_roomOf, Cond.instanceMethod yX1_roomOf, Cond.selects RX1 yX1_roomOf yX1_roomOf, Cond.initialized RX1, Cond.code yX1_roomOf cX1_roomOf 2 (some .int), Cond.fieldLink RX1 18 "RentHarmony$Giving" "rooms" "[I"]
def wsX2_longestChainFrom_r2 : List Cond := [Cond.methodLink RX2 77 yX0_of, Cond.instanceMethod yX0_of, Cond.selects RX0 yX0_of yX0_of, Cond.code yX0_of cX0_of 3 (some .int), Cond.fieldLink RX0 9 "RentHarmony$Bids" "coins" "[I", Cond.methodLink RX0 19 yX0_has, Cond.instanceMethod yX0_has, Cond.selects RX0 yX0_has yX0_has, Cond.code yX0_has cX0_has 2 (some .boolean), Cond.methodLink RX2 149 yX2_ownBidOf, Cond.instanceMethod yX2_ownBidOf, Cond.selects RX2 yX2_ownBidOf yX2_ownBidOf, Cond.code yX2_ownBidOf cX2_ownBidOf 2 (some .int)]
def wsX2_longestChainFrom : List Cond := .code yX2_longestChainFrom cX2_longestChainFrom 4 (some .int) :: ((wsX2_longestChainFrom_r1 ++ wsX2_longestChainFrom_r2) ++ wsX20 ++ wsX00 ++ wsX10)
def wsX2_chain_r1 : List Cond := [Cond.fieldLink RX2 10 "RentHarmony" "bids" "LRentHarmony$Bids;", Cond.fieldLink RX2 33 "RentHarmony" "chains" "[I", Cond.methodLink RX2 123 Lib.Math.max.name, Cond.static Lib.Math.max.name, Cond.initialized "java/lang/Math", Cond.code Lib.Math.max.name Lib.Math.max.code 2 (some .int), Cond.methodLink RX2 46 yX0_size, Cond.instanceMethod yX0_size, Cond.selects RX0 yX0_size yX0_size, Cond.initialized RX0, Cond.code yX0_size cX0_size 1 (some .int), Cond.fieldLink RX0 15 "RentHarmony$Bids" "size" "I", Cond.methodLink RX2 120 yX2_longestChainFrom, Cond.instanceMethod yX2_longestChainFrom, Cond.selects RX2 yX2_longestChainFrom yX2_longestChainFrom, Cond.initialized RX2, Cond.code yX2_longestChainFrom cX2_longestChainFrom 4 (some .int), Cond.methodLink RX2 110 yX2_wouldEnvy, Cond.instanceMethod yX2_wouldEnvy, Cond.selects RX2 yX2_wouldEnvy yX2_wouldEnvy, Cond.code yX2_wouldEnvy cX2_wouldEnvy 3 (some .boolean), Cond.fieldLink RX2 19 "RentHarmony" "giving" "LRentHarmony$Giving;", Cond.methodLink RX2 92 yX1_roomOf, Cond.instanceMethod yX1_roomOf]
def wsX2_chain_r2 : List Cond := [Cond.selects RX1 yX1_roomOf yX1_roomOf, Cond.initialized RX1, Cond.code yX1_roomOf cX1_roomOf 2 (some .int), Cond.fieldLink RX1 18 "RentHarmony$Giving" "rooms" "[I", Cond.methodLink RX2 77 yX0_of, Cond.instanceMethod yX0_of, Cond.selects RX0 yX0_of yX0_of, Cond.code yX0_of cX0_of 3 (some .int), Cond.fieldLink RX0 9 "RentHarmony$Bids" "coins" "[I", Cond.methodLink RX0 19 yX0_has, Cond.instanceMethod yX0_has, Cond.selects RX0 yX0_has yX0_has, Cond.code yX0_has cX0_has 2 (some .boolean), Cond.methodLink RX2 149 yX2_ownBidOf, Cond.instanceMethod yX2_ownBidOf, Cond.selects RX2 yX2_ownBidOf yX2_ownBidOf, Cond.code yX2_ownBidOf cX2_ownBidOf 2 (some .int)]
def wsX2_chain : List Cond := .code yX2_chain cX2_chain 4 (some .int) :: ((wsX2_chain_r1 ++ wsX2_chain_r2) ++ wsX20 ++ wsX00 ++ wsX10)
def wsX2_roomTried_r1 : List Cond := [Cond.fieldLink RX2 23 "RentHarmony" "triedBids" "LRentHarmony$Bids;", Cond.fieldLink RX2 26 "RentHarmony" "triedGiving" "LRentHarmony$Giving;", Cond.methodLink RX2 81 yX0_set, Cond.instanceMethod yX0_set, Cond.selects RX0 yX0_set yX0_set, Cond.initialized RX0, Cond.code yX0_set cX0_set 4 none, Cond.fieldLink RX0 9 "RentHarmony$Bids" "coins" "[I", Cond.methodLink RX0 19 yX0_has, Cond.instanceMethod yX0_has, Cond.selects RX0 yX0_has yX0_has, Cond.code yX0_has cX0_has 2 (some .boolean), Cond.fieldLink RX0 15 "RentHarmony$Bids" "size" "I", Cond.methodLink RX2 136 yX1_choose, Cond.instanceMethod yX1_choose, Cond.selects RX1 yX1_choose yX1_choose, Cond.initialized RX1, Cond.code yX1_choose cX1_choose 5 none, Cond.fieldLink RX1 9 "RentHarmony$Giving" "bestOfRest" "[I", Cond.fieldLink RX1 15 "RentHarmony$Giving" "waysOfRest" "[I", Cond.fieldLink RX1 18 "RentHarmony$Giving" "rooms" "[I", Cond.methodLink RX1 21 yX0_size, Cond.instanceMethod yX0_size, Cond.selects RX0 yX0_size yX0_size]
def wsX2_roomTried_r2 : List Cond := [Cond.code yX0_size cX0_size 1 (some .int), Cond.methodLink RX1 27 yX1_weigh, Cond.instanceMethod yX1_weigh, Cond.selects RX1 yX1_weigh yX1_weigh, Cond.code yX1_weigh cX1_weigh 9 none, Cond.methodLink RX1 35 yJ6_bitCount_0f7a4, Cond.static yJ6_bitCount_0f7a4, Cond.initialized RJ6, Cond.code yJ6_bitCount_0f7a4 cJ6_bitCount_0f7a4 1 (some .int), Cond.constant RJ6 265 (1431655765), Cond.constant RJ6 266 (858993459), Cond.constant RJ6 267 (252645135), Cond.methodLink RX1 41 yX0_of, Cond.instanceMethod yX0_of, Cond.selects RX0 yX0_of yX0_of, Cond.code yX0_of cX0_of 3 (some .int), Cond.methodLink RX1 31 yX1_firstBestRoom, Cond.instanceMethod yX1_firstBestRoom, Cond.selects RX1 yX1_firstBestRoom yX1_firstBestRoom, Cond.code yX1_firstBestRoom cX1_firstBestRoom 5 (some .int), Cond.methodLink RX2 92 yX1_roomOf, Cond.instanceMethod yX1_roomOf, Cond.selects RX1 yX1_roomOf yX1_roomOf, Cond.code yX1_roomOf cX1_roomOf 2 (some .int)]
def wsX2_roomTried : List Cond := .code yX2_roomTried cX2_roomTried 4 (some .int) :: ((wsX2_roomTried_r1 ++ wsX2_roomTried_r2) ++ wsX20 ++ wsX00 ++ wsX10)
def wsX2_would_r1 : List Cond := [Cond.classLink RX2 67 "java/lang/IndexOutOfBoundsException", Cond.initialized "java/lang/IndexOutOfBoundsException", Cond.classLink RX2 72 "java/lang/IllegalArgumentException", Cond.initialized "java/lang/IllegalArgumentException", Cond.fieldLink RX2 10 "RentHarmony" "bids" "LRentHarmony$Bids;", Cond.fieldLink RX2 23 "RentHarmony" "triedBids" "LRentHarmony$Bids;", Cond.methodLink RX2 63 yX0_has, Cond.instanceMethod yX0_has, Cond.selects RX0 yX0_has yX0_has, Cond.initialized RX0, Cond.code yX0_has cX0_has 2 (some .boolean), Cond.fieldLink RX0 15 "RentHarmony$Bids" "size" "I", Cond.methodLink RX2 128 yX0_copy, Cond.instanceMethod yX0_copy, Cond.selects RX0 yX0_copy yX0_copy, Cond.code yX0_copy cX0_copy 2 none, Cond.fieldLink RX0 9 "RentHarmony$Bids" "coins" "[I", Cond.methodLink RX0 23 arraycopyName, Cond.native arraycopyName, Cond.static arraycopyName, Cond.initialized "java/lang/System", Cond.methodLink RX2 132 yX2_roomTried, Cond.instanceMethod yX2_roomTried, Cond.selects RX2 yX2_roomTried yX2_roomTried]
def wsX2_would_r2 : List Cond := [Cond.initialized RX2, Cond.code yX2_roomTried cX2_roomTried 4 (some .int), Cond.fieldLink RX2 26 "RentHarmony" "triedGiving" "LRentHarmony$Giving;", Cond.methodLink RX2 81 yX0_set, Cond.instanceMethod yX0_set, Cond.selects RX0 yX0_set yX0_set, Cond.code yX0_set cX0_set 4 none, Cond.methodLink RX0 19 yX0_has, Cond.methodLink RX2 136 yX1_choose, Cond.instanceMethod yX1_choose, Cond.selects RX1 yX1_choose yX1_choose, Cond.initialized RX1, Cond.code yX1_choose cX1_choose 5 none, Cond.fieldLink RX1 9 "RentHarmony$Giving" "bestOfRest" "[I", Cond.fieldLink RX1 15 "RentHarmony$Giving" "waysOfRest" "[I", Cond.fieldLink RX1 18 "RentHarmony$Giving" "rooms" "[I", Cond.methodLink RX1 21 yX0_size, Cond.instanceMethod yX0_size, Cond.selects RX0 yX0_size yX0_size, Cond.code yX0_size cX0_size 1 (some .int), Cond.methodLink RX1 27 yX1_weigh, Cond.instanceMethod yX1_weigh, Cond.selects RX1 yX1_weigh yX1_weigh, Cond.code yX1_weigh cX1_weigh 9 none]
def wsX2_would_r3 : List Cond := [Cond.methodLink RX1 35 yJ6_bitCount_0f7a4, Cond.static yJ6_bitCount_0f7a4, Cond.initialized RJ6, Cond.code yJ6_bitCount_0f7a4 cJ6_bitCount_0f7a4 1 (some .int), Cond.constant RJ6 265 (1431655765), Cond.constant RJ6 266 (858993459), Cond.constant RJ6 267 (252645135), Cond.methodLink RX1 41 yX0_of, Cond.instanceMethod yX0_of, Cond.selects RX0 yX0_of yX0_of, Cond.code yX0_of cX0_of 3 (some .int), Cond.methodLink RX1 31 yX1_firstBestRoom, Cond.instanceMethod yX1_firstBestRoom, Cond.selects RX1 yX1_firstBestRoom yX1_firstBestRoom, Cond.code yX1_firstBestRoom cX1_firstBestRoom 5 (some .int), Cond.methodLink RX2 92 yX1_roomOf, Cond.instanceMethod yX1_roomOf, Cond.selects RX1 yX1_roomOf yX1_roomOf, Cond.code yX1_roomOf cX1_roomOf 2 (some .int)]
def wsX2_would : List Cond := .code yX2_would cX2_would 4 (some .int) :: ((wsX2_would_r1 ++ (wsX2_would_r2 ++ wsX2_would_r3)) ++ wsX20 ++ wsX00 ++ wsX10 ++ (vx_atS RX2 71 "java/lang/IndexOutOfBoundsException" ["java/lang/RuntimeException", "java/lang/Exception"]).filter goodWord ++ (vx_atS RX2 76 "java/lang/IllegalArgumentException" ["java/lang/RuntimeException", "java/lang/Exception"]).filter goodWord)
def wsX2_needs_r1 : List Cond := [Cond.classLink RX2 67 "java/lang/IndexOutOfBoundsException", Cond.initialized "java/lang/IndexOutOfBoundsException", Cond.fieldLink RX2 10 "RentHarmony" "bids" "LRentHarmony$Bids;", Cond.fieldLink RX2 23 "RentHarmony" "triedBids" "LRentHarmony$Bids;", Cond.methodLink RX2 63 yX0_has, Cond.instanceMethod yX0_has, Cond.selects RX0 yX0_has yX0_has, Cond.initialized RX0, Cond.code yX0_has cX0_has 2 (some .boolean), Cond.fieldLink RX0 15 "RentHarmony$Bids" "size" "I", Cond.methodLink RX2 128 yX0_copy, Cond.instanceMethod yX0_copy, Cond.selects RX0 yX0_copy yX0_copy, Cond.code yX0_copy cX0_copy 2 none, Cond.fieldLink RX0 9 "RentHarmony$Bids" "coins" "[I", Cond.methodLink RX0 23 arraycopyName, Cond.native arraycopyName, Cond.static arraycopyName, Cond.initialized "java/lang/System", Cond.methodLink RX2 132 yX2_roomTried, Cond.instanceMethod yX2_roomTried, Cond.selects RX2 yX2_roomTried yX2_roomTried, Cond.initialized RX2, Cond.code yX2_roomTried cX2_roomTried 4 (some .int)]
def wsX2_needs_r2 : List Cond := [Cond.fieldLink RX2 26 "RentHarmony" "triedGiving" "LRentHarmony$Giving;", Cond.methodLink RX2 81 yX0_set, Cond.instanceMethod yX0_set, Cond.selects RX0 yX0_set yX0_set, Cond.code yX0_set cX0_set 4 none, Cond.methodLink RX0 19 yX0_has, Cond.methodLink RX2 136 yX1_choose, Cond.instanceMethod yX1_choose, Cond.selects RX1 yX1_choose yX1_choose, Cond.initialized RX1, Cond.code yX1_choose cX1_choose 5 none, Cond.fieldLink RX1 9 "RentHarmony$Giving" "bestOfRest" "[I", Cond.fieldLink RX1 15 "RentHarmony$Giving" "waysOfRest" "[I", Cond.fieldLink RX1 18 "RentHarmony$Giving" "rooms" "[I", Cond.methodLink RX1 21 yX0_size, Cond.instanceMethod yX0_size, Cond.selects RX0 yX0_size yX0_size, Cond.code yX0_size cX0_size 1 (some .int), Cond.methodLink RX1 27 yX1_weigh, Cond.instanceMethod yX1_weigh, Cond.selects RX1 yX1_weigh yX1_weigh, Cond.code yX1_weigh cX1_weigh 9 none, Cond.methodLink RX1 35 yJ6_bitCount_0f7a4, Cond.static yJ6_bitCount_0f7a4]
def wsX2_needs_r3 : List Cond := [Cond.initialized RJ6, Cond.code yJ6_bitCount_0f7a4 cJ6_bitCount_0f7a4 1 (some .int), Cond.constant RJ6 265 (1431655765), Cond.constant RJ6 266 (858993459), Cond.constant RJ6 267 (252645135), Cond.methodLink RX1 41 yX0_of, Cond.instanceMethod yX0_of, Cond.selects RX0 yX0_of yX0_of, Cond.code yX0_of cX0_of 3 (some .int), Cond.methodLink RX1 31 yX1_firstBestRoom, Cond.instanceMethod yX1_firstBestRoom, Cond.selects RX1 yX1_firstBestRoom yX1_firstBestRoom, Cond.code yX1_firstBestRoom cX1_firstBestRoom 5 (some .int), Cond.methodLink RX2 92 yX1_roomOf, Cond.instanceMethod yX1_roomOf, Cond.selects RX1 yX1_roomOf yX1_roomOf, Cond.code yX1_roomOf cX1_roomOf 2 (some .int)]
def wsX2_needs : List Cond := .code yX2_needs cX2_needs 6 (some .int) :: ((wsX2_needs_r1 ++ (wsX2_needs_r2 ++ wsX2_needs_r3)) ++ wsX20 ++ wsX00 ++ wsX10 ++ (vx_atS RX2 71 "java/lang/IndexOutOfBoundsException" ["java/lang/RuntimeException", "java/lang/Exception"]).filter goodWord)
def wsX2_without_r1 : List Cond := [Cond.classLink RX2 67 "java/lang/IndexOutOfBoundsException", Cond.initialized "java/lang/IndexOutOfBoundsException", Cond.fieldLink RX2 10 "RentHarmony" "bids" "LRentHarmony$Bids;", Cond.fieldLink RX2 23 "RentHarmony" "triedBids" "LRentHarmony$Bids;", Cond.fieldLink RX2 26 "RentHarmony" "triedGiving" "LRentHarmony$Giving;", Cond.methodLink RX2 63 yX0_has, Cond.instanceMethod yX0_has, Cond.selects RX0 yX0_has yX0_has, Cond.initialized RX0, Cond.code yX0_has cX0_has 2 (some .boolean), Cond.fieldLink RX0 15 "RentHarmony$Bids" "size" "I", Cond.methodLink RX2 128 yX0_copy, Cond.instanceMethod yX0_copy, Cond.selects RX0 yX0_copy yX0_copy, Cond.code yX0_copy cX0_copy 2 none, Cond.fieldLink RX0 9 "RentHarmony$Bids" "coins" "[I", Cond.methodLink RX0 23 arraycopyName, Cond.native arraycopyName, Cond.static arraycopyName, Cond.initialized "java/lang/System", Cond.methodLink RX2 46 yX0_size, Cond.instanceMethod yX0_size, Cond.selects RX0 yX0_size yX0_size, Cond.code yX0_size cX0_size 1 (some .int)]
def wsX2_without_r2 : List Cond := [Cond.methodLink RX2 81 yX0_set, Cond.instanceMethod yX0_set, Cond.selects RX0 yX0_set yX0_set, Cond.code yX0_set cX0_set 4 none, Cond.methodLink RX0 19 yX0_has, Cond.methodLink RX2 136 yX1_choose, Cond.instanceMethod yX1_choose, Cond.selects RX1 yX1_choose yX1_choose, Cond.initialized RX1, Cond.code yX1_choose cX1_choose 5 none, Cond.fieldLink RX1 9 "RentHarmony$Giving" "bestOfRest" "[I", Cond.fieldLink RX1 15 "RentHarmony$Giving" "waysOfRest" "[I", Cond.fieldLink RX1 18 "RentHarmony$Giving" "rooms" "[I", Cond.methodLink RX1 21 yX0_size, Cond.methodLink RX1 27 yX1_weigh, Cond.instanceMethod yX1_weigh, Cond.selects RX1 yX1_weigh yX1_weigh, Cond.code yX1_weigh cX1_weigh 9 none, Cond.methodLink RX1 35 yJ6_bitCount_0f7a4, Cond.static yJ6_bitCount_0f7a4, Cond.initialized RJ6, Cond.code yJ6_bitCount_0f7a4 cJ6_bitCount_0f7a4 1 (some .int), Cond.constant RJ6 265 (1431655765), Cond.constant RJ6 266 (858993459)]
def wsX2_without_r3 : List Cond := [Cond.constant RJ6 267 (252645135), Cond.methodLink RX1 41 yX0_of, Cond.instanceMethod yX0_of, Cond.selects RX0 yX0_of yX0_of, Cond.code yX0_of cX0_of 3 (some .int), Cond.methodLink RX1 31 yX1_firstBestRoom, Cond.instanceMethod yX1_firstBestRoom, Cond.selects RX1 yX1_firstBestRoom yX1_firstBestRoom, Cond.code yX1_firstBestRoom cX1_firstBestRoom 5 (some .int), Cond.methodLink RX2 139 yX1_worth, Cond.instanceMethod yX1_worth, Cond.selects RX1 yX1_worth yX1_worth, Cond.code yX1_worth cX1_worth 1 (some .int)]
def wsX2_without : List Cond := .code yX2_without cX2_without 3 (some .int) :: ((wsX2_without_r1 ++ (wsX2_without_r2 ++ wsX2_without_r3)) ++ wsX20 ++ wsX00 ++ wsX10 ++ (vx_atS RX2 71 "java/lang/IndexOutOfBoundsException" ["java/lang/RuntimeException", "java/lang/Exception"]).filter goodWord)
def wsX2_mean_r1 : List Cond := [Cond.fieldLink RX2 10 "RentHarmony" "bids" "LRentHarmony$Bids;", Cond.methodLink RX2 46 yX0_size, Cond.instanceMethod yX0_size, Cond.selects RX0 yX0_size yX0_size, Cond.initialized RX0, Cond.code yX0_size cX0_size 1 (some .int), Cond.fieldLink RX0 15 "RentHarmony$Bids" "size" "I", Cond.methodLink RX2 142 yX2_allPays, Cond.instanceMethod yX2_allPays, Cond.selects RX2 yX2_allPays yX2_allPays, Cond.initialized RX2, Cond.code yX2_allPays cX2_allPays 3 (some .int), Cond.methodLink RX2 117 yX2_payOf, Cond.instanceMethod yX2_payOf, Cond.selects RX2 yX2_payOf yX2_payOf, Cond.code yX2_payOf cX2_payOf 2 (some .int), Cond.methodLink RX2 149 yX2_ownBidOf, Cond.instanceMethod yX2_ownBidOf, Cond.selects RX2 yX2_ownBidOf yX2_ownBidOf, Cond.code yX2_ownBidOf cX2_ownBidOf 2 (some .int), Cond.fieldLink RX2 19 "RentHarmony" "giving" "LRentHarmony$Giving;", Cond.methodLink RX2 92 yX1_roomOf, Cond.instanceMethod yX1_roomOf, Cond.selects RX1 yX1_roomOf yX1_roomOf]
def wsX2_mean_r2 : List Cond := [Cond.initialized RX1, Cond.code yX1_roomOf cX1_roomOf 2 (some .int), Cond.fieldLink RX1 18 "RentHarmony$Giving" "rooms" "[I", Cond.methodLink RX2 77 yX0_of, Cond.instanceMethod yX0_of, Cond.selects RX0 yX0_of yX0_of, Cond.code yX0_of cX0_of 3 (some .int), Cond.fieldLink RX0 9 "RentHarmony$Bids" "coins" "[I", Cond.methodLink RX0 19 yX0_has, Cond.instanceMethod yX0_has, Cond.selects RX0 yX0_has yX0_has, Cond.code yX0_has cX0_has 2 (some .boolean), Cond.methodLink RX2 114 yX2_rebateOf, Cond.instanceMethod yX2_rebateOf, Cond.selects RX2 yX2_rebateOf yX2_rebateOf, Cond.code yX2_rebateOf cX2_rebateOf 2 (some .int), Cond.fieldLink RX2 40 "RentHarmony" "share" "I", Cond.methodLink RX2 152 yX2_firstRebateOf, Cond.instanceMethod yX2_firstRebateOf, Cond.selects RX2 yX2_firstRebateOf yX2_firstRebateOf, Cond.code yX2_firstRebateOf cX2_firstRebateOf 2 (some .int), Cond.fieldLink RX2 29 "RentHarmony" "firstRebates" "[I", Cond.methodLink RX2 63 yX0_has]
def wsX2_mean : List Cond := .code yX2_mean cX2_mean 2 (some .double) :: ((wsX2_mean_r1 ++ wsX2_mean_r2) ++ wsX20 ++ wsX00 ++ wsX10)
def wsX2_digest_r1 : List Cond := [Cond.constantLong RX2 145 (1301), Cond.constantLong RX2 147 (31), Cond.fieldLink RX2 10 "RentHarmony" "bids" "LRentHarmony$Bids;", Cond.methodLink RX2 107 yX2_total, Cond.instanceMethod yX2_total, Cond.selects RX2 yX2_total yX2_total, Cond.initialized RX2, Cond.code yX2_total cX2_total 2 (some .int), Cond.fieldLink RX2 36 "RentHarmony" "rentCoins" "I", Cond.fieldLink RX2 19 "RentHarmony" "giving" "LRentHarmony$Giving;", Cond.fieldLink RX2 40 "RentHarmony" "share" "I", Cond.fieldLink RX2 43 "RentHarmony" "pot" "I", Cond.methodLink RX2 46 yX0_size, Cond.instanceMethod yX0_size, Cond.selects RX0 yX0_size yX0_size, Cond.initialized RX0, Cond.code yX0_size cX0_size 1 (some .int), Cond.fieldLink RX0 15 "RentHarmony$Bids" "size" "I", Cond.methodLink RX2 139 yX1_worth, Cond.instanceMethod yX1_worth, Cond.selects RX1 yX1_worth yX1_worth, Cond.initialized RX1, Cond.code yX1_worth cX1_worth 1 (some .int), Cond.fieldLink RX1 9 "RentHarmony$Giving" "bestOfRest" "[I"]
def wsX2_digest_r2 : List Cond := [Cond.methodLink RX2 158 yX2_allFirstRebates, Cond.instanceMethod yX2_allFirstRebates, Cond.selects RX2 yX2_allFirstRebates yX2_allFirstRebates, Cond.code yX2_allFirstRebates cX2_allFirstRebates 3 (some .int), Cond.fieldLink RX2 29 "RentHarmony" "firstRebates" "[I", Cond.methodLink RX2 161 yX1_ways, Cond.instanceMethod yX1_ways, Cond.selects RX1 yX1_ways yX1_ways, Cond.code yX1_ways cX1_ways 1 (some .int), Cond.fieldLink RX1 15 "RentHarmony$Giving" "waysOfRest" "[I", Cond.methodLink RX2 142 yX2_allPays, Cond.instanceMethod yX2_allPays, Cond.selects RX2 yX2_allPays yX2_allPays, Cond.code yX2_allPays cX2_allPays 3 (some .int), Cond.methodLink RX2 117 yX2_payOf, Cond.instanceMethod yX2_payOf, Cond.selects RX2 yX2_payOf yX2_payOf, Cond.code yX2_payOf cX2_payOf 2 (some .int), Cond.methodLink RX2 149 yX2_ownBidOf, Cond.instanceMethod yX2_ownBidOf, Cond.selects RX2 yX2_ownBidOf yX2_ownBidOf, Cond.code yX2_ownBidOf cX2_ownBidOf 2 (some .int), Cond.methodLink RX2 92 yX1_roomOf, Cond.instanceMethod yX1_roomOf]
def wsX2_digest_r3 : List Cond := [Cond.selects RX1 yX1_roomOf yX1_roomOf, Cond.code yX1_roomOf cX1_roomOf 2 (some .int), Cond.fieldLink RX1 18 "RentHarmony$Giving" "rooms" "[I", Cond.methodLink RX2 77 yX0_of, Cond.instanceMethod yX0_of, Cond.selects RX0 yX0_of yX0_of, Cond.code yX0_of cX0_of 3 (some .int), Cond.fieldLink RX0 9 "RentHarmony$Bids" "coins" "[I", Cond.methodLink RX0 19 yX0_has, Cond.instanceMethod yX0_has, Cond.selects RX0 yX0_has yX0_has, Cond.code yX0_has cX0_has 2 (some .boolean), Cond.methodLink RX2 114 yX2_rebateOf, Cond.instanceMethod yX2_rebateOf, Cond.selects RX2 yX2_rebateOf yX2_rebateOf, Cond.code yX2_rebateOf cX2_rebateOf 2 (some .int), Cond.methodLink RX2 152 yX2_firstRebateOf, Cond.instanceMethod yX2_firstRebateOf, Cond.selects RX2 yX2_firstRebateOf yX2_firstRebateOf, Cond.code yX2_firstRebateOf cX2_firstRebateOf 2 (some .int), Cond.methodLink RX2 63 yX0_has, Cond.methodLink RX2 102 yX2_fact, Cond.instanceMethod yX2_fact, Cond.selects RX2 yX2_fact yX2_fact]
def wsX2_digest_r4 : List Cond := [Cond.code yX2_fact cX2_fact 3 (some .int), Cond.methodLink RX2 155 yX2_enviedBy, Cond.instanceMethod yX2_enviedBy, Cond.selects RX2 yX2_enviedBy yX2_enviedBy, Cond.code yX2_enviedBy cX2_enviedBy 4 (some .int), Cond.methodLink RX2 110 yX2_wouldEnvy, Cond.instanceMethod yX2_wouldEnvy, Cond.selects RX2 yX2_wouldEnvy yX2_wouldEnvy, Cond.code yX2_wouldEnvy cX2_wouldEnvy 3 (some .boolean)]
def wsX2_digest : List Cond := .code yX2_digest cX2_digest 5 (some .long) :: ((wsX2_digest_r1 ++ (wsX2_digest_r2 ++ (wsX2_digest_r3 ++ wsX2_digest_r4))) ++ wsX20 ++ wsX00 ++ wsX10)
def wsX3_init : List Cond := .code yX3_init cX3_init 1 none :: ([.methodLink RX3 1 objectInit, .instanceMethod objectInit, .code objectInit ⟨#[0xb1]⟩ 1 none, .arrayClass .int, .fieldLink RX3 9 "RentHarmonyModel" "bids" "[I", .fieldLink RX3 13 "RentHarmonyModel" "rooms" "[I", .fieldLink RX3 16 "RentHarmonyModel" "early" "[I", .fieldLink RX3 19 "RentHarmonyModel" "rebates" "[I", .fieldLink RX3 22 "RentHarmonyModel" "tried" "[I", .fieldLink RX3 25 "RentHarmonyModel" "free" "I", .fieldLink RX3 29 "RentHarmonyModel" "who" "I", .fieldLink RX3 32 "RentHarmonyModel" "which" "I"] ++ wsX30)
def wsX3_thrown : List Cond := .code yX3_thrown cX3_thrown 1 (some .int) :: ([.fieldLink RX3 35 "RentHarmonyModel" "thrown" "I"] ++ wsX30)
def wsX3_fail : List Cond := .code yX3_fail cX3_fail 2 (some .int) :: ([.fieldLink RX3 35 "RentHarmonyModel" "thrown" "I"] ++ wsX30)
def wsX3_isIn : List Cond := .code yX3_isIn cX3_isIn 3 (some .boolean) :: ([])
def wsX3_isOne : List Cond := .code yX3_isOne cX3_isOne 2 (some .boolean) :: ([.fieldLink RX3 38 "RentHarmonyModel" "lodgers" "I", .methodLink RX3 41 yX3_isIn, .static yX3_isIn, .initialized RX3, .code yX3_isIn cX3_isIn 3 (some .boolean)] ++ wsX30)
def wsX3_bi : List Cond := .code yX3_bi cX3_bi 3 (some .int) :: ([.fieldLink RX3 9 "RentHarmonyModel" "bids" "[I"] ++ wsX30)
def wsX3_come : List Cond := .code yX3_come cX3_come 2 (some .int) :: ([.fieldLink RX3 35 "RentHarmonyModel" "thrown" "I", .fieldLink RX3 38 "RentHarmonyModel" "lodgers" "I", .fieldLink RX3 9 "RentHarmonyModel" "bids" "[I", .methodLink RX3 45 yX3_fail, .instanceMethod yX3_fail, .selects RX3 yX3_fail yX3_fail, .initialized RX3, .code yX3_fail cX3_fail 2 (some .int)] ++ wsX30)
def wsX3_bid : List Cond := .code yX3_bid cX3_bid 5 (some .int) :: ([.fieldLink RX3 35 "RentHarmonyModel" "thrown" "I", .fieldLink RX3 9 "RentHarmonyModel" "bids" "[I", .methodLink RX3 49 yX3_isOne, .instanceMethod yX3_isOne, .selects RX3 yX3_isOne yX3_isOne, .initialized RX3, .code yX3_isOne cX3_isOne 2 (some .boolean), .fieldLink RX3 38 "RentHarmonyModel" "lodgers" "I", .methodLink RX3 41 yX3_isIn, .static yX3_isIn, .code yX3_isIn cX3_isIn 3 (some .boolean), .methodLink RX3 45 yX3_fail, .instanceMethod yX3_fail, .selects RX3 yX3_fail yX3_fail, .code yX3_fail cX3_fail 2 (some .int), .methodLink RX3 53 yX3_bi, .instanceMethod yX3_bi, .selects RX3 yX3_bi yX3_bi, .code yX3_bi cX3_bi 3 (some .int)] ++ wsX30)
def wsX3_rent : List Cond := .code yX3_rent cX3_rent 3 (some .int) :: ([.fieldLink RX3 35 "RentHarmonyModel" "thrown" "I", .fieldLink RX3 57 "RentHarmonyModel" "rent" "I", .methodLink RX3 41 yX3_isIn, .static yX3_isIn, .initialized RX3, .code yX3_isIn cX3_isIn 3 (some .boolean), .methodLink RX3 45 yX3_fail, .instanceMethod yX3_fail, .selects RX3 yX3_fail yX3_fail, .code yX3_fail cX3_fail 2 (some .int)] ++ wsX30)
def wsX3_isTaken : List Cond := .code yX3_isTaken cX3_isTaken 4 (some .boolean) :: ([.fieldLink RX3 22 "RentHarmonyModel" "tried" "[I", .fieldLink RX3 29 "RentHarmonyModel" "who" "I", .fieldLink RX3 60 "RentHarmonyModel" "must" "Z", .fieldLink RX3 32 "RentHarmonyModel" "which" "I"] ++ wsX30)
def wsX3_tryFrom_r1 : List Cond := [Cond.fieldLink RX3 38 "RentHarmonyModel" "lodgers" "I", Cond.fieldLink RX3 64 "RentHarmonyModel" "worth" "I", Cond.fieldLink RX3 67 "RentHarmonyModel" "ways" "I", Cond.fieldLink RX3 22 "RentHarmonyModel" "tried" "[I", Cond.fieldLink RX3 13 "RentHarmonyModel" "rooms" "[I", Cond.methodLink RX3 70 arraycopyName, Cond.native arraycopyName, Cond.static arraycopyName, Cond.initialized "java/lang/System", Cond.fieldLink RX3 25 "RentHarmonyModel" "free" "I", Cond.methodLink RX3 76 yX3_isTaken, Cond.instanceMethod yX3_isTaken, Cond.selects RX3 yX3_isTaken yX3_isTaken, Cond.initialized RX3, Cond.code yX3_isTaken cX3_isTaken 4 (some .boolean), Cond.fieldLink RX3 29 "RentHarmonyModel" "who" "I", Cond.fieldLink RX3 60 "RentHarmonyModel" "must" "Z", Cond.fieldLink RX3 32 "RentHarmonyModel" "which" "I", Cond.methodLink RX3 53 yX3_bi, Cond.instanceMethod yX3_bi, Cond.selects RX3 yX3_bi yX3_bi, Cond.code yX3_bi cX3_bi 3 (some .int), Cond.fieldLink RX3 9 "RentHarmonyModel" "bids" "[I", Cond.methodLink RX3 80 yX3_tryFrom]
def wsX3_tryFrom_r2 : List Cond := [Cond.instanceMethod yX3_tryFrom, Cond.selects RX3 yX3_tryFrom yX3_tryFrom]
def wsX3_tryFrom : List Cond := .code yX3_tryFrom cX3_tryFrom 4 none :: ((wsX3_tryFrom_r1 ++ wsX3_tryFrom_r2) ++ wsX30)
def wsX3_give_r1 : List Cond := [Cond.fieldLink RX3 64 "RentHarmonyModel" "worth" "I", Cond.fieldLink RX3 67 "RentHarmonyModel" "ways" "I", Cond.methodLink RX3 80 yX3_tryFrom, Cond.instanceMethod yX3_tryFrom, Cond.selects RX3 yX3_tryFrom yX3_tryFrom, Cond.initialized RX3, Cond.code yX3_tryFrom cX3_tryFrom 4 none, Cond.fieldLink RX3 38 "RentHarmonyModel" "lodgers" "I", Cond.fieldLink RX3 22 "RentHarmonyModel" "tried" "[I", Cond.fieldLink RX3 13 "RentHarmonyModel" "rooms" "[I", Cond.methodLink RX3 70 arraycopyName, Cond.native arraycopyName, Cond.static arraycopyName, Cond.initialized "java/lang/System", Cond.fieldLink RX3 25 "RentHarmonyModel" "free" "I", Cond.methodLink RX3 76 yX3_isTaken, Cond.instanceMethod yX3_isTaken, Cond.selects RX3 yX3_isTaken yX3_isTaken, Cond.code yX3_isTaken cX3_isTaken 4 (some .boolean), Cond.fieldLink RX3 29 "RentHarmonyModel" "who" "I", Cond.fieldLink RX3 60 "RentHarmonyModel" "must" "Z", Cond.fieldLink RX3 32 "RentHarmonyModel" "which" "I", Cond.methodLink RX3 53 yX3_bi, Cond.instanceMethod yX3_bi]
def wsX3_give_r2 : List Cond := [Cond.selects RX3 yX3_bi yX3_bi, Cond.code yX3_bi cX3_bi 3 (some .int), Cond.fieldLink RX3 9 "RentHarmonyModel" "bids" "[I"]
def wsX3_give : List Cond := .code yX3_give cX3_give 1 (some .int) :: ((wsX3_give_r1 ++ wsX3_give_r2) ++ wsX30)
def wsX3_of : List Cond := .code yX3_of cX3_of 3 (some .int) :: ([.fieldLink RX3 13 "RentHarmonyModel" "rooms" "[I", .fieldLink RX3 16 "RentHarmonyModel" "early" "[I", .methodLink RX3 53 yX3_bi, .instanceMethod yX3_bi, .selects RX3 yX3_bi yX3_bi, .initialized RX3, .code yX3_bi cX3_bi 3 (some .int), .fieldLink RX3 9 "RentHarmonyModel" "bids" "[I"] ++ wsX30)
def wsX3_isRaised : List Cond := .code yX3_isRaised cX3_isRaised 4 (some .boolean) :: ([.fieldLink RX3 38 "RentHarmonyModel" "lodgers" "I", .fieldLink RX3 16 "RentHarmonyModel" "early" "[I", .methodLink RX3 84 yX3_of, .instanceMethod yX3_of, .selects RX3 yX3_of yX3_of, .initialized RX3, .code yX3_of cX3_of 3 (some .int), .fieldLink RX3 13 "RentHarmonyModel" "rooms" "[I", .methodLink RX3 53 yX3_bi, .instanceMethod yX3_bi, .selects RX3 yX3_bi yX3_bi, .code yX3_bi cX3_bi 3 (some .int), .fieldLink RX3 9 "RentHarmonyModel" "bids" "[I"] ++ wsX30)
def wsX3_settle_r1 : List Cond := [Cond.fieldLink RX3 64 "RentHarmonyModel" "worth" "I", Cond.fieldLink RX3 57 "RentHarmonyModel" "rent" "I", Cond.fieldLink RX3 38 "RentHarmonyModel" "lodgers" "I", Cond.fieldLink RX3 16 "RentHarmonyModel" "early" "[I", Cond.fieldLink RX3 19 "RentHarmonyModel" "rebates" "[I", Cond.fieldLink RX3 95 "RentHarmonyModel" "pot" "I", Cond.methodLink RX3 87 yX3_give, Cond.instanceMethod yX3_give, Cond.selects RX3 yX3_give yX3_give, Cond.initialized RX3, Cond.code yX3_give cX3_give 1 (some .int), Cond.fieldLink RX3 67 "RentHarmonyModel" "ways" "I", Cond.methodLink RX3 80 yX3_tryFrom, Cond.instanceMethod yX3_tryFrom, Cond.selects RX3 yX3_tryFrom yX3_tryFrom, Cond.code yX3_tryFrom cX3_tryFrom 4 none, Cond.fieldLink RX3 22 "RentHarmonyModel" "tried" "[I", Cond.fieldLink RX3 13 "RentHarmonyModel" "rooms" "[I", Cond.methodLink RX3 70 arraycopyName, Cond.native arraycopyName, Cond.static arraycopyName, Cond.initialized "java/lang/System", Cond.fieldLink RX3 25 "RentHarmonyModel" "free" "I", Cond.methodLink RX3 76 yX3_isTaken]
def wsX3_settle_r2 : List Cond := [Cond.instanceMethod yX3_isTaken, Cond.selects RX3 yX3_isTaken yX3_isTaken, Cond.code yX3_isTaken cX3_isTaken 4 (some .boolean), Cond.fieldLink RX3 29 "RentHarmonyModel" "who" "I", Cond.fieldLink RX3 60 "RentHarmonyModel" "must" "Z", Cond.fieldLink RX3 32 "RentHarmonyModel" "which" "I", Cond.methodLink RX3 53 yX3_bi, Cond.instanceMethod yX3_bi, Cond.selects RX3 yX3_bi yX3_bi, Cond.code yX3_bi cX3_bi 3 (some .int), Cond.fieldLink RX3 9 "RentHarmonyModel" "bids" "[I", Cond.methodLink RX3 91 yX3_isRaised, Cond.instanceMethod yX3_isRaised, Cond.selects RX3 yX3_isRaised yX3_isRaised, Cond.code yX3_isRaised cX3_isRaised 4 (some .boolean), Cond.methodLink RX3 84 yX3_of, Cond.instanceMethod yX3_of, Cond.selects RX3 yX3_of yX3_of, Cond.code yX3_of cX3_of 3 (some .int)]
def wsX3_settle : List Cond := .code yX3_settle cX3_settle 4 none :: ((wsX3_settle_r1 ++ wsX3_settle_r2) ++ wsX30)
def wsX3_pays : List Cond := .code yX3_pays cX3_pays 2 (some .int) :: ([.fieldLink RX3 13 "RentHarmonyModel" "rooms" "[I", .fieldLink RX3 19 "RentHarmonyModel" "rebates" "[I", .methodLink RX3 53 yX3_bi, .instanceMethod yX3_bi, .selects RX3 yX3_bi yX3_bi, .initialized RX3, .code yX3_bi cX3_bi 3 (some .int), .fieldLink RX3 9 "RentHarmonyModel" "bids" "[I"] ++ wsX30)
def wsX3_isEnvy : List Cond := .code yX3_isEnvy cX3_isEnvy 3 (some .boolean) :: ([.fieldLink RX3 13 "RentHarmonyModel" "rooms" "[I", .methodLink RX3 53 yX3_bi, .instanceMethod yX3_bi, .selects RX3 yX3_bi yX3_bi, .initialized RX3, .code yX3_bi cX3_bi 3 (some .int), .fieldLink RX3 9 "RentHarmonyModel" "bids" "[I"] ++ wsX30)
def wsX3_leave_r1 : List Cond := [Cond.fieldLink RX3 35 "RentHarmonyModel" "thrown" "I", Cond.fieldLink RX3 13 "RentHarmonyModel" "rooms" "[I", Cond.fieldLink RX3 38 "RentHarmonyModel" "lodgers" "I", Cond.fieldLink RX3 9 "RentHarmonyModel" "bids" "[I", Cond.methodLink RX3 49 yX3_isOne, Cond.instanceMethod yX3_isOne, Cond.selects RX3 yX3_isOne yX3_isOne, Cond.initialized RX3, Cond.code yX3_isOne cX3_isOne 2 (some .boolean), Cond.methodLink RX3 41 yX3_isIn, Cond.static yX3_isIn, Cond.code yX3_isIn cX3_isIn 3 (some .boolean), Cond.methodLink RX3 45 yX3_fail, Cond.instanceMethod yX3_fail, Cond.selects RX3 yX3_fail yX3_fail, Cond.code yX3_fail cX3_fail 2 (some .int), Cond.methodLink RX3 98 yX3_settle, Cond.instanceMethod yX3_settle, Cond.selects RX3 yX3_settle yX3_settle, Cond.code yX3_settle cX3_settle 4 none, Cond.fieldLink RX3 64 "RentHarmonyModel" "worth" "I", Cond.fieldLink RX3 57 "RentHarmonyModel" "rent" "I", Cond.fieldLink RX3 16 "RentHarmonyModel" "early" "[I", Cond.fieldLink RX3 19 "RentHarmonyModel" "rebates" "[I"]
def wsX3_leave_r2 : List Cond := [Cond.fieldLink RX3 95 "RentHarmonyModel" "pot" "I", Cond.methodLink RX3 87 yX3_give, Cond.instanceMethod yX3_give, Cond.selects RX3 yX3_give yX3_give, Cond.code yX3_give cX3_give 1 (some .int), Cond.fieldLink RX3 67 "RentHarmonyModel" "ways" "I", Cond.methodLink RX3 80 yX3_tryFrom, Cond.instanceMethod yX3_tryFrom, Cond.selects RX3 yX3_tryFrom yX3_tryFrom, Cond.code yX3_tryFrom cX3_tryFrom 4 none, Cond.fieldLink RX3 22 "RentHarmonyModel" "tried" "[I", Cond.methodLink RX3 70 arraycopyName, Cond.native arraycopyName, Cond.static arraycopyName, Cond.initialized "java/lang/System", Cond.fieldLink RX3 25 "RentHarmonyModel" "free" "I", Cond.methodLink RX3 76 yX3_isTaken, Cond.instanceMethod yX3_isTaken, Cond.selects RX3 yX3_isTaken yX3_isTaken, Cond.code yX3_isTaken cX3_isTaken 4 (some .boolean), Cond.fieldLink RX3 29 "RentHarmonyModel" "who" "I", Cond.fieldLink RX3 60 "RentHarmonyModel" "must" "Z", Cond.fieldLink RX3 32 "RentHarmonyModel" "which" "I", Cond.methodLink RX3 53 yX3_bi]
def wsX3_leave_r3 : List Cond := [Cond.instanceMethod yX3_bi, Cond.selects RX3 yX3_bi yX3_bi, Cond.code yX3_bi cX3_bi 3 (some .int), Cond.methodLink RX3 91 yX3_isRaised, Cond.instanceMethod yX3_isRaised, Cond.selects RX3 yX3_isRaised yX3_isRaised, Cond.code yX3_isRaised cX3_isRaised 4 (some .boolean), Cond.methodLink RX3 84 yX3_of, Cond.instanceMethod yX3_of, Cond.selects RX3 yX3_of yX3_of, Cond.code yX3_of cX3_of 3 (some .int)]
def wsX3_leave : List Cond := .code yX3_leave cX3_leave 5 (some .int) :: ((wsX3_leave_r1 ++ (wsX3_leave_r2 ++ wsX3_leave_r3)) ++ wsX30)
def wsX3_toldOf : List Cond := .code yX3_toldOf cX3_toldOf 5 (some .int) :: ([.fieldLink RX3 13 "RentHarmonyModel" "rooms" "[I", .fieldLink RX3 19 "RentHarmonyModel" "rebates" "[I", .fieldLink RX3 16 "RentHarmonyModel" "early" "[I", .fieldLink RX3 38 "RentHarmonyModel" "lodgers" "I", .methodLink RX3 53 yX3_bi, .instanceMethod yX3_bi, .selects RX3 yX3_bi yX3_bi, .initialized RX3, .code yX3_bi cX3_bi 3 (some .int), .fieldLink RX3 9 "RentHarmonyModel" "bids" "[I", .methodLink RX3 101 yX3_pays, .instanceMethod yX3_pays, .selects RX3 yX3_pays yX3_pays, .code yX3_pays cX3_pays 2 (some .int), .methodLink RX3 104 yX3_isEnvy, .instanceMethod yX3_isEnvy, .selects RX3 yX3_isEnvy yX3_isEnvy, .code yX3_isEnvy cX3_isEnvy 3 (some .boolean)] ++ wsX30)
def wsX3_told_r1 : List Cond := [Cond.fieldLink RX3 35 "RentHarmonyModel" "thrown" "I", Cond.methodLink RX3 49 yX3_isOne, Cond.instanceMethod yX3_isOne, Cond.selects RX3 yX3_isOne yX3_isOne, Cond.initialized RX3, Cond.code yX3_isOne cX3_isOne 2 (some .boolean), Cond.fieldLink RX3 38 "RentHarmonyModel" "lodgers" "I", Cond.methodLink RX3 41 yX3_isIn, Cond.static yX3_isIn, Cond.code yX3_isIn cX3_isIn 3 (some .boolean), Cond.methodLink RX3 45 yX3_fail, Cond.instanceMethod yX3_fail, Cond.selects RX3 yX3_fail yX3_fail, Cond.code yX3_fail cX3_fail 2 (some .int), Cond.methodLink RX3 98 yX3_settle, Cond.instanceMethod yX3_settle, Cond.selects RX3 yX3_settle yX3_settle, Cond.code yX3_settle cX3_settle 4 none, Cond.fieldLink RX3 64 "RentHarmonyModel" "worth" "I", Cond.fieldLink RX3 57 "RentHarmonyModel" "rent" "I", Cond.fieldLink RX3 16 "RentHarmonyModel" "early" "[I", Cond.fieldLink RX3 19 "RentHarmonyModel" "rebates" "[I", Cond.fieldLink RX3 95 "RentHarmonyModel" "pot" "I", Cond.methodLink RX3 87 yX3_give]
def wsX3_told_r2 : List Cond := [Cond.instanceMethod yX3_give, Cond.selects RX3 yX3_give yX3_give, Cond.code yX3_give cX3_give 1 (some .int), Cond.fieldLink RX3 67 "RentHarmonyModel" "ways" "I", Cond.methodLink RX3 80 yX3_tryFrom, Cond.instanceMethod yX3_tryFrom, Cond.selects RX3 yX3_tryFrom yX3_tryFrom, Cond.code yX3_tryFrom cX3_tryFrom 4 none, Cond.fieldLink RX3 22 "RentHarmonyModel" "tried" "[I", Cond.fieldLink RX3 13 "RentHarmonyModel" "rooms" "[I", Cond.methodLink RX3 70 arraycopyName, Cond.native arraycopyName, Cond.static arraycopyName, Cond.initialized "java/lang/System", Cond.fieldLink RX3 25 "RentHarmonyModel" "free" "I", Cond.methodLink RX3 76 yX3_isTaken, Cond.instanceMethod yX3_isTaken, Cond.selects RX3 yX3_isTaken yX3_isTaken, Cond.code yX3_isTaken cX3_isTaken 4 (some .boolean), Cond.fieldLink RX3 29 "RentHarmonyModel" "who" "I", Cond.fieldLink RX3 60 "RentHarmonyModel" "must" "Z", Cond.fieldLink RX3 32 "RentHarmonyModel" "which" "I", Cond.methodLink RX3 53 yX3_bi, Cond.instanceMethod yX3_bi]
def wsX3_told_r3 : List Cond := [Cond.selects RX3 yX3_bi yX3_bi, Cond.code yX3_bi cX3_bi 3 (some .int), Cond.fieldLink RX3 9 "RentHarmonyModel" "bids" "[I", Cond.methodLink RX3 91 yX3_isRaised, Cond.instanceMethod yX3_isRaised, Cond.selects RX3 yX3_isRaised yX3_isRaised, Cond.code yX3_isRaised cX3_isRaised 4 (some .boolean), Cond.methodLink RX3 84 yX3_of, Cond.instanceMethod yX3_of, Cond.selects RX3 yX3_of yX3_of, Cond.code yX3_of cX3_of 3 (some .int), Cond.methodLink RX3 107 yX3_toldOf, Cond.instanceMethod yX3_toldOf, Cond.selects RX3 yX3_toldOf yX3_toldOf, Cond.code yX3_toldOf cX3_toldOf 5 (some .int), Cond.methodLink RX3 101 yX3_pays, Cond.instanceMethod yX3_pays, Cond.selects RX3 yX3_pays yX3_pays, Cond.code yX3_pays cX3_pays 2 (some .int), Cond.methodLink RX3 104 yX3_isEnvy, Cond.instanceMethod yX3_isEnvy, Cond.selects RX3 yX3_isEnvy yX3_isEnvy, Cond.code yX3_isEnvy cX3_isEnvy 3 (some .boolean)]
def wsX3_told : List Cond := .code yX3_told cX3_told 3 (some .int) :: ((wsX3_told_r1 ++ (wsX3_told_r2 ++ wsX3_told_r3)) ++ wsX30)
def wsX3_offer : List Cond := .code yX3_offer cX3_offer 3 (some .int) :: ([.fieldLink RX3 35 "RentHarmonyModel" "thrown" "I", .methodLink RX3 49 yX3_isOne, .instanceMethod yX3_isOne, .selects RX3 yX3_isOne yX3_isOne, .initialized RX3, .code yX3_isOne cX3_isOne 2 (some .boolean), .fieldLink RX3 38 "RentHarmonyModel" "lodgers" "I", .methodLink RX3 41 yX3_isIn, .static yX3_isIn, .code yX3_isIn cX3_isIn 3 (some .boolean), .methodLink RX3 53 yX3_bi, .instanceMethod yX3_bi, .selects RX3 yX3_bi yX3_bi, .code yX3_bi cX3_bi 3 (some .int), .fieldLink RX3 9 "RentHarmonyModel" "bids" "[I", .methodLink RX3 45 yX3_fail, .instanceMethod yX3_fail, .selects RX3 yX3_fail yX3_fail, .code yX3_fail cX3_fail 2 (some .int)] ++ wsX30)
def wsX3_counted_r1 : List Cond := [Cond.fieldLink RX3 38 "RentHarmonyModel" "lodgers" "I", Cond.fieldLink RX3 57 "RentHarmonyModel" "rent" "I", Cond.fieldLink RX3 64 "RentHarmonyModel" "worth" "I", Cond.fieldLink RX3 19 "RentHarmonyModel" "rebates" "[I", Cond.fieldLink RX3 95 "RentHarmonyModel" "pot" "I", Cond.fieldLink RX3 67 "RentHarmonyModel" "ways" "I", Cond.methodLink RX3 98 yX3_settle, Cond.instanceMethod yX3_settle, Cond.selects RX3 yX3_settle yX3_settle, Cond.initialized RX3, Cond.code yX3_settle cX3_settle 4 none, Cond.fieldLink RX3 16 "RentHarmonyModel" "early" "[I", Cond.methodLink RX3 87 yX3_give, Cond.instanceMethod yX3_give, Cond.selects RX3 yX3_give yX3_give, Cond.code yX3_give cX3_give 1 (some .int), Cond.methodLink RX3 80 yX3_tryFrom, Cond.instanceMethod yX3_tryFrom, Cond.selects RX3 yX3_tryFrom yX3_tryFrom, Cond.code yX3_tryFrom cX3_tryFrom 4 none, Cond.fieldLink RX3 22 "RentHarmonyModel" "tried" "[I", Cond.fieldLink RX3 13 "RentHarmonyModel" "rooms" "[I", Cond.methodLink RX3 70 arraycopyName, Cond.native arraycopyName]
def wsX3_counted_r2 : List Cond := [Cond.static arraycopyName, Cond.initialized "java/lang/System", Cond.fieldLink RX3 25 "RentHarmonyModel" "free" "I", Cond.methodLink RX3 76 yX3_isTaken, Cond.instanceMethod yX3_isTaken, Cond.selects RX3 yX3_isTaken yX3_isTaken, Cond.code yX3_isTaken cX3_isTaken 4 (some .boolean), Cond.fieldLink RX3 29 "RentHarmonyModel" "who" "I", Cond.fieldLink RX3 60 "RentHarmonyModel" "must" "Z", Cond.fieldLink RX3 32 "RentHarmonyModel" "which" "I", Cond.methodLink RX3 53 yX3_bi, Cond.instanceMethod yX3_bi, Cond.selects RX3 yX3_bi yX3_bi, Cond.code yX3_bi cX3_bi 3 (some .int), Cond.fieldLink RX3 9 "RentHarmonyModel" "bids" "[I", Cond.methodLink RX3 91 yX3_isRaised, Cond.instanceMethod yX3_isRaised, Cond.selects RX3 yX3_isRaised yX3_isRaised, Cond.code yX3_isRaised cX3_isRaised 4 (some .boolean), Cond.methodLink RX3 84 yX3_of, Cond.instanceMethod yX3_of, Cond.selects RX3 yX3_of yX3_of, Cond.code yX3_of cX3_of 3 (some .int), Cond.methodLink RX3 101 yX3_pays]
def wsX3_counted_r3 : List Cond := [Cond.instanceMethod yX3_pays, Cond.selects RX3 yX3_pays yX3_pays, Cond.code yX3_pays cX3_pays 2 (some .int)]
def wsX3_counted : List Cond := .code yX3_counted cX3_counted 4 (some .int) :: ((wsX3_counted_r1 ++ (wsX3_counted_r2 ++ wsX3_counted_r3)) ++ wsX30)
def wsX3_count_r1 : List Cond := [Cond.fieldLink RX3 35 "RentHarmonyModel" "thrown" "I", Cond.methodLink RX3 41 yX3_isIn, Cond.static yX3_isIn, Cond.initialized RX3, Cond.code yX3_isIn cX3_isIn 3 (some .boolean), Cond.methodLink RX3 110 yX3_counted, Cond.instanceMethod yX3_counted, Cond.selects RX3 yX3_counted yX3_counted, Cond.code yX3_counted cX3_counted 4 (some .int), Cond.fieldLink RX3 38 "RentHarmonyModel" "lodgers" "I", Cond.fieldLink RX3 57 "RentHarmonyModel" "rent" "I", Cond.fieldLink RX3 64 "RentHarmonyModel" "worth" "I", Cond.fieldLink RX3 19 "RentHarmonyModel" "rebates" "[I", Cond.fieldLink RX3 95 "RentHarmonyModel" "pot" "I", Cond.fieldLink RX3 67 "RentHarmonyModel" "ways" "I", Cond.methodLink RX3 98 yX3_settle, Cond.instanceMethod yX3_settle, Cond.selects RX3 yX3_settle yX3_settle, Cond.code yX3_settle cX3_settle 4 none, Cond.fieldLink RX3 16 "RentHarmonyModel" "early" "[I", Cond.methodLink RX3 87 yX3_give, Cond.instanceMethod yX3_give, Cond.selects RX3 yX3_give yX3_give, Cond.code yX3_give cX3_give 1 (some .int)]
def wsX3_count_r2 : List Cond := [Cond.methodLink RX3 80 yX3_tryFrom, Cond.instanceMethod yX3_tryFrom, Cond.selects RX3 yX3_tryFrom yX3_tryFrom, Cond.code yX3_tryFrom cX3_tryFrom 4 none, Cond.fieldLink RX3 22 "RentHarmonyModel" "tried" "[I", Cond.fieldLink RX3 13 "RentHarmonyModel" "rooms" "[I", Cond.methodLink RX3 70 arraycopyName, Cond.native arraycopyName, Cond.static arraycopyName, Cond.initialized "java/lang/System", Cond.fieldLink RX3 25 "RentHarmonyModel" "free" "I", Cond.methodLink RX3 76 yX3_isTaken, Cond.instanceMethod yX3_isTaken, Cond.selects RX3 yX3_isTaken yX3_isTaken, Cond.code yX3_isTaken cX3_isTaken 4 (some .boolean), Cond.fieldLink RX3 29 "RentHarmonyModel" "who" "I", Cond.fieldLink RX3 60 "RentHarmonyModel" "must" "Z", Cond.fieldLink RX3 32 "RentHarmonyModel" "which" "I", Cond.methodLink RX3 53 yX3_bi, Cond.instanceMethod yX3_bi, Cond.selects RX3 yX3_bi yX3_bi, Cond.code yX3_bi cX3_bi 3 (some .int), Cond.fieldLink RX3 9 "RentHarmonyModel" "bids" "[I", Cond.methodLink RX3 91 yX3_isRaised]
def wsX3_count_r3 : List Cond := [Cond.instanceMethod yX3_isRaised, Cond.selects RX3 yX3_isRaised yX3_isRaised, Cond.code yX3_isRaised cX3_isRaised 4 (some .boolean), Cond.methodLink RX3 84 yX3_of, Cond.instanceMethod yX3_of, Cond.selects RX3 yX3_of yX3_of, Cond.code yX3_of cX3_of 3 (some .int), Cond.methodLink RX3 101 yX3_pays, Cond.instanceMethod yX3_pays, Cond.selects RX3 yX3_pays yX3_pays, Cond.code yX3_pays cX3_pays 2 (some .int), Cond.methodLink RX3 45 yX3_fail, Cond.instanceMethod yX3_fail, Cond.selects RX3 yX3_fail yX3_fail, Cond.code yX3_fail cX3_fail 2 (some .int)]
def wsX3_count : List Cond := .code yX3_count cX3_count 2 (some .int) :: ((wsX3_count_r1 ++ (wsX3_count_r2 ++ wsX3_count_r3)) ++ wsX30)
def wsX3_envies_r1 : List Cond := [Cond.fieldLink RX3 35 "RentHarmonyModel" "thrown" "I", Cond.methodLink RX3 49 yX3_isOne, Cond.instanceMethod yX3_isOne, Cond.selects RX3 yX3_isOne yX3_isOne, Cond.initialized RX3, Cond.code yX3_isOne cX3_isOne 2 (some .boolean), Cond.fieldLink RX3 38 "RentHarmonyModel" "lodgers" "I", Cond.methodLink RX3 41 yX3_isIn, Cond.static yX3_isIn, Cond.code yX3_isIn cX3_isIn 3 (some .boolean), Cond.methodLink RX3 87 yX3_give, Cond.instanceMethod yX3_give, Cond.selects RX3 yX3_give yX3_give, Cond.code yX3_give cX3_give 1 (some .int), Cond.fieldLink RX3 64 "RentHarmonyModel" "worth" "I", Cond.fieldLink RX3 67 "RentHarmonyModel" "ways" "I", Cond.methodLink RX3 80 yX3_tryFrom, Cond.instanceMethod yX3_tryFrom, Cond.selects RX3 yX3_tryFrom yX3_tryFrom, Cond.code yX3_tryFrom cX3_tryFrom 4 none, Cond.fieldLink RX3 22 "RentHarmonyModel" "tried" "[I", Cond.fieldLink RX3 13 "RentHarmonyModel" "rooms" "[I", Cond.methodLink RX3 70 arraycopyName, Cond.native arraycopyName]
def wsX3_envies_r2 : List Cond := [Cond.static arraycopyName, Cond.initialized "java/lang/System", Cond.fieldLink RX3 25 "RentHarmonyModel" "free" "I", Cond.methodLink RX3 76 yX3_isTaken, Cond.instanceMethod yX3_isTaken, Cond.selects RX3 yX3_isTaken yX3_isTaken, Cond.code yX3_isTaken cX3_isTaken 4 (some .boolean), Cond.fieldLink RX3 29 "RentHarmonyModel" "who" "I", Cond.fieldLink RX3 60 "RentHarmonyModel" "must" "Z", Cond.fieldLink RX3 32 "RentHarmonyModel" "which" "I", Cond.methodLink RX3 53 yX3_bi, Cond.instanceMethod yX3_bi, Cond.selects RX3 yX3_bi yX3_bi, Cond.code yX3_bi cX3_bi 3 (some .int), Cond.fieldLink RX3 9 "RentHarmonyModel" "bids" "[I", Cond.methodLink RX3 104 yX3_isEnvy, Cond.instanceMethod yX3_isEnvy, Cond.selects RX3 yX3_isEnvy yX3_isEnvy, Cond.code yX3_isEnvy cX3_isEnvy 3 (some .boolean)]
def wsX3_envies : List Cond := .code yX3_envies cX3_envies 3 (some .boolean) :: ((wsX3_envies_r1 ++ wsX3_envies_r2) ++ wsX30)
def wsX3_gap_r1 : List Cond := [Cond.fieldLink RX3 35 "RentHarmonyModel" "thrown" "I", Cond.fieldLink RX3 19 "RentHarmonyModel" "rebates" "[I", Cond.fieldLink RX3 13 "RentHarmonyModel" "rooms" "[I", Cond.methodLink RX3 49 yX3_isOne, Cond.instanceMethod yX3_isOne, Cond.selects RX3 yX3_isOne yX3_isOne, Cond.initialized RX3, Cond.code yX3_isOne cX3_isOne 2 (some .boolean), Cond.fieldLink RX3 38 "RentHarmonyModel" "lodgers" "I", Cond.methodLink RX3 41 yX3_isIn, Cond.static yX3_isIn, Cond.code yX3_isIn cX3_isIn 3 (some .boolean), Cond.methodLink RX3 45 yX3_fail, Cond.instanceMethod yX3_fail, Cond.selects RX3 yX3_fail yX3_fail, Cond.code yX3_fail cX3_fail 2 (some .int), Cond.methodLink RX3 98 yX3_settle, Cond.instanceMethod yX3_settle, Cond.selects RX3 yX3_settle yX3_settle, Cond.code yX3_settle cX3_settle 4 none, Cond.fieldLink RX3 64 "RentHarmonyModel" "worth" "I", Cond.fieldLink RX3 57 "RentHarmonyModel" "rent" "I", Cond.fieldLink RX3 16 "RentHarmonyModel" "early" "[I", Cond.fieldLink RX3 95 "RentHarmonyModel" "pot" "I"]
def wsX3_gap_r2 : List Cond := [Cond.methodLink RX3 87 yX3_give, Cond.instanceMethod yX3_give, Cond.selects RX3 yX3_give yX3_give, Cond.code yX3_give cX3_give 1 (some .int), Cond.fieldLink RX3 67 "RentHarmonyModel" "ways" "I", Cond.methodLink RX3 80 yX3_tryFrom, Cond.instanceMethod yX3_tryFrom, Cond.selects RX3 yX3_tryFrom yX3_tryFrom, Cond.code yX3_tryFrom cX3_tryFrom 4 none, Cond.fieldLink RX3 22 "RentHarmonyModel" "tried" "[I", Cond.methodLink RX3 70 arraycopyName, Cond.native arraycopyName, Cond.static arraycopyName, Cond.initialized "java/lang/System", Cond.fieldLink RX3 25 "RentHarmonyModel" "free" "I", Cond.methodLink RX3 76 yX3_isTaken, Cond.instanceMethod yX3_isTaken, Cond.selects RX3 yX3_isTaken yX3_isTaken, Cond.code yX3_isTaken cX3_isTaken 4 (some .boolean), Cond.fieldLink RX3 29 "RentHarmonyModel" "who" "I", Cond.fieldLink RX3 60 "RentHarmonyModel" "must" "Z", Cond.fieldLink RX3 32 "RentHarmonyModel" "which" "I", Cond.methodLink RX3 53 yX3_bi, Cond.instanceMethod yX3_bi]
def wsX3_gap_r3 : List Cond := [Cond.selects RX3 yX3_bi yX3_bi, Cond.code yX3_bi cX3_bi 3 (some .int), Cond.fieldLink RX3 9 "RentHarmonyModel" "bids" "[I", Cond.methodLink RX3 91 yX3_isRaised, Cond.instanceMethod yX3_isRaised, Cond.selects RX3 yX3_isRaised yX3_isRaised, Cond.code yX3_isRaised cX3_isRaised 4 (some .boolean), Cond.methodLink RX3 84 yX3_of, Cond.instanceMethod yX3_of, Cond.selects RX3 yX3_of yX3_of, Cond.code yX3_of cX3_of 3 (some .int), Cond.methodLink RX3 101 yX3_pays, Cond.instanceMethod yX3_pays, Cond.selects RX3 yX3_pays yX3_pays, Cond.code yX3_pays cX3_pays 2 (some .int)]
def wsX3_gap : List Cond := .code yX3_gap cX3_gap 3 (some .int) :: ((wsX3_gap_r1 ++ (wsX3_gap_r2 ++ wsX3_gap_r3)) ++ wsX30)
def wsX3_chainFrom : List Cond := .code yX3_chainFrom cX3_chainFrom 4 (some .int) :: ([.fieldLink RX3 38 "RentHarmonyModel" "lodgers" "I", .methodLink RX3 116 Lib.Math.max.name, .static Lib.Math.max.name, .initialized "java/lang/Math", .code Lib.Math.max.name Lib.Math.max.code 2 (some .int), .methodLink RX3 104 yX3_isEnvy, .instanceMethod yX3_isEnvy, .selects RX3 yX3_isEnvy yX3_isEnvy, .initialized RX3, .code yX3_isEnvy cX3_isEnvy 3 (some .boolean), .fieldLink RX3 13 "RentHarmonyModel" "rooms" "[I", .methodLink RX3 53 yX3_bi, .instanceMethod yX3_bi, .selects RX3 yX3_bi yX3_bi, .code yX3_bi cX3_bi 3 (some .int), .fieldLink RX3 9 "RentHarmonyModel" "bids" "[I", .methodLink RX3 113 yX3_chainFrom, .instanceMethod yX3_chainFrom, .selects RX3 yX3_chainFrom yX3_chainFrom] ++ wsX30)
def wsX3_chain_r1 : List Cond := [Cond.fieldLink RX3 35 "RentHarmonyModel" "thrown" "I", Cond.fieldLink RX3 38 "RentHarmonyModel" "lodgers" "I", Cond.methodLink RX3 116 Lib.Math.max.name, Cond.static Lib.Math.max.name, Cond.initialized "java/lang/Math", Cond.code Lib.Math.max.name Lib.Math.max.code 2 (some .int), Cond.methodLink RX3 87 yX3_give, Cond.instanceMethod yX3_give, Cond.selects RX3 yX3_give yX3_give, Cond.initialized RX3, Cond.code yX3_give cX3_give 1 (some .int), Cond.fieldLink RX3 64 "RentHarmonyModel" "worth" "I", Cond.fieldLink RX3 67 "RentHarmonyModel" "ways" "I", Cond.methodLink RX3 80 yX3_tryFrom, Cond.instanceMethod yX3_tryFrom, Cond.selects RX3 yX3_tryFrom yX3_tryFrom, Cond.code yX3_tryFrom cX3_tryFrom 4 none, Cond.fieldLink RX3 22 "RentHarmonyModel" "tried" "[I", Cond.fieldLink RX3 13 "RentHarmonyModel" "rooms" "[I", Cond.methodLink RX3 70 arraycopyName, Cond.native arraycopyName, Cond.static arraycopyName, Cond.initialized "java/lang/System", Cond.fieldLink RX3 25 "RentHarmonyModel" "free" "I"]
def wsX3_chain_r2 : List Cond := [Cond.methodLink RX3 76 yX3_isTaken, Cond.instanceMethod yX3_isTaken, Cond.selects RX3 yX3_isTaken yX3_isTaken, Cond.code yX3_isTaken cX3_isTaken 4 (some .boolean), Cond.fieldLink RX3 29 "RentHarmonyModel" "who" "I", Cond.fieldLink RX3 60 "RentHarmonyModel" "must" "Z", Cond.fieldLink RX3 32 "RentHarmonyModel" "which" "I", Cond.methodLink RX3 53 yX3_bi, Cond.instanceMethod yX3_bi, Cond.selects RX3 yX3_bi yX3_bi, Cond.code yX3_bi cX3_bi 3 (some .int), Cond.fieldLink RX3 9 "RentHarmonyModel" "bids" "[I", Cond.methodLink RX3 113 yX3_chainFrom, Cond.instanceMethod yX3_chainFrom, Cond.selects RX3 yX3_chainFrom yX3_chainFrom, Cond.code yX3_chainFrom cX3_chainFrom 4 (some .int), Cond.methodLink RX3 104 yX3_isEnvy, Cond.instanceMethod yX3_isEnvy, Cond.selects RX3 yX3_isEnvy yX3_isEnvy, Cond.code yX3_isEnvy cX3_isEnvy 3 (some .boolean)]
def wsX3_chain : List Cond := .code yX3_chain cX3_chain 3 (some .int) :: ((wsX3_chain_r1 ++ wsX3_chain_r2) ++ wsX30)
def wsX3_roomWith_r1 : List Cond := [Cond.fieldLink RX3 9 "RentHarmonyModel" "bids" "[I", Cond.fieldLink RX3 13 "RentHarmonyModel" "rooms" "[I", Cond.methodLink RX3 53 yX3_bi, Cond.instanceMethod yX3_bi, Cond.selects RX3 yX3_bi yX3_bi, Cond.initialized RX3, Cond.code yX3_bi cX3_bi 3 (some .int), Cond.methodLink RX3 87 yX3_give, Cond.instanceMethod yX3_give, Cond.selects RX3 yX3_give yX3_give, Cond.code yX3_give cX3_give 1 (some .int), Cond.fieldLink RX3 64 "RentHarmonyModel" "worth" "I", Cond.fieldLink RX3 67 "RentHarmonyModel" "ways" "I", Cond.methodLink RX3 80 yX3_tryFrom, Cond.instanceMethod yX3_tryFrom, Cond.selects RX3 yX3_tryFrom yX3_tryFrom, Cond.code yX3_tryFrom cX3_tryFrom 4 none, Cond.fieldLink RX3 38 "RentHarmonyModel" "lodgers" "I", Cond.fieldLink RX3 22 "RentHarmonyModel" "tried" "[I", Cond.methodLink RX3 70 arraycopyName, Cond.native arraycopyName, Cond.static arraycopyName, Cond.initialized "java/lang/System", Cond.fieldLink RX3 25 "RentHarmonyModel" "free" "I"]
def wsX3_roomWith_r2 : List Cond := [Cond.methodLink RX3 76 yX3_isTaken, Cond.instanceMethod yX3_isTaken, Cond.selects RX3 yX3_isTaken yX3_isTaken, Cond.code yX3_isTaken cX3_isTaken 4 (some .boolean), Cond.fieldLink RX3 29 "RentHarmonyModel" "who" "I", Cond.fieldLink RX3 60 "RentHarmonyModel" "must" "Z", Cond.fieldLink RX3 32 "RentHarmonyModel" "which" "I"]
def wsX3_roomWith : List Cond := .code yX3_roomWith cX3_roomWith 5 (some .int) :: ((wsX3_roomWith_r1 ++ wsX3_roomWith_r2) ++ wsX30)
def wsX3_would_r1 : List Cond := [Cond.fieldLink RX3 35 "RentHarmonyModel" "thrown" "I", Cond.methodLink RX3 49 yX3_isOne, Cond.instanceMethod yX3_isOne, Cond.selects RX3 yX3_isOne yX3_isOne, Cond.initialized RX3, Cond.code yX3_isOne cX3_isOne 2 (some .boolean), Cond.fieldLink RX3 38 "RentHarmonyModel" "lodgers" "I", Cond.methodLink RX3 41 yX3_isIn, Cond.static yX3_isIn, Cond.code yX3_isIn cX3_isIn 3 (some .boolean), Cond.methodLink RX3 45 yX3_fail, Cond.instanceMethod yX3_fail, Cond.selects RX3 yX3_fail yX3_fail, Cond.code yX3_fail cX3_fail 2 (some .int), Cond.methodLink RX3 121 yX3_roomWith, Cond.instanceMethod yX3_roomWith, Cond.selects RX3 yX3_roomWith yX3_roomWith, Cond.code yX3_roomWith cX3_roomWith 5 (some .int), Cond.fieldLink RX3 9 "RentHarmonyModel" "bids" "[I", Cond.fieldLink RX3 13 "RentHarmonyModel" "rooms" "[I", Cond.methodLink RX3 53 yX3_bi, Cond.instanceMethod yX3_bi, Cond.selects RX3 yX3_bi yX3_bi, Cond.code yX3_bi cX3_bi 3 (some .int)]
def wsX3_would_r2 : List Cond := [Cond.methodLink RX3 87 yX3_give, Cond.instanceMethod yX3_give, Cond.selects RX3 yX3_give yX3_give, Cond.code yX3_give cX3_give 1 (some .int), Cond.fieldLink RX3 64 "RentHarmonyModel" "worth" "I", Cond.fieldLink RX3 67 "RentHarmonyModel" "ways" "I", Cond.methodLink RX3 80 yX3_tryFrom, Cond.instanceMethod yX3_tryFrom, Cond.selects RX3 yX3_tryFrom yX3_tryFrom, Cond.code yX3_tryFrom cX3_tryFrom 4 none, Cond.fieldLink RX3 22 "RentHarmonyModel" "tried" "[I", Cond.methodLink RX3 70 arraycopyName, Cond.native arraycopyName, Cond.static arraycopyName, Cond.initialized "java/lang/System", Cond.fieldLink RX3 25 "RentHarmonyModel" "free" "I", Cond.methodLink RX3 76 yX3_isTaken, Cond.instanceMethod yX3_isTaken, Cond.selects RX3 yX3_isTaken yX3_isTaken, Cond.code yX3_isTaken cX3_isTaken 4 (some .boolean), Cond.fieldLink RX3 29 "RentHarmonyModel" "who" "I", Cond.fieldLink RX3 60 "RentHarmonyModel" "must" "Z", Cond.fieldLink RX3 32 "RentHarmonyModel" "which" "I"]
def wsX3_would : List Cond := .code yX3_would cX3_would 4 (some .int) :: ((wsX3_would_r1 ++ wsX3_would_r2) ++ wsX30)
def wsX3_worthWith_r1 : List Cond := [Cond.fieldLink RX3 29 "RentHarmonyModel" "who" "I", Cond.fieldLink RX3 32 "RentHarmonyModel" "which" "I", Cond.fieldLink RX3 60 "RentHarmonyModel" "must" "Z", Cond.fieldLink RX3 25 "RentHarmonyModel" "free" "I", Cond.methodLink RX3 87 yX3_give, Cond.instanceMethod yX3_give, Cond.selects RX3 yX3_give yX3_give, Cond.initialized RX3, Cond.code yX3_give cX3_give 1 (some .int), Cond.fieldLink RX3 64 "RentHarmonyModel" "worth" "I", Cond.fieldLink RX3 67 "RentHarmonyModel" "ways" "I", Cond.methodLink RX3 80 yX3_tryFrom, Cond.instanceMethod yX3_tryFrom, Cond.selects RX3 yX3_tryFrom yX3_tryFrom, Cond.code yX3_tryFrom cX3_tryFrom 4 none, Cond.fieldLink RX3 38 "RentHarmonyModel" "lodgers" "I", Cond.fieldLink RX3 22 "RentHarmonyModel" "tried" "[I", Cond.fieldLink RX3 13 "RentHarmonyModel" "rooms" "[I", Cond.methodLink RX3 70 arraycopyName, Cond.native arraycopyName, Cond.static arraycopyName, Cond.initialized "java/lang/System", Cond.methodLink RX3 76 yX3_isTaken, Cond.instanceMethod yX3_isTaken]
def wsX3_worthWith_r2 : List Cond := [Cond.selects RX3 yX3_isTaken yX3_isTaken, Cond.code yX3_isTaken cX3_isTaken 4 (some .boolean), Cond.methodLink RX3 53 yX3_bi, Cond.instanceMethod yX3_bi, Cond.selects RX3 yX3_bi yX3_bi, Cond.code yX3_bi cX3_bi 3 (some .int), Cond.fieldLink RX3 9 "RentHarmonyModel" "bids" "[I"]
def wsX3_worthWith : List Cond := .code yX3_worthWith cX3_worthWith 6 (some .int) :: ((wsX3_worthWith_r1 ++ wsX3_worthWith_r2) ++ wsX30)
def wsX3_needs_r1 : List Cond := [Cond.fieldLink RX3 35 "RentHarmonyModel" "thrown" "I", Cond.methodLink RX3 116 Lib.Math.max.name, Cond.static Lib.Math.max.name, Cond.initialized "java/lang/Math", Cond.code Lib.Math.max.name Lib.Math.max.code 2 (some .int), Cond.methodLink RX3 129 Lib.Math.min.name, Cond.static Lib.Math.min.name, Cond.code Lib.Math.min.name Lib.Math.min.code 2 (some .int), Cond.methodLink RX3 49 yX3_isOne, Cond.instanceMethod yX3_isOne, Cond.selects RX3 yX3_isOne yX3_isOne, Cond.initialized RX3, Cond.code yX3_isOne cX3_isOne 2 (some .boolean), Cond.fieldLink RX3 38 "RentHarmonyModel" "lodgers" "I", Cond.methodLink RX3 41 yX3_isIn, Cond.static yX3_isIn, Cond.code yX3_isIn cX3_isIn 3 (some .boolean), Cond.methodLink RX3 45 yX3_fail, Cond.instanceMethod yX3_fail, Cond.selects RX3 yX3_fail yX3_fail, Cond.code yX3_fail cX3_fail 2 (some .int), Cond.methodLink RX3 125 yX3_worthWith, Cond.instanceMethod yX3_worthWith, Cond.selects RX3 yX3_worthWith yX3_worthWith]
def wsX3_needs_r2 : List Cond := [Cond.code yX3_worthWith cX3_worthWith 6 (some .int), Cond.fieldLink RX3 29 "RentHarmonyModel" "who" "I", Cond.fieldLink RX3 32 "RentHarmonyModel" "which" "I", Cond.fieldLink RX3 60 "RentHarmonyModel" "must" "Z", Cond.fieldLink RX3 25 "RentHarmonyModel" "free" "I", Cond.methodLink RX3 87 yX3_give, Cond.instanceMethod yX3_give, Cond.selects RX3 yX3_give yX3_give, Cond.code yX3_give cX3_give 1 (some .int), Cond.fieldLink RX3 64 "RentHarmonyModel" "worth" "I", Cond.fieldLink RX3 67 "RentHarmonyModel" "ways" "I", Cond.methodLink RX3 80 yX3_tryFrom, Cond.instanceMethod yX3_tryFrom, Cond.selects RX3 yX3_tryFrom yX3_tryFrom, Cond.code yX3_tryFrom cX3_tryFrom 4 none, Cond.fieldLink RX3 22 "RentHarmonyModel" "tried" "[I", Cond.fieldLink RX3 13 "RentHarmonyModel" "rooms" "[I", Cond.methodLink RX3 70 arraycopyName, Cond.native arraycopyName, Cond.static arraycopyName, Cond.initialized "java/lang/System", Cond.methodLink RX3 76 yX3_isTaken, Cond.instanceMethod yX3_isTaken, Cond.selects RX3 yX3_isTaken yX3_isTaken]
def wsX3_needs_r3 : List Cond := [Cond.code yX3_isTaken cX3_isTaken 4 (some .boolean), Cond.methodLink RX3 53 yX3_bi, Cond.instanceMethod yX3_bi, Cond.selects RX3 yX3_bi yX3_bi, Cond.code yX3_bi cX3_bi 3 (some .int), Cond.fieldLink RX3 9 "RentHarmonyModel" "bids" "[I", Cond.methodLink RX3 121 yX3_roomWith, Cond.instanceMethod yX3_roomWith, Cond.selects RX3 yX3_roomWith yX3_roomWith, Cond.code yX3_roomWith cX3_roomWith 5 (some .int)]
def wsX3_needs : List Cond := .code yX3_needs cX3_needs 7 (some .int) :: ((wsX3_needs_r1 ++ (wsX3_needs_r2 ++ wsX3_needs_r3)) ++ wsX30)
def wsX3_without_r1 : List Cond := [Cond.fieldLink RX3 35 "RentHarmonyModel" "thrown" "I", Cond.fieldLink RX3 25 "RentHarmonyModel" "free" "I", Cond.methodLink RX3 49 yX3_isOne, Cond.instanceMethod yX3_isOne, Cond.selects RX3 yX3_isOne yX3_isOne, Cond.initialized RX3, Cond.code yX3_isOne cX3_isOne 2 (some .boolean), Cond.fieldLink RX3 38 "RentHarmonyModel" "lodgers" "I", Cond.methodLink RX3 41 yX3_isIn, Cond.static yX3_isIn, Cond.code yX3_isIn cX3_isIn 3 (some .boolean), Cond.methodLink RX3 45 yX3_fail, Cond.instanceMethod yX3_fail, Cond.selects RX3 yX3_fail yX3_fail, Cond.code yX3_fail cX3_fail 2 (some .int), Cond.methodLink RX3 87 yX3_give, Cond.instanceMethod yX3_give, Cond.selects RX3 yX3_give yX3_give, Cond.code yX3_give cX3_give 1 (some .int), Cond.fieldLink RX3 64 "RentHarmonyModel" "worth" "I", Cond.fieldLink RX3 67 "RentHarmonyModel" "ways" "I", Cond.methodLink RX3 80 yX3_tryFrom, Cond.instanceMethod yX3_tryFrom, Cond.selects RX3 yX3_tryFrom yX3_tryFrom]
def wsX3_without_r2 : List Cond := [Cond.code yX3_tryFrom cX3_tryFrom 4 none, Cond.fieldLink RX3 22 "RentHarmonyModel" "tried" "[I", Cond.fieldLink RX3 13 "RentHarmonyModel" "rooms" "[I", Cond.methodLink RX3 70 arraycopyName, Cond.native arraycopyName, Cond.static arraycopyName, Cond.initialized "java/lang/System", Cond.methodLink RX3 76 yX3_isTaken, Cond.instanceMethod yX3_isTaken, Cond.selects RX3 yX3_isTaken yX3_isTaken, Cond.code yX3_isTaken cX3_isTaken 4 (some .boolean), Cond.fieldLink RX3 29 "RentHarmonyModel" "who" "I", Cond.fieldLink RX3 60 "RentHarmonyModel" "must" "Z", Cond.fieldLink RX3 32 "RentHarmonyModel" "which" "I", Cond.methodLink RX3 53 yX3_bi, Cond.instanceMethod yX3_bi, Cond.selects RX3 yX3_bi yX3_bi, Cond.code yX3_bi cX3_bi 3 (some .int), Cond.fieldLink RX3 9 "RentHarmonyModel" "bids" "[I"]
def wsX3_without : List Cond := .code yX3_without cX3_without 3 (some .int) :: ((wsX3_without_r1 ++ wsX3_without_r2) ++ wsX30)
def wsX3_mean_r1 : List Cond := [Cond.fieldLink RX3 35 "RentHarmonyModel" "thrown" "I", Cond.fieldLink RX3 38 "RentHarmonyModel" "lodgers" "I", Cond.methodLink RX3 110 yX3_counted, Cond.instanceMethod yX3_counted, Cond.selects RX3 yX3_counted yX3_counted, Cond.initialized RX3, Cond.code yX3_counted cX3_counted 4 (some .int), Cond.fieldLink RX3 57 "RentHarmonyModel" "rent" "I", Cond.fieldLink RX3 64 "RentHarmonyModel" "worth" "I", Cond.fieldLink RX3 19 "RentHarmonyModel" "rebates" "[I", Cond.fieldLink RX3 95 "RentHarmonyModel" "pot" "I", Cond.fieldLink RX3 67 "RentHarmonyModel" "ways" "I", Cond.methodLink RX3 98 yX3_settle, Cond.instanceMethod yX3_settle, Cond.selects RX3 yX3_settle yX3_settle, Cond.code yX3_settle cX3_settle 4 none, Cond.fieldLink RX3 16 "RentHarmonyModel" "early" "[I", Cond.methodLink RX3 87 yX3_give, Cond.instanceMethod yX3_give, Cond.selects RX3 yX3_give yX3_give, Cond.code yX3_give cX3_give 1 (some .int), Cond.methodLink RX3 80 yX3_tryFrom, Cond.instanceMethod yX3_tryFrom, Cond.selects RX3 yX3_tryFrom yX3_tryFrom]
def wsX3_mean_r2 : List Cond := [Cond.code yX3_tryFrom cX3_tryFrom 4 none, Cond.fieldLink RX3 22 "RentHarmonyModel" "tried" "[I", Cond.fieldLink RX3 13 "RentHarmonyModel" "rooms" "[I", Cond.methodLink RX3 70 arraycopyName, Cond.native arraycopyName, Cond.static arraycopyName, Cond.initialized "java/lang/System", Cond.fieldLink RX3 25 "RentHarmonyModel" "free" "I", Cond.methodLink RX3 76 yX3_isTaken, Cond.instanceMethod yX3_isTaken, Cond.selects RX3 yX3_isTaken yX3_isTaken, Cond.code yX3_isTaken cX3_isTaken 4 (some .boolean), Cond.fieldLink RX3 29 "RentHarmonyModel" "who" "I", Cond.fieldLink RX3 60 "RentHarmonyModel" "must" "Z", Cond.fieldLink RX3 32 "RentHarmonyModel" "which" "I", Cond.methodLink RX3 53 yX3_bi, Cond.instanceMethod yX3_bi, Cond.selects RX3 yX3_bi yX3_bi, Cond.code yX3_bi cX3_bi 3 (some .int), Cond.fieldLink RX3 9 "RentHarmonyModel" "bids" "[I", Cond.methodLink RX3 91 yX3_isRaised, Cond.instanceMethod yX3_isRaised, Cond.selects RX3 yX3_isRaised yX3_isRaised, Cond.code yX3_isRaised cX3_isRaised 4 (some .boolean)]
def wsX3_mean_r3 : List Cond := [Cond.methodLink RX3 84 yX3_of, Cond.instanceMethod yX3_of, Cond.selects RX3 yX3_of yX3_of, Cond.code yX3_of cX3_of 3 (some .int), Cond.methodLink RX3 101 yX3_pays, Cond.instanceMethod yX3_pays, Cond.selects RX3 yX3_pays yX3_pays, Cond.code yX3_pays cX3_pays 2 (some .int)]
def wsX3_mean : List Cond := .code yX3_mean cX3_mean 2 (some .double) :: ((wsX3_mean_r1 ++ (wsX3_mean_r2 ++ wsX3_mean_r3)) ++ wsX30)
def wsX3_digest_r1 : List Cond := [Cond.fieldLink RX3 35 "RentHarmonyModel" "thrown" "I", Cond.constantLong RX3 132 (1301), Cond.constantLong RX3 134 (31), Cond.fieldLink RX3 38 "RentHarmonyModel" "lodgers" "I", Cond.methodLink RX3 110 yX3_counted, Cond.instanceMethod yX3_counted, Cond.selects RX3 yX3_counted yX3_counted, Cond.initialized RX3, Cond.code yX3_counted cX3_counted 4 (some .int), Cond.fieldLink RX3 57 "RentHarmonyModel" "rent" "I", Cond.fieldLink RX3 64 "RentHarmonyModel" "worth" "I", Cond.fieldLink RX3 19 "RentHarmonyModel" "rebates" "[I", Cond.fieldLink RX3 95 "RentHarmonyModel" "pot" "I", Cond.fieldLink RX3 67 "RentHarmonyModel" "ways" "I", Cond.methodLink RX3 98 yX3_settle, Cond.instanceMethod yX3_settle, Cond.selects RX3 yX3_settle yX3_settle, Cond.code yX3_settle cX3_settle 4 none, Cond.fieldLink RX3 16 "RentHarmonyModel" "early" "[I", Cond.methodLink RX3 87 yX3_give, Cond.instanceMethod yX3_give, Cond.selects RX3 yX3_give yX3_give, Cond.code yX3_give cX3_give 1 (some .int), Cond.methodLink RX3 80 yX3_tryFrom]
def wsX3_digest_r2 : List Cond := [Cond.instanceMethod yX3_tryFrom, Cond.selects RX3 yX3_tryFrom yX3_tryFrom, Cond.code yX3_tryFrom cX3_tryFrom 4 none, Cond.fieldLink RX3 22 "RentHarmonyModel" "tried" "[I", Cond.fieldLink RX3 13 "RentHarmonyModel" "rooms" "[I", Cond.methodLink RX3 70 arraycopyName, Cond.native arraycopyName, Cond.static arraycopyName, Cond.initialized "java/lang/System", Cond.fieldLink RX3 25 "RentHarmonyModel" "free" "I", Cond.methodLink RX3 76 yX3_isTaken, Cond.instanceMethod yX3_isTaken, Cond.selects RX3 yX3_isTaken yX3_isTaken, Cond.code yX3_isTaken cX3_isTaken 4 (some .boolean), Cond.fieldLink RX3 29 "RentHarmonyModel" "who" "I", Cond.fieldLink RX3 60 "RentHarmonyModel" "must" "Z", Cond.fieldLink RX3 32 "RentHarmonyModel" "which" "I", Cond.methodLink RX3 53 yX3_bi, Cond.instanceMethod yX3_bi, Cond.selects RX3 yX3_bi yX3_bi, Cond.code yX3_bi cX3_bi 3 (some .int), Cond.fieldLink RX3 9 "RentHarmonyModel" "bids" "[I", Cond.methodLink RX3 91 yX3_isRaised, Cond.instanceMethod yX3_isRaised]
def wsX3_digest_r3 : List Cond := [Cond.selects RX3 yX3_isRaised yX3_isRaised, Cond.code yX3_isRaised cX3_isRaised 4 (some .boolean), Cond.methodLink RX3 84 yX3_of, Cond.instanceMethod yX3_of, Cond.selects RX3 yX3_of yX3_of, Cond.code yX3_of cX3_of 3 (some .int), Cond.methodLink RX3 101 yX3_pays, Cond.instanceMethod yX3_pays, Cond.selects RX3 yX3_pays yX3_pays, Cond.code yX3_pays cX3_pays 2 (some .int), Cond.methodLink RX3 107 yX3_toldOf, Cond.instanceMethod yX3_toldOf, Cond.selects RX3 yX3_toldOf yX3_toldOf, Cond.code yX3_toldOf cX3_toldOf 5 (some .int), Cond.methodLink RX3 104 yX3_isEnvy, Cond.instanceMethod yX3_isEnvy, Cond.selects RX3 yX3_isEnvy yX3_isEnvy, Cond.code yX3_isEnvy cX3_isEnvy 3 (some .boolean)]
def wsX3_digest : List Cond := .code yX3_digest cX3_digest 5 (some .long) :: ((wsX3_digest_r1 ++ (wsX3_digest_r2 ++ wsX3_digest_r3)) ++ wsX30)
def wsJ9_max_7cf53 : List Cond := .code yJ9_max_7cf53 cJ9_max_7cf53 2 (some .int) :: ([])
def wsJ9_min_7cf53 : List Cond := .code yJ9_min_7cf53 cJ9_min_7cf53 2 (some .int) :: ([])
def wsL_come_r1 : List Cond := [Cond.classLink RL 13 "java/lang/IllegalStateException", Cond.methodLink RL 7 yX2_come, Cond.instanceMethod yX2_come, Cond.selects RX2 yX2_come yX2_come, Cond.initialized RX2, Cond.code yX2_come cX2_come 1 (some .int), Cond.classLink RX2 50 "java/lang/IllegalStateException", Cond.initialized "java/lang/IllegalStateException", Cond.fieldLink RX2 10 "RentHarmony" "bids" "LRentHarmony$Bids;", Cond.methodLink RX2 46 yX0_size, Cond.instanceMethod yX0_size, Cond.selects RX0 yX0_size yX0_size, Cond.initialized RX0, Cond.code yX0_size cX0_size 1 (some .int), Cond.fieldLink RX0 15 "RentHarmony$Bids" "size" "I", Cond.methodLink RX2 57 yX0_grow, Cond.instanceMethod yX0_grow, Cond.selects RX0 yX0_grow yX0_grow, Cond.code yX0_grow cX0_grow 2 none, Cond.methodLink RX0 29 yX0_set, Cond.instanceMethod yX0_set, Cond.selects RX0 yX0_set yX0_set, Cond.code yX0_set cX0_set 4 none, Cond.fieldLink RX0 9 "RentHarmony$Bids" "coins" "[I"]
def wsL_come_r2 : List Cond := [Cond.methodLink RX0 19 yX0_has, Cond.instanceMethod yX0_has, Cond.selects RX0 yX0_has yX0_has, Cond.code yX0_has cX0_has 2 (some .boolean), Cond.methodLink RX2 60 yX2_settleAll, Cond.instanceMethod yX2_settleAll, Cond.selects RX2 yX2_settleAll yX2_settleAll, Cond.code yX2_settleAll cX2_settleAll 1 none, Cond.fieldLink RX2 19 "RentHarmony" "giving" "LRentHarmony$Giving;", Cond.methodLink RX2 136 yX1_choose, Cond.instanceMethod yX1_choose, Cond.selects RX1 yX1_choose yX1_choose, Cond.initialized RX1, Cond.code yX1_choose cX1_choose 5 none, Cond.fieldLink RX1 9 "RentHarmony$Giving" "bestOfRest" "[I", Cond.fieldLink RX1 15 "RentHarmony$Giving" "waysOfRest" "[I", Cond.fieldLink RX1 18 "RentHarmony$Giving" "rooms" "[I", Cond.methodLink RX1 21 yX0_size, Cond.methodLink RX1 27 yX1_weigh, Cond.instanceMethod yX1_weigh, Cond.selects RX1 yX1_weigh yX1_weigh, Cond.code yX1_weigh cX1_weigh 9 none, Cond.methodLink RX1 35 yJ6_bitCount_0f7a4, Cond.static yJ6_bitCount_0f7a4]
def wsL_come_r3 : List Cond := [Cond.initialized RJ6, Cond.code yJ6_bitCount_0f7a4 cJ6_bitCount_0f7a4 1 (some .int), Cond.constant RJ6 265 (1431655765), Cond.constant RJ6 266 (858993459), Cond.constant RJ6 267 (252645135), Cond.methodLink RX1 41 yX0_of, Cond.instanceMethod yX0_of, Cond.selects RX0 yX0_of yX0_of, Cond.code yX0_of cX0_of 3 (some .int), Cond.methodLink RX1 31 yX1_firstBestRoom, Cond.instanceMethod yX1_firstBestRoom, Cond.selects RX1 yX1_firstBestRoom yX1_firstBestRoom, Cond.code yX1_firstBestRoom cX1_firstBestRoom 5 (some .int), Cond.methodLink RX2 164 yX2_settleFirstRebates, Cond.instanceMethod yX2_settleFirstRebates, Cond.selects RX2 yX2_settleFirstRebates yX2_settleFirstRebates, Cond.code yX2_settleFirstRebates cX2_settleFirstRebates 4 none, Cond.fieldLink RX2 29 "RentHarmony" "firstRebates" "[I", Cond.methodLink RX2 167 yX2_bestOfAllRooms, Cond.instanceMethod yX2_bestOfAllRooms, Cond.selects RX2 yX2_bestOfAllRooms yX2_bestOfAllRooms, Cond.code yX2_bestOfAllRooms cX2_bestOfAllRooms 5 (some .int), Cond.methodLink RX2 123 Lib.Math.max.name, Cond.static Lib.Math.max.name]
def wsL_come_r4 : List Cond := [Cond.initialized "java/lang/Math", Cond.code Lib.Math.max.name Lib.Math.max.code 2 (some .int), Cond.methodLink RX2 152 yX2_firstRebateOf, Cond.instanceMethod yX2_firstRebateOf, Cond.selects RX2 yX2_firstRebateOf yX2_firstRebateOf, Cond.code yX2_firstRebateOf cX2_firstRebateOf 2 (some .int), Cond.methodLink RX2 63 yX0_has, Cond.methodLink RX2 149 yX2_ownBidOf, Cond.instanceMethod yX2_ownBidOf, Cond.selects RX2 yX2_ownBidOf yX2_ownBidOf, Cond.code yX2_ownBidOf cX2_ownBidOf 2 (some .int), Cond.methodLink RX2 92 yX1_roomOf, Cond.instanceMethod yX1_roomOf, Cond.selects RX1 yX1_roomOf yX1_roomOf, Cond.code yX1_roomOf cX1_roomOf 2 (some .int), Cond.methodLink RX2 77 yX0_of, Cond.methodLink RX2 87 yX2_settleLeftOver, Cond.instanceMethod yX2_settleLeftOver, Cond.selects RX2 yX2_settleLeftOver yX2_settleLeftOver, Cond.code yX2_settleLeftOver cX2_settleLeftOver 3 none, Cond.fieldLink RX2 36 "RentHarmony" "rentCoins" "I", Cond.fieldLink RX2 40 "RentHarmony" "share" "I", Cond.fieldLink RX2 43 "RentHarmony" "pot" "I", Cond.methodLink RX2 139 yX1_worth]
def wsL_come_r5 : List Cond := [Cond.instanceMethod yX1_worth, Cond.selects RX1 yX1_worth yX1_worth, Cond.code yX1_worth cX1_worth 1 (some .int), Cond.methodLink RX2 158 yX2_allFirstRebates, Cond.instanceMethod yX2_allFirstRebates, Cond.selects RX2 yX2_allFirstRebates yX2_allFirstRebates, Cond.code yX2_allFirstRebates cX2_allFirstRebates 3 (some .int)]
def wsL_come : List Cond := .codeWith yL_come cL_come 3 (some .int) [(0, 8, 11, 13)] :: ((wsL_come_r1 ++ (wsL_come_r2 ++ (wsL_come_r3 ++ (wsL_come_r4 ++ wsL_come_r5)))) ++ wsX20 ++ wsX00 ++ wsX10 ++ (vx_atS RX2 54 "java/lang/IllegalStateException" ["java/lang/RuntimeException", "java/lang/Exception"]).filter goodWord)
def wsL_bid_r1 : List Cond := [Cond.classLink RL 19 "java/lang/IndexOutOfBoundsException", Cond.classLink RL 21 "java/lang/IllegalArgumentException", Cond.methodLink RL 15 yX2_bid, Cond.instanceMethod yX2_bid, Cond.selects RX2 yX2_bid yX2_bid, Cond.initialized RX2, Cond.code yX2_bid cX2_bid 5 (some .int), Cond.classLink RX2 67 "java/lang/IndexOutOfBoundsException", Cond.initialized "java/lang/IndexOutOfBoundsException", Cond.classLink RX2 72 "java/lang/IllegalArgumentException", Cond.initialized "java/lang/IllegalArgumentException", Cond.fieldLink RX2 10 "RentHarmony" "bids" "LRentHarmony$Bids;", Cond.methodLink RX2 63 yX0_has, Cond.instanceMethod yX0_has, Cond.selects RX0 yX0_has yX0_has, Cond.initialized RX0, Cond.code yX0_has cX0_has 2 (some .boolean), Cond.fieldLink RX0 15 "RentHarmony$Bids" "size" "I", Cond.methodLink RX2 77 yX0_of, Cond.instanceMethod yX0_of, Cond.selects RX0 yX0_of yX0_of, Cond.code yX0_of cX0_of 3 (some .int), Cond.fieldLink RX0 9 "RentHarmony$Bids" "coins" "[I", Cond.methodLink RX0 19 yX0_has]
def wsL_bid_r2 : List Cond := [Cond.methodLink RX2 81 yX0_set, Cond.instanceMethod yX0_set, Cond.selects RX0 yX0_set yX0_set, Cond.code yX0_set cX0_set 4 none, Cond.methodLink RX2 60 yX2_settleAll, Cond.instanceMethod yX2_settleAll, Cond.selects RX2 yX2_settleAll yX2_settleAll, Cond.code yX2_settleAll cX2_settleAll 1 none, Cond.fieldLink RX2 19 "RentHarmony" "giving" "LRentHarmony$Giving;", Cond.methodLink RX2 136 yX1_choose, Cond.instanceMethod yX1_choose, Cond.selects RX1 yX1_choose yX1_choose, Cond.initialized RX1, Cond.code yX1_choose cX1_choose 5 none, Cond.fieldLink RX1 9 "RentHarmony$Giving" "bestOfRest" "[I", Cond.fieldLink RX1 15 "RentHarmony$Giving" "waysOfRest" "[I", Cond.fieldLink RX1 18 "RentHarmony$Giving" "rooms" "[I", Cond.methodLink RX1 21 yX0_size, Cond.instanceMethod yX0_size, Cond.selects RX0 yX0_size yX0_size, Cond.code yX0_size cX0_size 1 (some .int), Cond.methodLink RX1 27 yX1_weigh, Cond.instanceMethod yX1_weigh, Cond.selects RX1 yX1_weigh yX1_weigh]
def wsL_bid_r3 : List Cond := [Cond.code yX1_weigh cX1_weigh 9 none, Cond.methodLink RX1 35 yJ6_bitCount_0f7a4, Cond.static yJ6_bitCount_0f7a4, Cond.initialized RJ6, Cond.code yJ6_bitCount_0f7a4 cJ6_bitCount_0f7a4 1 (some .int), Cond.constant RJ6 265 (1431655765), Cond.constant RJ6 266 (858993459), Cond.constant RJ6 267 (252645135), Cond.methodLink RX1 41 yX0_of, Cond.methodLink RX1 31 yX1_firstBestRoom, Cond.instanceMethod yX1_firstBestRoom, Cond.selects RX1 yX1_firstBestRoom yX1_firstBestRoom, Cond.code yX1_firstBestRoom cX1_firstBestRoom 5 (some .int), Cond.methodLink RX2 164 yX2_settleFirstRebates, Cond.instanceMethod yX2_settleFirstRebates, Cond.selects RX2 yX2_settleFirstRebates yX2_settleFirstRebates, Cond.code yX2_settleFirstRebates cX2_settleFirstRebates 4 none, Cond.fieldLink RX2 29 "RentHarmony" "firstRebates" "[I", Cond.methodLink RX2 46 yX0_size, Cond.methodLink RX2 167 yX2_bestOfAllRooms, Cond.instanceMethod yX2_bestOfAllRooms, Cond.selects RX2 yX2_bestOfAllRooms yX2_bestOfAllRooms, Cond.code yX2_bestOfAllRooms cX2_bestOfAllRooms 5 (some .int), Cond.methodLink RX2 123 Lib.Math.max.name]
def wsL_bid_r4 : List Cond := [Cond.static Lib.Math.max.name, Cond.initialized "java/lang/Math", Cond.code Lib.Math.max.name Lib.Math.max.code 2 (some .int), Cond.methodLink RX2 152 yX2_firstRebateOf, Cond.instanceMethod yX2_firstRebateOf, Cond.selects RX2 yX2_firstRebateOf yX2_firstRebateOf, Cond.code yX2_firstRebateOf cX2_firstRebateOf 2 (some .int), Cond.methodLink RX2 149 yX2_ownBidOf, Cond.instanceMethod yX2_ownBidOf, Cond.selects RX2 yX2_ownBidOf yX2_ownBidOf, Cond.code yX2_ownBidOf cX2_ownBidOf 2 (some .int), Cond.methodLink RX2 92 yX1_roomOf, Cond.instanceMethod yX1_roomOf, Cond.selects RX1 yX1_roomOf yX1_roomOf, Cond.code yX1_roomOf cX1_roomOf 2 (some .int), Cond.methodLink RX2 87 yX2_settleLeftOver, Cond.instanceMethod yX2_settleLeftOver, Cond.selects RX2 yX2_settleLeftOver yX2_settleLeftOver, Cond.code yX2_settleLeftOver cX2_settleLeftOver 3 none, Cond.fieldLink RX2 36 "RentHarmony" "rentCoins" "I", Cond.fieldLink RX2 40 "RentHarmony" "share" "I", Cond.fieldLink RX2 43 "RentHarmony" "pot" "I", Cond.methodLink RX2 139 yX1_worth, Cond.instanceMethod yX1_worth]
def wsL_bid_r5 : List Cond := [Cond.selects RX1 yX1_worth yX1_worth, Cond.code yX1_worth cX1_worth 1 (some .int), Cond.methodLink RX2 158 yX2_allFirstRebates, Cond.instanceMethod yX2_allFirstRebates, Cond.selects RX2 yX2_allFirstRebates yX2_allFirstRebates, Cond.code yX2_allFirstRebates cX2_allFirstRebates 3 (some .int)]
def wsL_bid : List Cond := .codeWith yL_bid cL_bid 6 (some .int) [(0, 12, 15, 19), (0, 12, 19, 21)] :: ((wsL_bid_r1 ++ (wsL_bid_r2 ++ (wsL_bid_r3 ++ (wsL_bid_r4 ++ wsL_bid_r5)))) ++ wsX20 ++ wsX00 ++ wsX10 ++ (vx_atS RX2 71 "java/lang/IndexOutOfBoundsException" ["java/lang/RuntimeException", "java/lang/Exception"]).filter goodWord ++ (vx_atS RX2 76 "java/lang/IllegalArgumentException" ["java/lang/RuntimeException", "java/lang/Exception"]).filter goodWord)
def wsL_rent_r1 : List Cond := [Cond.classLink RL 21 "java/lang/IllegalArgumentException", Cond.methodLink RL 23 yX2_rent, Cond.instanceMethod yX2_rent, Cond.selects RX2 yX2_rent yX2_rent, Cond.initialized RX2, Cond.code yX2_rent cX2_rent 3 (some .int), Cond.classLink RX2 72 "java/lang/IllegalArgumentException", Cond.initialized "java/lang/IllegalArgumentException", Cond.fieldLink RX2 36 "RentHarmony" "rentCoins" "I", Cond.methodLink RX2 87 yX2_settleLeftOver, Cond.instanceMethod yX2_settleLeftOver, Cond.selects RX2 yX2_settleLeftOver yX2_settleLeftOver, Cond.code yX2_settleLeftOver cX2_settleLeftOver 3 none, Cond.fieldLink RX2 10 "RentHarmony" "bids" "LRentHarmony$Bids;", Cond.fieldLink RX2 19 "RentHarmony" "giving" "LRentHarmony$Giving;", Cond.fieldLink RX2 40 "RentHarmony" "share" "I", Cond.fieldLink RX2 43 "RentHarmony" "pot" "I", Cond.methodLink RX2 46 yX0_size, Cond.instanceMethod yX0_size, Cond.selects RX0 yX0_size yX0_size, Cond.initialized RX0, Cond.code yX0_size cX0_size 1 (some .int), Cond.fieldLink RX0 15 "RentHarmony$Bids" "size" "I", Cond.methodLink RX2 139 yX1_worth]
def wsL_rent_r2 : List Cond := [Cond.instanceMethod yX1_worth, Cond.selects RX1 yX1_worth yX1_worth, Cond.initialized RX1, Cond.code yX1_worth cX1_worth 1 (some .int), Cond.fieldLink RX1 9 "RentHarmony$Giving" "bestOfRest" "[I", Cond.methodLink RX2 158 yX2_allFirstRebates, Cond.instanceMethod yX2_allFirstRebates, Cond.selects RX2 yX2_allFirstRebates yX2_allFirstRebates, Cond.code yX2_allFirstRebates cX2_allFirstRebates 3 (some .int), Cond.fieldLink RX2 29 "RentHarmony" "firstRebates" "[I"]
def wsL_rent : List Cond := .codeWith yL_rent cL_rent 4 (some .int) [(0, 9, 12, 21)] :: ((wsL_rent_r1 ++ wsL_rent_r2) ++ wsX20 ++ wsX00 ++ wsX10 ++ (vx_atS RX2 76 "java/lang/IllegalArgumentException" ["java/lang/RuntimeException", "java/lang/Exception"]).filter goodWord)
def wsL_leave_r1 : List Cond := [Cond.classLink RL 19 "java/lang/IndexOutOfBoundsException", Cond.methodLink RL 27 yX2_leave, Cond.instanceMethod yX2_leave, Cond.selects RX2 yX2_leave yX2_leave, Cond.initialized RX2, Cond.code yX2_leave cX2_leave 3 (some .int), Cond.classLink RX2 67 "java/lang/IndexOutOfBoundsException", Cond.initialized "java/lang/IndexOutOfBoundsException", Cond.fieldLink RX2 10 "RentHarmony" "bids" "LRentHarmony$Bids;", Cond.fieldLink RX2 19 "RentHarmony" "giving" "LRentHarmony$Giving;", Cond.methodLink RX2 63 yX0_has, Cond.instanceMethod yX0_has, Cond.selects RX0 yX0_has yX0_has, Cond.initialized RX0, Cond.code yX0_has cX0_has 2 (some .boolean), Cond.fieldLink RX0 15 "RentHarmony$Bids" "size" "I", Cond.methodLink RX2 92 yX1_roomOf, Cond.instanceMethod yX1_roomOf, Cond.selects RX1 yX1_roomOf yX1_roomOf, Cond.initialized RX1, Cond.code yX1_roomOf cX1_roomOf 2 (some .int), Cond.fieldLink RX1 18 "RentHarmony$Giving" "rooms" "[I", Cond.methodLink RX2 96 yX0_shrink, Cond.instanceMethod yX0_shrink]
def wsL_leave_r2 : List Cond := [Cond.selects RX0 yX0_shrink yX0_shrink, Cond.code yX0_shrink cX0_shrink 5 none, Cond.methodLink RX0 19 yX0_has, Cond.methodLink RX0 33 yX0_of, Cond.instanceMethod yX0_of, Cond.selects RX0 yX0_of yX0_of, Cond.code yX0_of cX0_of 3 (some .int), Cond.fieldLink RX0 9 "RentHarmony$Bids" "coins" "[I", Cond.methodLink RX0 29 yX0_set, Cond.instanceMethod yX0_set, Cond.selects RX0 yX0_set yX0_set, Cond.code yX0_set cX0_set 4 none, Cond.methodLink RX2 60 yX2_settleAll, Cond.instanceMethod yX2_settleAll, Cond.selects RX2 yX2_settleAll yX2_settleAll, Cond.code yX2_settleAll cX2_settleAll 1 none, Cond.methodLink RX2 136 yX1_choose, Cond.instanceMethod yX1_choose, Cond.selects RX1 yX1_choose yX1_choose, Cond.code yX1_choose cX1_choose 5 none, Cond.fieldLink RX1 9 "RentHarmony$Giving" "bestOfRest" "[I", Cond.fieldLink RX1 15 "RentHarmony$Giving" "waysOfRest" "[I", Cond.methodLink RX1 21 yX0_size, Cond.instanceMethod yX0_size]
def wsL_leave_r3 : List Cond := [Cond.selects RX0 yX0_size yX0_size, Cond.code yX0_size cX0_size 1 (some .int), Cond.methodLink RX1 27 yX1_weigh, Cond.instanceMethod yX1_weigh, Cond.selects RX1 yX1_weigh yX1_weigh, Cond.code yX1_weigh cX1_weigh 9 none, Cond.methodLink RX1 35 yJ6_bitCount_0f7a4, Cond.static yJ6_bitCount_0f7a4, Cond.initialized RJ6, Cond.code yJ6_bitCount_0f7a4 cJ6_bitCount_0f7a4 1 (some .int), Cond.constant RJ6 265 (1431655765), Cond.constant RJ6 266 (858993459), Cond.constant RJ6 267 (252645135), Cond.methodLink RX1 41 yX0_of, Cond.methodLink RX1 31 yX1_firstBestRoom, Cond.instanceMethod yX1_firstBestRoom, Cond.selects RX1 yX1_firstBestRoom yX1_firstBestRoom, Cond.code yX1_firstBestRoom cX1_firstBestRoom 5 (some .int), Cond.methodLink RX2 164 yX2_settleFirstRebates, Cond.instanceMethod yX2_settleFirstRebates, Cond.selects RX2 yX2_settleFirstRebates yX2_settleFirstRebates, Cond.code yX2_settleFirstRebates cX2_settleFirstRebates 4 none, Cond.fieldLink RX2 29 "RentHarmony" "firstRebates" "[I", Cond.methodLink RX2 46 yX0_size]
def wsL_leave_r4 : List Cond := [Cond.methodLink RX2 167 yX2_bestOfAllRooms, Cond.instanceMethod yX2_bestOfAllRooms, Cond.selects RX2 yX2_bestOfAllRooms yX2_bestOfAllRooms, Cond.code yX2_bestOfAllRooms cX2_bestOfAllRooms 5 (some .int), Cond.methodLink RX2 123 Lib.Math.max.name, Cond.static Lib.Math.max.name, Cond.initialized "java/lang/Math", Cond.code Lib.Math.max.name Lib.Math.max.code 2 (some .int), Cond.methodLink RX2 152 yX2_firstRebateOf, Cond.instanceMethod yX2_firstRebateOf, Cond.selects RX2 yX2_firstRebateOf yX2_firstRebateOf, Cond.code yX2_firstRebateOf cX2_firstRebateOf 2 (some .int), Cond.methodLink RX2 149 yX2_ownBidOf, Cond.instanceMethod yX2_ownBidOf, Cond.selects RX2 yX2_ownBidOf yX2_ownBidOf, Cond.code yX2_ownBidOf cX2_ownBidOf 2 (some .int), Cond.methodLink RX2 77 yX0_of, Cond.methodLink RX2 87 yX2_settleLeftOver, Cond.instanceMethod yX2_settleLeftOver, Cond.selects RX2 yX2_settleLeftOver yX2_settleLeftOver, Cond.code yX2_settleLeftOver cX2_settleLeftOver 3 none, Cond.fieldLink RX2 36 "RentHarmony" "rentCoins" "I", Cond.fieldLink RX2 40 "RentHarmony" "share" "I", Cond.fieldLink RX2 43 "RentHarmony" "pot" "I"]
def wsL_leave_r5 : List Cond := [Cond.methodLink RX2 139 yX1_worth, Cond.instanceMethod yX1_worth, Cond.selects RX1 yX1_worth yX1_worth, Cond.code yX1_worth cX1_worth 1 (some .int), Cond.methodLink RX2 158 yX2_allFirstRebates, Cond.instanceMethod yX2_allFirstRebates, Cond.selects RX2 yX2_allFirstRebates yX2_allFirstRebates, Cond.code yX2_allFirstRebates cX2_allFirstRebates 3 (some .int)]
def wsL_leave : List Cond := .codeWith yL_leave cL_leave 4 (some .int) [(0, 9, 12, 19)] :: ((wsL_leave_r1 ++ (wsL_leave_r2 ++ (wsL_leave_r3 ++ (wsL_leave_r4 ++ wsL_leave_r5)))) ++ wsX20 ++ wsX00 ++ wsX10 ++ (vx_atS RX2 71 "java/lang/IndexOutOfBoundsException" ["java/lang/RuntimeException", "java/lang/Exception"]).filter goodWord)
def wsL_told_r1 : List Cond := [Cond.classLink RL 19 "java/lang/IndexOutOfBoundsException", Cond.methodLink RL 30 yX2_told, Cond.instanceMethod yX2_told, Cond.selects RX2 yX2_told yX2_told, Cond.initialized RX2, Cond.code yX2_told cX2_told 3 (some .int), Cond.classLink RX2 67 "java/lang/IndexOutOfBoundsException", Cond.initialized "java/lang/IndexOutOfBoundsException", Cond.fieldLink RX2 10 "RentHarmony" "bids" "LRentHarmony$Bids;", Cond.methodLink RX2 63 yX0_has, Cond.instanceMethod yX0_has, Cond.selects RX0 yX0_has yX0_has, Cond.initialized RX0, Cond.code yX0_has cX0_has 2 (some .boolean), Cond.fieldLink RX0 15 "RentHarmony$Bids" "size" "I", Cond.methodLink RX2 102 yX2_fact, Cond.instanceMethod yX2_fact, Cond.selects RX2 yX2_fact yX2_fact, Cond.code yX2_fact cX2_fact 3 (some .int), Cond.fieldLink RX2 19 "RentHarmony" "giving" "LRentHarmony$Giving;", Cond.methodLink RX2 92 yX1_roomOf, Cond.instanceMethod yX1_roomOf, Cond.selects RX1 yX1_roomOf yX1_roomOf, Cond.initialized RX1]
def wsL_told_r2 : List Cond := [Cond.code yX1_roomOf cX1_roomOf 2 (some .int), Cond.fieldLink RX1 18 "RentHarmony$Giving" "rooms" "[I", Cond.methodLink RX2 149 yX2_ownBidOf, Cond.instanceMethod yX2_ownBidOf, Cond.selects RX2 yX2_ownBidOf yX2_ownBidOf, Cond.code yX2_ownBidOf cX2_ownBidOf 2 (some .int), Cond.methodLink RX2 77 yX0_of, Cond.instanceMethod yX0_of, Cond.selects RX0 yX0_of yX0_of, Cond.code yX0_of cX0_of 3 (some .int), Cond.fieldLink RX0 9 "RentHarmony$Bids" "coins" "[I", Cond.methodLink RX0 19 yX0_has, Cond.methodLink RX2 114 yX2_rebateOf, Cond.instanceMethod yX2_rebateOf, Cond.selects RX2 yX2_rebateOf yX2_rebateOf, Cond.code yX2_rebateOf cX2_rebateOf 2 (some .int), Cond.fieldLink RX2 40 "RentHarmony" "share" "I", Cond.methodLink RX2 152 yX2_firstRebateOf, Cond.instanceMethod yX2_firstRebateOf, Cond.selects RX2 yX2_firstRebateOf yX2_firstRebateOf, Cond.code yX2_firstRebateOf cX2_firstRebateOf 2 (some .int), Cond.fieldLink RX2 29 "RentHarmony" "firstRebates" "[I", Cond.methodLink RX2 117 yX2_payOf, Cond.instanceMethod yX2_payOf]
def wsL_told_r3 : List Cond := [Cond.selects RX2 yX2_payOf yX2_payOf, Cond.code yX2_payOf cX2_payOf 2 (some .int), Cond.methodLink RX2 155 yX2_enviedBy, Cond.instanceMethod yX2_enviedBy, Cond.selects RX2 yX2_enviedBy yX2_enviedBy, Cond.code yX2_enviedBy cX2_enviedBy 4 (some .int), Cond.methodLink RX2 46 yX0_size, Cond.instanceMethod yX0_size, Cond.selects RX0 yX0_size yX0_size, Cond.code yX0_size cX0_size 1 (some .int), Cond.methodLink RX2 110 yX2_wouldEnvy, Cond.instanceMethod yX2_wouldEnvy, Cond.selects RX2 yX2_wouldEnvy yX2_wouldEnvy, Cond.code yX2_wouldEnvy cX2_wouldEnvy 3 (some .boolean)]
def wsL_told : List Cond := .codeWith yL_told cL_told 5 (some .int) [(0, 10, 13, 19)] :: ((wsL_told_r1 ++ (wsL_told_r2 ++ wsL_told_r3)) ++ wsX20 ++ wsX00 ++ wsX10 ++ (vx_atS RX2 71 "java/lang/IndexOutOfBoundsException" ["java/lang/RuntimeException", "java/lang/Exception"]).filter goodWord)
def wsL_offer : List Cond := .codeWith yL_offer cL_offer 5 (some .int) [(0, 10, 13, 19)] :: ([.classLink RL 19 "java/lang/IndexOutOfBoundsException", .methodLink RL 34 yX2_offer, .instanceMethod yX2_offer, .selects RX2 yX2_offer yX2_offer, .initialized RX2, .code yX2_offer cX2_offer 3 (some .int), .classLink RX2 67 "java/lang/IndexOutOfBoundsException", .initialized "java/lang/IndexOutOfBoundsException", .fieldLink RX2 10 "RentHarmony" "bids" "LRentHarmony$Bids;", .methodLink RX2 63 yX0_has, .instanceMethod yX0_has, .selects RX0 yX0_has yX0_has, .initialized RX0, .code yX0_has cX0_has 2 (some .boolean), .fieldLink RX0 15 "RentHarmony$Bids" "size" "I", .methodLink RX2 77 yX0_of, .instanceMethod yX0_of, .selects RX0 yX0_of yX0_of, .code yX0_of cX0_of 3 (some .int), .fieldLink RX0 9 "RentHarmony$Bids" "coins" "[I", .methodLink RX0 19 yX0_has] ++ wsX20 ++ wsX00 ++ (vx_atS RX2 71 "java/lang/IndexOutOfBoundsException" ["java/lang/RuntimeException", "java/lang/Exception"]).filter goodWord)
def wsL_count_r1 : List Cond := [Cond.classLink RL 19 "java/lang/IndexOutOfBoundsException", Cond.methodLink RL 37 yX2_count, Cond.instanceMethod yX2_count, Cond.selects RX2 yX2_count yX2_count, Cond.initialized RX2, Cond.code yX2_count cX2_count 2 (some .int), Cond.classLink RX2 67 "java/lang/IndexOutOfBoundsException", Cond.initialized "java/lang/IndexOutOfBoundsException", Cond.methodLink RX2 107 yX2_total, Cond.instanceMethod yX2_total, Cond.selects RX2 yX2_total yX2_total, Cond.code yX2_total cX2_total 2 (some .int), Cond.fieldLink RX2 10 "RentHarmony" "bids" "LRentHarmony$Bids;", Cond.fieldLink RX2 36 "RentHarmony" "rentCoins" "I", Cond.fieldLink RX2 19 "RentHarmony" "giving" "LRentHarmony$Giving;", Cond.fieldLink RX2 40 "RentHarmony" "share" "I", Cond.fieldLink RX2 43 "RentHarmony" "pot" "I", Cond.methodLink RX2 46 yX0_size, Cond.instanceMethod yX0_size, Cond.selects RX0 yX0_size yX0_size, Cond.initialized RX0, Cond.code yX0_size cX0_size 1 (some .int), Cond.fieldLink RX0 15 "RentHarmony$Bids" "size" "I", Cond.methodLink RX2 139 yX1_worth]
def wsL_count_r2 : List Cond := [Cond.instanceMethod yX1_worth, Cond.selects RX1 yX1_worth yX1_worth, Cond.initialized RX1, Cond.code yX1_worth cX1_worth 1 (some .int), Cond.fieldLink RX1 9 "RentHarmony$Giving" "bestOfRest" "[I", Cond.methodLink RX2 158 yX2_allFirstRebates, Cond.instanceMethod yX2_allFirstRebates, Cond.selects RX2 yX2_allFirstRebates yX2_allFirstRebates, Cond.code yX2_allFirstRebates cX2_allFirstRebates 3 (some .int), Cond.fieldLink RX2 29 "RentHarmony" "firstRebates" "[I", Cond.methodLink RX2 161 yX1_ways, Cond.instanceMethod yX1_ways, Cond.selects RX1 yX1_ways yX1_ways, Cond.code yX1_ways cX1_ways 1 (some .int), Cond.fieldLink RX1 15 "RentHarmony$Giving" "waysOfRest" "[I", Cond.methodLink RX2 142 yX2_allPays, Cond.instanceMethod yX2_allPays, Cond.selects RX2 yX2_allPays yX2_allPays, Cond.code yX2_allPays cX2_allPays 3 (some .int), Cond.methodLink RX2 117 yX2_payOf, Cond.instanceMethod yX2_payOf, Cond.selects RX2 yX2_payOf yX2_payOf, Cond.code yX2_payOf cX2_payOf 2 (some .int), Cond.methodLink RX2 149 yX2_ownBidOf]
def wsL_count_r3 : List Cond := [Cond.instanceMethod yX2_ownBidOf, Cond.selects RX2 yX2_ownBidOf yX2_ownBidOf, Cond.code yX2_ownBidOf cX2_ownBidOf 2 (some .int), Cond.methodLink RX2 92 yX1_roomOf, Cond.instanceMethod yX1_roomOf, Cond.selects RX1 yX1_roomOf yX1_roomOf, Cond.code yX1_roomOf cX1_roomOf 2 (some .int), Cond.fieldLink RX1 18 "RentHarmony$Giving" "rooms" "[I", Cond.methodLink RX2 77 yX0_of, Cond.instanceMethod yX0_of, Cond.selects RX0 yX0_of yX0_of, Cond.code yX0_of cX0_of 3 (some .int), Cond.fieldLink RX0 9 "RentHarmony$Bids" "coins" "[I", Cond.methodLink RX0 19 yX0_has, Cond.instanceMethod yX0_has, Cond.selects RX0 yX0_has yX0_has, Cond.code yX0_has cX0_has 2 (some .boolean), Cond.methodLink RX2 114 yX2_rebateOf, Cond.instanceMethod yX2_rebateOf, Cond.selects RX2 yX2_rebateOf yX2_rebateOf, Cond.code yX2_rebateOf cX2_rebateOf 2 (some .int), Cond.methodLink RX2 152 yX2_firstRebateOf, Cond.instanceMethod yX2_firstRebateOf, Cond.selects RX2 yX2_firstRebateOf yX2_firstRebateOf]
def wsL_count_r4 : List Cond := [Cond.code yX2_firstRebateOf cX2_firstRebateOf 2 (some .int), Cond.methodLink RX2 63 yX0_has]
def wsL_count : List Cond := .codeWith yL_count cL_count 4 (some .int) [(0, 9, 12, 19)] :: ((wsL_count_r1 ++ (wsL_count_r2 ++ (wsL_count_r3 ++ wsL_count_r4))) ++ wsX20 ++ wsX00 ++ wsX10 ++ (vx_atS RX2 71 "java/lang/IndexOutOfBoundsException" ["java/lang/RuntimeException", "java/lang/Exception"]).filter goodWord)
def wsL_envies_r1 : List Cond := [Cond.classLink RL 19 "java/lang/IndexOutOfBoundsException", Cond.methodLink RL 40 yX2_envies, Cond.instanceMethod yX2_envies, Cond.selects RX2 yX2_envies yX2_envies, Cond.initialized RX2, Cond.code yX2_envies cX2_envies 3 (some .boolean), Cond.classLink RX2 67 "java/lang/IndexOutOfBoundsException", Cond.initialized "java/lang/IndexOutOfBoundsException", Cond.fieldLink RX2 10 "RentHarmony" "bids" "LRentHarmony$Bids;", Cond.methodLink RX2 63 yX0_has, Cond.instanceMethod yX0_has, Cond.selects RX0 yX0_has yX0_has, Cond.initialized RX0, Cond.code yX0_has cX0_has 2 (some .boolean), Cond.fieldLink RX0 15 "RentHarmony$Bids" "size" "I", Cond.methodLink RX2 110 yX2_wouldEnvy, Cond.instanceMethod yX2_wouldEnvy, Cond.selects RX2 yX2_wouldEnvy yX2_wouldEnvy, Cond.code yX2_wouldEnvy cX2_wouldEnvy 3 (some .boolean), Cond.fieldLink RX2 19 "RentHarmony" "giving" "LRentHarmony$Giving;", Cond.methodLink RX2 92 yX1_roomOf, Cond.instanceMethod yX1_roomOf, Cond.selects RX1 yX1_roomOf yX1_roomOf, Cond.initialized RX1]
def wsL_envies_r2 : List Cond := [Cond.code yX1_roomOf cX1_roomOf 2 (some .int), Cond.fieldLink RX1 18 "RentHarmony$Giving" "rooms" "[I", Cond.methodLink RX2 77 yX0_of, Cond.instanceMethod yX0_of, Cond.selects RX0 yX0_of yX0_of, Cond.code yX0_of cX0_of 3 (some .int), Cond.fieldLink RX0 9 "RentHarmony$Bids" "coins" "[I", Cond.methodLink RX0 19 yX0_has, Cond.methodLink RX2 149 yX2_ownBidOf, Cond.instanceMethod yX2_ownBidOf, Cond.selects RX2 yX2_ownBidOf yX2_ownBidOf, Cond.code yX2_ownBidOf cX2_ownBidOf 2 (some .int)]
def wsL_envies : List Cond := .codeWith yL_envies cL_envies 5 (some .int) [(0, 17, 20, 19)] :: ((wsL_envies_r1 ++ wsL_envies_r2) ++ wsX20 ++ wsX00 ++ wsX10 ++ (vx_atS RX2 71 "java/lang/IndexOutOfBoundsException" ["java/lang/RuntimeException", "java/lang/Exception"]).filter goodWord)
def wsL_gap_r1 : List Cond := [Cond.classLink RL 19 "java/lang/IndexOutOfBoundsException", Cond.methodLink RL 44 yX2_gap, Cond.instanceMethod yX2_gap, Cond.selects RX2 yX2_gap yX2_gap, Cond.initialized RX2, Cond.code yX2_gap cX2_gap 3 (some .int), Cond.classLink RX2 67 "java/lang/IndexOutOfBoundsException", Cond.initialized "java/lang/IndexOutOfBoundsException", Cond.fieldLink RX2 10 "RentHarmony" "bids" "LRentHarmony$Bids;", Cond.fieldLink RX2 19 "RentHarmony" "giving" "LRentHarmony$Giving;", Cond.methodLink RX2 63 yX0_has, Cond.instanceMethod yX0_has, Cond.selects RX0 yX0_has yX0_has, Cond.initialized RX0, Cond.code yX0_has cX0_has 2 (some .boolean), Cond.fieldLink RX0 15 "RentHarmony$Bids" "size" "I", Cond.methodLink RX2 114 yX2_rebateOf, Cond.instanceMethod yX2_rebateOf, Cond.selects RX2 yX2_rebateOf yX2_rebateOf, Cond.code yX2_rebateOf cX2_rebateOf 2 (some .int), Cond.fieldLink RX2 40 "RentHarmony" "share" "I", Cond.methodLink RX2 152 yX2_firstRebateOf, Cond.instanceMethod yX2_firstRebateOf, Cond.selects RX2 yX2_firstRebateOf yX2_firstRebateOf]
def wsL_gap_r2 : List Cond := [Cond.code yX2_firstRebateOf cX2_firstRebateOf 2 (some .int), Cond.fieldLink RX2 29 "RentHarmony" "firstRebates" "[I", Cond.methodLink RX2 92 yX1_roomOf, Cond.instanceMethod yX1_roomOf, Cond.selects RX1 yX1_roomOf yX1_roomOf, Cond.initialized RX1, Cond.code yX1_roomOf cX1_roomOf 2 (some .int), Cond.fieldLink RX1 18 "RentHarmony$Giving" "rooms" "[I", Cond.methodLink RX2 77 yX0_of, Cond.instanceMethod yX0_of, Cond.selects RX0 yX0_of yX0_of, Cond.code yX0_of cX0_of 3 (some .int), Cond.fieldLink RX0 9 "RentHarmony$Bids" "coins" "[I", Cond.methodLink RX0 19 yX0_has, Cond.methodLink RX2 117 yX2_payOf, Cond.instanceMethod yX2_payOf, Cond.selects RX2 yX2_payOf yX2_payOf, Cond.code yX2_payOf cX2_payOf 2 (some .int), Cond.methodLink RX2 149 yX2_ownBidOf, Cond.instanceMethod yX2_ownBidOf, Cond.selects RX2 yX2_ownBidOf yX2_ownBidOf, Cond.code yX2_ownBidOf cX2_ownBidOf 2 (some .int)]
def wsL_gap : List Cond := .codeWith yL_gap cL_gap 5 (some .int) [(0, 10, 13, 19)] :: ((wsL_gap_r1 ++ wsL_gap_r2) ++ wsX20 ++ wsX00 ++ wsX10 ++ (vx_atS RX2 71 "java/lang/IndexOutOfBoundsException" ["java/lang/RuntimeException", "java/lang/Exception"]).filter goodWord)
def wsL_would_r1 : List Cond := [Cond.classLink RL 19 "java/lang/IndexOutOfBoundsException", Cond.classLink RL 21 "java/lang/IllegalArgumentException", Cond.methodLink RL 47 yX2_would, Cond.instanceMethod yX2_would, Cond.selects RX2 yX2_would yX2_would, Cond.initialized RX2, Cond.code yX2_would cX2_would 4 (some .int), Cond.classLink RX2 67 "java/lang/IndexOutOfBoundsException", Cond.initialized "java/lang/IndexOutOfBoundsException", Cond.classLink RX2 72 "java/lang/IllegalArgumentException", Cond.initialized "java/lang/IllegalArgumentException", Cond.fieldLink RX2 10 "RentHarmony" "bids" "LRentHarmony$Bids;", Cond.fieldLink RX2 23 "RentHarmony" "triedBids" "LRentHarmony$Bids;", Cond.methodLink RX2 63 yX0_has, Cond.instanceMethod yX0_has, Cond.selects RX0 yX0_has yX0_has, Cond.initialized RX0, Cond.code yX0_has cX0_has 2 (some .boolean), Cond.fieldLink RX0 15 "RentHarmony$Bids" "size" "I", Cond.methodLink RX2 128 yX0_copy, Cond.instanceMethod yX0_copy, Cond.selects RX0 yX0_copy yX0_copy, Cond.code yX0_copy cX0_copy 2 none, Cond.fieldLink RX0 9 "RentHarmony$Bids" "coins" "[I"]
def wsL_would_r2 : List Cond := [Cond.methodLink RX0 23 arraycopyName, Cond.native arraycopyName, Cond.static arraycopyName, Cond.initialized "java/lang/System", Cond.methodLink RX2 132 yX2_roomTried, Cond.instanceMethod yX2_roomTried, Cond.selects RX2 yX2_roomTried yX2_roomTried, Cond.code yX2_roomTried cX2_roomTried 4 (some .int), Cond.fieldLink RX2 26 "RentHarmony" "triedGiving" "LRentHarmony$Giving;", Cond.methodLink RX2 81 yX0_set, Cond.instanceMethod yX0_set, Cond.selects RX0 yX0_set yX0_set, Cond.code yX0_set cX0_set 4 none, Cond.methodLink RX0 19 yX0_has, Cond.methodLink RX2 136 yX1_choose, Cond.instanceMethod yX1_choose, Cond.selects RX1 yX1_choose yX1_choose, Cond.initialized RX1, Cond.code yX1_choose cX1_choose 5 none, Cond.fieldLink RX1 9 "RentHarmony$Giving" "bestOfRest" "[I", Cond.fieldLink RX1 15 "RentHarmony$Giving" "waysOfRest" "[I", Cond.fieldLink RX1 18 "RentHarmony$Giving" "rooms" "[I", Cond.methodLink RX1 21 yX0_size, Cond.instanceMethod yX0_size]
def wsL_would_r3 : List Cond := [Cond.selects RX0 yX0_size yX0_size, Cond.code yX0_size cX0_size 1 (some .int), Cond.methodLink RX1 27 yX1_weigh, Cond.instanceMethod yX1_weigh, Cond.selects RX1 yX1_weigh yX1_weigh, Cond.code yX1_weigh cX1_weigh 9 none, Cond.methodLink RX1 35 yJ6_bitCount_0f7a4, Cond.static yJ6_bitCount_0f7a4, Cond.initialized RJ6, Cond.code yJ6_bitCount_0f7a4 cJ6_bitCount_0f7a4 1 (some .int), Cond.constant RJ6 265 (1431655765), Cond.constant RJ6 266 (858993459), Cond.constant RJ6 267 (252645135), Cond.methodLink RX1 41 yX0_of, Cond.instanceMethod yX0_of, Cond.selects RX0 yX0_of yX0_of, Cond.code yX0_of cX0_of 3 (some .int), Cond.methodLink RX1 31 yX1_firstBestRoom, Cond.instanceMethod yX1_firstBestRoom, Cond.selects RX1 yX1_firstBestRoom yX1_firstBestRoom, Cond.code yX1_firstBestRoom cX1_firstBestRoom 5 (some .int), Cond.methodLink RX2 92 yX1_roomOf, Cond.instanceMethod yX1_roomOf, Cond.selects RX1 yX1_roomOf yX1_roomOf]
def wsL_would_r4 : List Cond := [Cond.code yX1_roomOf cX1_roomOf 2 (some .int)]
def wsL_would : List Cond := .codeWith yL_would cL_would 6 (some .int) [(0, 12, 15, 19), (0, 12, 19, 21)] :: ((wsL_would_r1 ++ (wsL_would_r2 ++ (wsL_would_r3 ++ wsL_would_r4))) ++ wsX20 ++ wsX00 ++ wsX10 ++ (vx_atS RX2 71 "java/lang/IndexOutOfBoundsException" ["java/lang/RuntimeException", "java/lang/Exception"]).filter goodWord ++ (vx_atS RX2 76 "java/lang/IllegalArgumentException" ["java/lang/RuntimeException", "java/lang/Exception"]).filter goodWord)
def wsL_needs_r1 : List Cond := [Cond.classLink RL 19 "java/lang/IndexOutOfBoundsException", Cond.methodLink RL 50 yX2_needs, Cond.instanceMethod yX2_needs, Cond.selects RX2 yX2_needs yX2_needs, Cond.initialized RX2, Cond.code yX2_needs cX2_needs 6 (some .int), Cond.classLink RX2 67 "java/lang/IndexOutOfBoundsException", Cond.initialized "java/lang/IndexOutOfBoundsException", Cond.fieldLink RX2 10 "RentHarmony" "bids" "LRentHarmony$Bids;", Cond.fieldLink RX2 23 "RentHarmony" "triedBids" "LRentHarmony$Bids;", Cond.methodLink RX2 63 yX0_has, Cond.instanceMethod yX0_has, Cond.selects RX0 yX0_has yX0_has, Cond.initialized RX0, Cond.code yX0_has cX0_has 2 (some .boolean), Cond.fieldLink RX0 15 "RentHarmony$Bids" "size" "I", Cond.methodLink RX2 128 yX0_copy, Cond.instanceMethod yX0_copy, Cond.selects RX0 yX0_copy yX0_copy, Cond.code yX0_copy cX0_copy 2 none, Cond.fieldLink RX0 9 "RentHarmony$Bids" "coins" "[I", Cond.methodLink RX0 23 arraycopyName, Cond.native arraycopyName, Cond.static arraycopyName]
def wsL_needs_r2 : List Cond := [Cond.initialized "java/lang/System", Cond.methodLink RX2 132 yX2_roomTried, Cond.instanceMethod yX2_roomTried, Cond.selects RX2 yX2_roomTried yX2_roomTried, Cond.code yX2_roomTried cX2_roomTried 4 (some .int), Cond.fieldLink RX2 26 "RentHarmony" "triedGiving" "LRentHarmony$Giving;", Cond.methodLink RX2 81 yX0_set, Cond.instanceMethod yX0_set, Cond.selects RX0 yX0_set yX0_set, Cond.code yX0_set cX0_set 4 none, Cond.methodLink RX0 19 yX0_has, Cond.methodLink RX2 136 yX1_choose, Cond.instanceMethod yX1_choose, Cond.selects RX1 yX1_choose yX1_choose, Cond.initialized RX1, Cond.code yX1_choose cX1_choose 5 none, Cond.fieldLink RX1 9 "RentHarmony$Giving" "bestOfRest" "[I", Cond.fieldLink RX1 15 "RentHarmony$Giving" "waysOfRest" "[I", Cond.fieldLink RX1 18 "RentHarmony$Giving" "rooms" "[I", Cond.methodLink RX1 21 yX0_size, Cond.instanceMethod yX0_size, Cond.selects RX0 yX0_size yX0_size, Cond.code yX0_size cX0_size 1 (some .int), Cond.methodLink RX1 27 yX1_weigh]
def wsL_needs_r3 : List Cond := [Cond.instanceMethod yX1_weigh, Cond.selects RX1 yX1_weigh yX1_weigh, Cond.code yX1_weigh cX1_weigh 9 none, Cond.methodLink RX1 35 yJ6_bitCount_0f7a4, Cond.static yJ6_bitCount_0f7a4, Cond.initialized RJ6, Cond.code yJ6_bitCount_0f7a4 cJ6_bitCount_0f7a4 1 (some .int), Cond.constant RJ6 265 (1431655765), Cond.constant RJ6 266 (858993459), Cond.constant RJ6 267 (252645135), Cond.methodLink RX1 41 yX0_of, Cond.instanceMethod yX0_of, Cond.selects RX0 yX0_of yX0_of, Cond.code yX0_of cX0_of 3 (some .int), Cond.methodLink RX1 31 yX1_firstBestRoom, Cond.instanceMethod yX1_firstBestRoom, Cond.selects RX1 yX1_firstBestRoom yX1_firstBestRoom, Cond.code yX1_firstBestRoom cX1_firstBestRoom 5 (some .int), Cond.methodLink RX2 92 yX1_roomOf, Cond.instanceMethod yX1_roomOf, Cond.selects RX1 yX1_roomOf yX1_roomOf, Cond.code yX1_roomOf cX1_roomOf 2 (some .int)]
def wsL_needs : List Cond := .codeWith yL_needs cL_needs 5 (some .int) [(0, 10, 13, 19)] :: ((wsL_needs_r1 ++ (wsL_needs_r2 ++ wsL_needs_r3)) ++ wsX20 ++ wsX00 ++ wsX10 ++ (vx_atS RX2 71 "java/lang/IndexOutOfBoundsException" ["java/lang/RuntimeException", "java/lang/Exception"]).filter goodWord)
def wsL_without_r1 : List Cond := [Cond.classLink RL 19 "java/lang/IndexOutOfBoundsException", Cond.methodLink RL 53 yX2_without, Cond.instanceMethod yX2_without, Cond.selects RX2 yX2_without yX2_without, Cond.initialized RX2, Cond.code yX2_without cX2_without 3 (some .int), Cond.classLink RX2 67 "java/lang/IndexOutOfBoundsException", Cond.initialized "java/lang/IndexOutOfBoundsException", Cond.fieldLink RX2 10 "RentHarmony" "bids" "LRentHarmony$Bids;", Cond.fieldLink RX2 23 "RentHarmony" "triedBids" "LRentHarmony$Bids;", Cond.fieldLink RX2 26 "RentHarmony" "triedGiving" "LRentHarmony$Giving;", Cond.methodLink RX2 63 yX0_has, Cond.instanceMethod yX0_has, Cond.selects RX0 yX0_has yX0_has, Cond.initialized RX0, Cond.code yX0_has cX0_has 2 (some .boolean), Cond.fieldLink RX0 15 "RentHarmony$Bids" "size" "I", Cond.methodLink RX2 128 yX0_copy, Cond.instanceMethod yX0_copy, Cond.selects RX0 yX0_copy yX0_copy, Cond.code yX0_copy cX0_copy 2 none, Cond.fieldLink RX0 9 "RentHarmony$Bids" "coins" "[I", Cond.methodLink RX0 23 arraycopyName, Cond.native arraycopyName]
def wsL_without_r2 : List Cond := [Cond.static arraycopyName, Cond.initialized "java/lang/System", Cond.methodLink RX2 46 yX0_size, Cond.instanceMethod yX0_size, Cond.selects RX0 yX0_size yX0_size, Cond.code yX0_size cX0_size 1 (some .int), Cond.methodLink RX2 81 yX0_set, Cond.instanceMethod yX0_set, Cond.selects RX0 yX0_set yX0_set, Cond.code yX0_set cX0_set 4 none, Cond.methodLink RX0 19 yX0_has, Cond.methodLink RX2 136 yX1_choose, Cond.instanceMethod yX1_choose, Cond.selects RX1 yX1_choose yX1_choose, Cond.initialized RX1, Cond.code yX1_choose cX1_choose 5 none, Cond.fieldLink RX1 9 "RentHarmony$Giving" "bestOfRest" "[I", Cond.fieldLink RX1 15 "RentHarmony$Giving" "waysOfRest" "[I", Cond.fieldLink RX1 18 "RentHarmony$Giving" "rooms" "[I", Cond.methodLink RX1 21 yX0_size, Cond.methodLink RX1 27 yX1_weigh, Cond.instanceMethod yX1_weigh, Cond.selects RX1 yX1_weigh yX1_weigh, Cond.code yX1_weigh cX1_weigh 9 none]
def wsL_without_r3 : List Cond := [Cond.methodLink RX1 35 yJ6_bitCount_0f7a4, Cond.static yJ6_bitCount_0f7a4, Cond.initialized RJ6, Cond.code yJ6_bitCount_0f7a4 cJ6_bitCount_0f7a4 1 (some .int), Cond.constant RJ6 265 (1431655765), Cond.constant RJ6 266 (858993459), Cond.constant RJ6 267 (252645135), Cond.methodLink RX1 41 yX0_of, Cond.instanceMethod yX0_of, Cond.selects RX0 yX0_of yX0_of, Cond.code yX0_of cX0_of 3 (some .int), Cond.methodLink RX1 31 yX1_firstBestRoom, Cond.instanceMethod yX1_firstBestRoom, Cond.selects RX1 yX1_firstBestRoom yX1_firstBestRoom, Cond.code yX1_firstBestRoom cX1_firstBestRoom 5 (some .int), Cond.methodLink RX2 139 yX1_worth, Cond.instanceMethod yX1_worth, Cond.selects RX1 yX1_worth yX1_worth, Cond.code yX1_worth cX1_worth 1 (some .int)]
def wsL_without : List Cond := .codeWith yL_without cL_without 4 (some .int) [(0, 9, 12, 19)] :: ((wsL_without_r1 ++ (wsL_without_r2 ++ wsL_without_r3)) ++ wsX20 ++ wsX00 ++ wsX10 ++ (vx_atS RX2 71 "java/lang/IndexOutOfBoundsException" ["java/lang/RuntimeException", "java/lang/Exception"]).filter goodWord)
def wsL_law0_r1 : List Cond := [Cond.classLink RL 8 RX2, Cond.instantiable RX2 9, Cond.initialized RX2, Cond.classLink RL 57 RX3, Cond.instantiable RX3 15, Cond.initialized RX3, Cond.arrayClass .long, Cond.methodLink RL 56 yX2_init, Cond.instanceMethod yX2_init, Cond.code yX2_init cX2_init 1 none, Cond.methodLink RX2 1 objectInit, Cond.instanceMethod objectInit, Cond.code objectInit ⟨#[0xb1]⟩ 1 none, Cond.classLink RX2 7 RX0, Cond.instantiable RX0 2, Cond.initialized RX0, Cond.fieldLink RX2 10 "RentHarmony" "bids" "LRentHarmony$Bids;", Cond.classLink RX2 16 RX1, Cond.instantiable RX1 3, Cond.initialized RX1, Cond.fieldLink RX2 19 "RentHarmony" "giving" "LRentHarmony$Giving;", Cond.fieldLink RX2 23 "RentHarmony" "triedBids" "LRentHarmony$Bids;", Cond.fieldLink RX2 26 "RentHarmony" "triedGiving" "LRentHarmony$Giving;", Cond.arrayClass .int]
def wsL_law0_r2 : List Cond := [Cond.fieldLink RX2 29 "RentHarmony" "firstRebates" "[I", Cond.fieldLink RX2 33 "RentHarmony" "chains" "[I", Cond.fieldLink RX2 36 "RentHarmony" "rentCoins" "I", Cond.fieldLink RX2 40 "RentHarmony" "share" "I", Cond.fieldLink RX2 43 "RentHarmony" "pot" "I", Cond.instanceMethod yX0_init, Cond.code yX0_init cX0_init 1 none, Cond.methodLink RX0 3 objectInit, Cond.fieldLink RX0 9 "RentHarmony$Bids" "coins" "[I", Cond.fieldLink RX0 15 "RentHarmony$Bids" "size" "I", Cond.methodLink RX2 18 yX1_init, Cond.instanceMethod yX1_init, Cond.code yX1_init cX1_init 1 none, Cond.methodLink RX1 3 objectInit, Cond.fieldLink RX1 9 "RentHarmony$Giving" "bestOfRest" "[I", Cond.fieldLink RX1 15 "RentHarmony$Giving" "waysOfRest" "[I", Cond.fieldLink RX1 18 "RentHarmony$Giving" "rooms" "[I", Cond.methodLink RL 59 yX3_init, Cond.instanceMethod yX3_init, Cond.code yX3_init cX3_init 1 none, Cond.methodLink RX3 1 objectInit, Cond.fieldLink RX3 9 "RentHarmonyModel" "bids" "[I", Cond.fieldLink RX3 13 "RentHarmonyModel" "rooms" "[I", Cond.fieldLink RX3 16 "RentHarmonyModel" "early" "[I"]
def wsL_law0_r3 : List Cond := [Cond.fieldLink RX3 19 "RentHarmonyModel" "rebates" "[I", Cond.fieldLink RX3 22 "RentHarmonyModel" "tried" "[I", Cond.fieldLink RX3 25 "RentHarmonyModel" "free" "I", Cond.fieldLink RX3 29 "RentHarmonyModel" "who" "I", Cond.fieldLink RX3 32 "RentHarmonyModel" "which" "I", Cond.methodLink RL 60 yL_come, Cond.static yL_come, Cond.initialized RL, Cond.codeWith yL_come cL_come 3 (some .int) [(0, 8, 11, 13)], Cond.classLink RL 13 "java/lang/IllegalStateException", Cond.methodLink RL 7 yX2_come, Cond.instanceMethod yX2_come, Cond.selects RX2 yX2_come yX2_come, Cond.code yX2_come cX2_come 1 (some .int), Cond.classLink RX2 50 "java/lang/IllegalStateException", Cond.initialized "java/lang/IllegalStateException", Cond.methodLink RX2 46 yX0_size, Cond.instanceMethod yX0_size, Cond.selects RX0 yX0_size yX0_size, Cond.code yX0_size cX0_size 1 (some .int), Cond.methodLink RX2 57 yX0_grow, Cond.instanceMethod yX0_grow, Cond.selects RX0 yX0_grow yX0_grow, Cond.code yX0_grow cX0_grow 2 none]
def wsL_law0_r4 : List Cond := [Cond.methodLink RX0 29 yX0_set, Cond.instanceMethod yX0_set, Cond.selects RX0 yX0_set yX0_set, Cond.code yX0_set cX0_set 4 none, Cond.methodLink RX0 19 yX0_has, Cond.instanceMethod yX0_has, Cond.selects RX0 yX0_has yX0_has, Cond.code yX0_has cX0_has 2 (some .boolean), Cond.methodLink RX2 60 yX2_settleAll, Cond.instanceMethod yX2_settleAll, Cond.selects RX2 yX2_settleAll yX2_settleAll, Cond.code yX2_settleAll cX2_settleAll 1 none, Cond.methodLink RX2 136 yX1_choose, Cond.instanceMethod yX1_choose, Cond.selects RX1 yX1_choose yX1_choose, Cond.code yX1_choose cX1_choose 5 none, Cond.methodLink RX1 21 yX0_size, Cond.methodLink RX1 27 yX1_weigh, Cond.instanceMethod yX1_weigh, Cond.selects RX1 yX1_weigh yX1_weigh, Cond.code yX1_weigh cX1_weigh 9 none, Cond.methodLink RX1 35 yJ6_bitCount_0f7a4, Cond.static yJ6_bitCount_0f7a4, Cond.initialized RJ6]
def wsL_law0_r5 : List Cond := [Cond.code yJ6_bitCount_0f7a4 cJ6_bitCount_0f7a4 1 (some .int), Cond.constant RJ6 265 (1431655765), Cond.constant RJ6 266 (858993459), Cond.constant RJ6 267 (252645135), Cond.methodLink RX1 41 yX0_of, Cond.instanceMethod yX0_of, Cond.selects RX0 yX0_of yX0_of, Cond.code yX0_of cX0_of 3 (some .int), Cond.methodLink RX1 31 yX1_firstBestRoom, Cond.instanceMethod yX1_firstBestRoom, Cond.selects RX1 yX1_firstBestRoom yX1_firstBestRoom, Cond.code yX1_firstBestRoom cX1_firstBestRoom 5 (some .int), Cond.methodLink RX2 164 yX2_settleFirstRebates, Cond.instanceMethod yX2_settleFirstRebates, Cond.selects RX2 yX2_settleFirstRebates yX2_settleFirstRebates, Cond.code yX2_settleFirstRebates cX2_settleFirstRebates 4 none, Cond.methodLink RX2 167 yX2_bestOfAllRooms, Cond.instanceMethod yX2_bestOfAllRooms, Cond.selects RX2 yX2_bestOfAllRooms yX2_bestOfAllRooms, Cond.code yX2_bestOfAllRooms cX2_bestOfAllRooms 5 (some .int), Cond.methodLink RX2 123 Lib.Math.max.name, Cond.static Lib.Math.max.name, Cond.initialized "java/lang/Math", Cond.code Lib.Math.max.name Lib.Math.max.code 2 (some .int)]
def wsL_law0_r6 : List Cond := [Cond.methodLink RX2 152 yX2_firstRebateOf, Cond.instanceMethod yX2_firstRebateOf, Cond.selects RX2 yX2_firstRebateOf yX2_firstRebateOf, Cond.code yX2_firstRebateOf cX2_firstRebateOf 2 (some .int), Cond.methodLink RX2 63 yX0_has, Cond.methodLink RX2 149 yX2_ownBidOf, Cond.instanceMethod yX2_ownBidOf, Cond.selects RX2 yX2_ownBidOf yX2_ownBidOf, Cond.code yX2_ownBidOf cX2_ownBidOf 2 (some .int), Cond.methodLink RX2 92 yX1_roomOf, Cond.instanceMethod yX1_roomOf, Cond.selects RX1 yX1_roomOf yX1_roomOf, Cond.code yX1_roomOf cX1_roomOf 2 (some .int), Cond.methodLink RX2 77 yX0_of, Cond.methodLink RX2 87 yX2_settleLeftOver, Cond.instanceMethod yX2_settleLeftOver, Cond.selects RX2 yX2_settleLeftOver yX2_settleLeftOver, Cond.code yX2_settleLeftOver cX2_settleLeftOver 3 none, Cond.methodLink RX2 139 yX1_worth, Cond.instanceMethod yX1_worth, Cond.selects RX1 yX1_worth yX1_worth, Cond.code yX1_worth cX1_worth 1 (some .int), Cond.methodLink RX2 158 yX2_allFirstRebates, Cond.instanceMethod yX2_allFirstRebates]
def wsL_law0_r7 : List Cond := [Cond.selects RX2 yX2_allFirstRebates yX2_allFirstRebates, Cond.code yX2_allFirstRebates cX2_allFirstRebates 3 (some .int), Cond.methodLink RL 65 yX3_come, Cond.instanceMethod yX3_come, Cond.selects RX3 yX3_come yX3_come, Cond.code yX3_come cX3_come 2 (some .int), Cond.fieldLink RX3 35 "RentHarmonyModel" "thrown" "I", Cond.fieldLink RX3 38 "RentHarmonyModel" "lodgers" "I", Cond.methodLink RX3 45 yX3_fail, Cond.instanceMethod yX3_fail, Cond.selects RX3 yX3_fail yX3_fail, Cond.code yX3_fail cX3_fail 2 (some .int), Cond.methodLink RL 66 yX3_thrown, Cond.instanceMethod yX3_thrown, Cond.selects RX3 yX3_thrown yX3_thrown, Cond.code yX3_thrown cX3_thrown 1 (some .int), Cond.methodLink RL 69 yL_bid, Cond.static yL_bid, Cond.codeWith yL_bid cL_bid 6 (some .int) [(0, 12, 15, 19), (0, 12, 19, 21)], Cond.classLink RL 19 "java/lang/IndexOutOfBoundsException", Cond.classLink RL 21 "java/lang/IllegalArgumentException", Cond.methodLink RL 15 yX2_bid, Cond.instanceMethod yX2_bid, Cond.selects RX2 yX2_bid yX2_bid]
def wsL_law0_r8 : List Cond := [Cond.code yX2_bid cX2_bid 5 (some .int), Cond.classLink RX2 67 "java/lang/IndexOutOfBoundsException", Cond.initialized "java/lang/IndexOutOfBoundsException", Cond.classLink RX2 72 "java/lang/IllegalArgumentException", Cond.initialized "java/lang/IllegalArgumentException", Cond.methodLink RX2 81 yX0_set, Cond.methodLink RL 72 yX3_bid, Cond.instanceMethod yX3_bid, Cond.selects RX3 yX3_bid yX3_bid, Cond.code yX3_bid cX3_bid 5 (some .int), Cond.methodLink RX3 49 yX3_isOne, Cond.instanceMethod yX3_isOne, Cond.selects RX3 yX3_isOne yX3_isOne, Cond.code yX3_isOne cX3_isOne 2 (some .boolean), Cond.methodLink RX3 41 yX3_isIn, Cond.static yX3_isIn, Cond.code yX3_isIn cX3_isIn 3 (some .boolean), Cond.methodLink RX3 53 yX3_bi, Cond.instanceMethod yX3_bi, Cond.selects RX3 yX3_bi yX3_bi, Cond.code yX3_bi cX3_bi 3 (some .int), Cond.methodLink RL 73 yL_rent, Cond.static yL_rent, Cond.codeWith yL_rent cL_rent 4 (some .int) [(0, 9, 12, 21)]]
def wsL_law0_r9 : List Cond := [Cond.methodLink RL 23 yX2_rent, Cond.instanceMethod yX2_rent, Cond.selects RX2 yX2_rent yX2_rent, Cond.code yX2_rent cX2_rent 3 (some .int), Cond.methodLink RL 76 yX3_rent, Cond.instanceMethod yX3_rent, Cond.selects RX3 yX3_rent yX3_rent, Cond.code yX3_rent cX3_rent 3 (some .int), Cond.fieldLink RX3 57 "RentHarmonyModel" "rent" "I", Cond.methodLink RL 77 yL_leave, Cond.static yL_leave, Cond.codeWith yL_leave cL_leave 4 (some .int) [(0, 9, 12, 19)], Cond.methodLink RL 27 yX2_leave, Cond.instanceMethod yX2_leave, Cond.selects RX2 yX2_leave yX2_leave, Cond.code yX2_leave cX2_leave 3 (some .int), Cond.methodLink RX2 96 yX0_shrink, Cond.instanceMethod yX0_shrink, Cond.selects RX0 yX0_shrink yX0_shrink, Cond.code yX0_shrink cX0_shrink 5 none, Cond.methodLink RX0 33 yX0_of, Cond.methodLink RL 79 yX3_leave, Cond.instanceMethod yX3_leave, Cond.selects RX3 yX3_leave yX3_leave]
def wsL_law0_r10 : List Cond := [Cond.code yX3_leave cX3_leave 5 (some .int), Cond.methodLink RX3 98 yX3_settle, Cond.instanceMethod yX3_settle, Cond.selects RX3 yX3_settle yX3_settle, Cond.code yX3_settle cX3_settle 4 none, Cond.fieldLink RX3 64 "RentHarmonyModel" "worth" "I", Cond.fieldLink RX3 95 "RentHarmonyModel" "pot" "I", Cond.methodLink RX3 87 yX3_give, Cond.instanceMethod yX3_give, Cond.selects RX3 yX3_give yX3_give, Cond.code yX3_give cX3_give 1 (some .int), Cond.fieldLink RX3 67 "RentHarmonyModel" "ways" "I", Cond.methodLink RX3 80 yX3_tryFrom, Cond.instanceMethod yX3_tryFrom, Cond.selects RX3 yX3_tryFrom yX3_tryFrom, Cond.code yX3_tryFrom cX3_tryFrom 4 none, Cond.methodLink RX3 70 arraycopyName, Cond.native arraycopyName, Cond.static arraycopyName, Cond.initialized "java/lang/System", Cond.methodLink RX3 76 yX3_isTaken, Cond.instanceMethod yX3_isTaken, Cond.selects RX3 yX3_isTaken yX3_isTaken, Cond.code yX3_isTaken cX3_isTaken 4 (some .boolean)]
def wsL_law0_r11 : List Cond := [Cond.fieldLink RX3 60 "RentHarmonyModel" "must" "Z", Cond.methodLink RX3 91 yX3_isRaised, Cond.instanceMethod yX3_isRaised, Cond.selects RX3 yX3_isRaised yX3_isRaised, Cond.code yX3_isRaised cX3_isRaised 4 (some .boolean), Cond.methodLink RX3 84 yX3_of, Cond.instanceMethod yX3_of, Cond.selects RX3 yX3_of yX3_of, Cond.code yX3_of cX3_of 3 (some .int), Cond.methodLink RL 80 yL_told, Cond.static yL_told, Cond.codeWith yL_told cL_told 5 (some .int) [(0, 10, 13, 19)], Cond.methodLink RL 30 yX2_told, Cond.instanceMethod yX2_told, Cond.selects RX2 yX2_told yX2_told, Cond.code yX2_told cX2_told 3 (some .int), Cond.methodLink RX2 102 yX2_fact, Cond.instanceMethod yX2_fact, Cond.selects RX2 yX2_fact yX2_fact, Cond.code yX2_fact cX2_fact 3 (some .int), Cond.methodLink RX2 114 yX2_rebateOf, Cond.instanceMethod yX2_rebateOf, Cond.selects RX2 yX2_rebateOf yX2_rebateOf, Cond.code yX2_rebateOf cX2_rebateOf 2 (some .int)]
def wsL_law0_r12 : List Cond := [Cond.methodLink RX2 117 yX2_payOf, Cond.instanceMethod yX2_payOf, Cond.selects RX2 yX2_payOf yX2_payOf, Cond.code yX2_payOf cX2_payOf 2 (some .int), Cond.methodLink RX2 155 yX2_enviedBy, Cond.instanceMethod yX2_enviedBy, Cond.selects RX2 yX2_enviedBy yX2_enviedBy, Cond.code yX2_enviedBy cX2_enviedBy 4 (some .int), Cond.methodLink RX2 110 yX2_wouldEnvy, Cond.instanceMethod yX2_wouldEnvy, Cond.selects RX2 yX2_wouldEnvy yX2_wouldEnvy, Cond.code yX2_wouldEnvy cX2_wouldEnvy 3 (some .boolean), Cond.methodLink RL 83 yX3_told, Cond.instanceMethod yX3_told, Cond.selects RX3 yX3_told yX3_told, Cond.code yX3_told cX3_told 3 (some .int), Cond.methodLink RX3 107 yX3_toldOf, Cond.instanceMethod yX3_toldOf, Cond.selects RX3 yX3_toldOf yX3_toldOf, Cond.code yX3_toldOf cX3_toldOf 5 (some .int), Cond.methodLink RX3 101 yX3_pays, Cond.instanceMethod yX3_pays, Cond.selects RX3 yX3_pays yX3_pays, Cond.code yX3_pays cX3_pays 2 (some .int)]
def wsL_law0_r13 : List Cond := [Cond.methodLink RX3 104 yX3_isEnvy, Cond.instanceMethod yX3_isEnvy, Cond.selects RX3 yX3_isEnvy yX3_isEnvy, Cond.code yX3_isEnvy cX3_isEnvy 3 (some .boolean), Cond.methodLink RL 84 yL_offer, Cond.static yL_offer, Cond.codeWith yL_offer cL_offer 5 (some .int) [(0, 10, 13, 19)], Cond.methodLink RL 34 yX2_offer, Cond.instanceMethod yX2_offer, Cond.selects RX2 yX2_offer yX2_offer, Cond.code yX2_offer cX2_offer 3 (some .int), Cond.methodLink RL 86 yX3_offer, Cond.instanceMethod yX3_offer, Cond.selects RX3 yX3_offer yX3_offer, Cond.code yX3_offer cX3_offer 3 (some .int), Cond.methodLink RL 87 yL_count, Cond.static yL_count, Cond.codeWith yL_count cL_count 4 (some .int) [(0, 9, 12, 19)], Cond.methodLink RL 37 yX2_count, Cond.instanceMethod yX2_count, Cond.selects RX2 yX2_count yX2_count, Cond.code yX2_count cX2_count 2 (some .int), Cond.methodLink RX2 107 yX2_total, Cond.instanceMethod yX2_total]
def wsL_law0_r14 : List Cond := [Cond.selects RX2 yX2_total yX2_total, Cond.code yX2_total cX2_total 2 (some .int), Cond.methodLink RX2 161 yX1_ways, Cond.instanceMethod yX1_ways, Cond.selects RX1 yX1_ways yX1_ways, Cond.code yX1_ways cX1_ways 1 (some .int), Cond.methodLink RX2 142 yX2_allPays, Cond.instanceMethod yX2_allPays, Cond.selects RX2 yX2_allPays yX2_allPays, Cond.code yX2_allPays cX2_allPays 3 (some .int), Cond.methodLink RL 89 yX3_count, Cond.instanceMethod yX3_count, Cond.selects RX3 yX3_count yX3_count, Cond.code yX3_count cX3_count 2 (some .int), Cond.methodLink RX3 110 yX3_counted, Cond.instanceMethod yX3_counted, Cond.selects RX3 yX3_counted yX3_counted, Cond.code yX3_counted cX3_counted 4 (some .int), Cond.methodLink RL 90 yL_envies, Cond.static yL_envies, Cond.codeWith yL_envies cL_envies 5 (some .int) [(0, 17, 20, 19)], Cond.methodLink RL 40 yX2_envies, Cond.instanceMethod yX2_envies, Cond.selects RX2 yX2_envies yX2_envies]
def wsL_law0_r15 : List Cond := [Cond.code yX2_envies cX2_envies 3 (some .boolean), Cond.methodLink RL 92 yX3_envies, Cond.instanceMethod yX3_envies, Cond.selects RX3 yX3_envies yX3_envies, Cond.code yX3_envies cX3_envies 3 (some .boolean), Cond.methodLink RL 93 yL_gap, Cond.static yL_gap, Cond.codeWith yL_gap cL_gap 5 (some .int) [(0, 10, 13, 19)], Cond.methodLink RL 44 yX2_gap, Cond.instanceMethod yX2_gap, Cond.selects RX2 yX2_gap yX2_gap, Cond.code yX2_gap cX2_gap 3 (some .int), Cond.methodLink RL 95 yX3_gap, Cond.instanceMethod yX3_gap, Cond.selects RX3 yX3_gap yX3_gap, Cond.code yX3_gap cX3_gap 3 (some .int), Cond.methodLink RL 96 yX2_chain, Cond.instanceMethod yX2_chain, Cond.selects RX2 yX2_chain yX2_chain, Cond.code yX2_chain cX2_chain 4 (some .int), Cond.methodLink RX2 120 yX2_longestChainFrom, Cond.instanceMethod yX2_longestChainFrom, Cond.selects RX2 yX2_longestChainFrom yX2_longestChainFrom, Cond.code yX2_longestChainFrom cX2_longestChainFrom 4 (some .int)]
def wsL_law0_r16 : List Cond := [Cond.methodLink RL 99 yX3_chain, Cond.instanceMethod yX3_chain, Cond.selects RX3 yX3_chain yX3_chain, Cond.code yX3_chain cX3_chain 3 (some .int), Cond.methodLink RX3 116 Lib.Math.max.name, Cond.methodLink RX3 113 yX3_chainFrom, Cond.instanceMethod yX3_chainFrom, Cond.selects RX3 yX3_chainFrom yX3_chainFrom, Cond.code yX3_chainFrom cX3_chainFrom 4 (some .int), Cond.methodLink RL 100 yL_would, Cond.static yL_would, Cond.codeWith yL_would cL_would 6 (some .int) [(0, 12, 15, 19), (0, 12, 19, 21)], Cond.methodLink RL 47 yX2_would, Cond.instanceMethod yX2_would, Cond.selects RX2 yX2_would yX2_would, Cond.code yX2_would cX2_would 4 (some .int), Cond.methodLink RX2 128 yX0_copy, Cond.instanceMethod yX0_copy, Cond.selects RX0 yX0_copy yX0_copy, Cond.code yX0_copy cX0_copy 2 none, Cond.methodLink RX0 23 arraycopyName, Cond.methodLink RX2 132 yX2_roomTried, Cond.instanceMethod yX2_roomTried, Cond.selects RX2 yX2_roomTried yX2_roomTried]
def wsL_law0_r17 : List Cond := [Cond.code yX2_roomTried cX2_roomTried 4 (some .int), Cond.methodLink RL 102 yX3_would, Cond.instanceMethod yX3_would, Cond.selects RX3 yX3_would yX3_would, Cond.code yX3_would cX3_would 4 (some .int), Cond.methodLink RX3 121 yX3_roomWith, Cond.instanceMethod yX3_roomWith, Cond.selects RX3 yX3_roomWith yX3_roomWith, Cond.code yX3_roomWith cX3_roomWith 5 (some .int), Cond.methodLink RL 103 yL_needs, Cond.static yL_needs, Cond.codeWith yL_needs cL_needs 5 (some .int) [(0, 10, 13, 19)], Cond.methodLink RL 50 yX2_needs, Cond.instanceMethod yX2_needs, Cond.selects RX2 yX2_needs yX2_needs, Cond.code yX2_needs cX2_needs 6 (some .int), Cond.methodLink RL 105 yX3_needs, Cond.instanceMethod yX3_needs, Cond.selects RX3 yX3_needs yX3_needs, Cond.code yX3_needs cX3_needs 7 (some .int), Cond.methodLink RX3 129 Lib.Math.min.name, Cond.static Lib.Math.min.name, Cond.code Lib.Math.min.name Lib.Math.min.code 2 (some .int), Cond.methodLink RX3 125 yX3_worthWith]
def wsL_law0_r18 : List Cond := [Cond.instanceMethod yX3_worthWith, Cond.selects RX3 yX3_worthWith yX3_worthWith, Cond.code yX3_worthWith cX3_worthWith 6 (some .int), Cond.methodLink RL 106 yL_without, Cond.static yL_without, Cond.codeWith yL_without cL_without 4 (some .int) [(0, 9, 12, 19)], Cond.methodLink RL 53 yX2_without, Cond.instanceMethod yX2_without, Cond.selects RX2 yX2_without yX2_without, Cond.code yX2_without cX2_without 3 (some .int), Cond.methodLink RL 108 yX3_without, Cond.instanceMethod yX3_without, Cond.selects RX3 yX3_without yX3_without, Cond.code yX3_without cX3_without 3 (some .int), Cond.methodLink RL 109 yX2_mean, Cond.instanceMethod yX2_mean, Cond.selects RX2 yX2_mean yX2_mean, Cond.code yX2_mean cX2_mean 2 (some .double), Cond.methodLink RL 113 yX3_mean, Cond.instanceMethod yX3_mean, Cond.selects RX3 yX3_mean yX3_mean, Cond.code yX3_mean cX3_mean 2 (some .double), Cond.methodLink RL 114 yX2_digest, Cond.instanceMethod yX2_digest]
def wsL_law0_r19 : List Cond := [Cond.selects RX2 yX2_digest yX2_digest, Cond.code yX2_digest cX2_digest 5 (some .long), Cond.constantLong RX2 145 (1301), Cond.constantLong RX2 147 (31), Cond.methodLink RL 118 yX3_digest, Cond.instanceMethod yX3_digest, Cond.selects RX3 yX3_digest yX3_digest, Cond.code yX3_digest cX3_digest 5 (some .long), Cond.constantLong RX3 132 (1301), Cond.constantLong RX3 134 (31)]
def wsL_law0 : List Cond := (wsL_law0_r1 ++ (wsL_law0_r2 ++ (wsL_law0_r3 ++ (wsL_law0_r4 ++ (wsL_law0_r5 ++ (wsL_law0_r6 ++ (wsL_law0_r7 ++ (wsL_law0_r8 ++ (wsL_law0_r9 ++ (wsL_law0_r10 ++ (wsL_law0_r11 ++ (wsL_law0_r12 ++ (wsL_law0_r13 ++ (wsL_law0_r14 ++ (wsL_law0_r15 ++ (wsL_law0_r16 ++ (wsL_law0_r17 ++ (wsL_law0_r18 ++ wsL_law0_r19)))))))))))))))))) ++ wsX20 ++ wsX30 ++ wsX00 ++ wsX10 ++ ([] : List Cond)
def wsL_law : List Cond := wsL_law0 ++ (vx_atS RX2 54 "java/lang/IllegalStateException" ["java/lang/RuntimeException", "java/lang/Exception"]).filter goodWord ++ (vx_atS RX2 71 "java/lang/IndexOutOfBoundsException" ["java/lang/RuntimeException", "java/lang/Exception"]).filter goodWord ++ (vx_atS RX2 76 "java/lang/IllegalArgumentException" ["java/lang/RuntimeException", "java/lang/Exception"]).filter goodWord
abbrev vwCl : List vw_C := [(RX0, TX0, 2), (RX1, TX1, 3), (RX2, TX2, 9), (RX3, TX3, 15)]
end
section
theorem z_memIn {big : List Cond} (ws : List Cond) (ps : List Nat) (hp : ws = ps.filterMap (fun i => big[i]?)) : ∀ w ∈ ws, w ∈ big := by
  intro w hw
  rw [hp] at hw
  obtain ⟨i, -, hi⟩ := List.mem_filterMap.mp hw
  exact List.mem_of_getElem? hi
set_option maxRecDepth 20000 in
theorem wsL_law0_r1_in : ∀ w ∈ wsL_law0_r1, w ∈ lw_tbl := z_memIn _ [49, 50, 36, 453, 454, 39, 643, 51, 52, 53, 54, 55, 56, 57, 58, 37, 87, 71, 72, 38, 88, 89, 90, 70] rfl
set_option maxRecDepth 20000 in
theorem wsL_law0_r2_in : ∀ w ∈ wsL_law0_r2, w ∈ lw_tbl := z_memIn _ [91, 92, 93, 94, 95, 60, 61, 62, 63, 64, 73, 74, 75, 76, 77, 78, 79, 455, 456, 457, 458, 462, 463, 464] rfl
set_option maxRecDepth 20000 in
theorem wsL_law0_r3_in : ∀ w ∈ wsL_law0_r3, w ∈ lw_tbl := z_memIn _ [465, 469, 470, 471, 472, 201, 202, 35, 203, 204, 205, 206, 207, 208, 209, 43, 119, 120, 121, 122, 277, 278, 279, 280] rfl
set_option maxRecDepth 20000 in
theorem wsL_law0_r4_in : ∀ w ∈ wsL_law0_r4, w ∈ lw_tbl := z_memIn _ [281, 282, 283, 284, 139, 140, 141, 142, 285, 287, 12, 288, 289, 290, 291, 292, 293, 294, 296, 13, 297, 298, 299, 44] rfl
set_option maxRecDepth 20000 in
theorem wsL_law0_r5_in : ∀ w ∈ wsL_law0_r5, w ∈ lw_tbl := z_memIn _ [300, 301, 302, 303, 304, 136, 137, 138, 305, 307, 14, 308, 309, 311, 15, 312, 313, 315, 16, 316, 147, 148, 45, 149] rfl
set_option maxRecDepth 20000 in
theorem wsL_law0_r6_in : ∀ w ∈ wsL_law0_r6, w ∈ lw_tbl := z_memIn _ [166, 168, 6, 169, 170, 143, 145, 2, 146, 131, 132, 133, 134, 135, 317, 319, 17, 320, 181, 182, 183, 184, 185, 187] rfl
set_option maxRecDepth 20000 in
theorem wsL_law0_r7_in : ∀ w ∈ wsL_law0_r7, w ∈ lw_tbl := z_memIn _ [8, 188, 509, 510, 511, 512, 459, 460, 513, 515, 19, 516, 505, 506, 507, 508, 321, 322, 323, 324, 325, 326, 327, 328] rfl
set_option maxRecDepth 20000 in
theorem wsL_law0_r8_in : ∀ w ∈ wsL_law0_r8, w ∈ lw_tbl := z_memIn _ [329, 330, 46, 346, 47, 362, 517, 518, 519, 520, 521, 523, 20, 524, 525, 526, 527, 528, 530, 21, 531, 363, 364, 365] rfl
set_option maxRecDepth 20000 in
theorem wsL_law0_r9_in : ∀ w ∈ wsL_law0_r9, w ∈ lw_tbl := z_memIn _ [366, 367, 368, 369, 532, 533, 534, 535, 461, 371, 372, 373, 374, 375, 376, 377, 379, 380, 381, 382, 383, 536, 537, 538] rfl
set_option maxRecDepth 20000 in
theorem wsL_law0_r10_in : ∀ w ∈ wsL_law0_r10, w ∈ lw_tbl := z_memIn _ [539, 540, 542, 22, 543, 466, 468, 544, 546, 23, 547, 467, 548, 550, 24, 551, 552, 434, 433, 48, 553, 555, 25, 556] rfl
set_option maxRecDepth 20000 in
theorem wsL_law0_r11_in : ∀ w ∈ wsL_law0_r11, w ∈ lw_tbl := z_memIn _ [473, 557, 559, 26, 560, 561, 563, 27, 564, 384, 385, 386, 387, 388, 389, 390, 193, 195, 9, 196, 162, 164, 5, 165] rfl
set_option maxRecDepth 20000 in
theorem wsL_law0_r12_in : ∀ w ∈ wsL_law0_r12, w ∈ lw_tbl := z_memIn _ [158, 160, 4, 161, 197, 199, 10, 200, 127, 129, 1, 130, 565, 566, 567, 568, 569, 571, 28, 572, 573, 575, 29, 576] rfl
set_option maxRecDepth 20000 in
theorem wsL_law0_r13_in : ∀ w ∈ wsL_law0_r13, w ∈ lw_tbl := z_memIn _ [577, 579, 30, 580, 392, 393, 394, 395, 396, 397, 398, 581, 582, 583, 584, 399, 400, 401, 402, 403, 404, 405, 177, 179] rfl
set_option maxRecDepth 20000 in
theorem wsL_law0_r14_in : ∀ w ∈ wsL_law0_r14, w ∈ lw_tbl := z_memIn _ [7, 180, 189, 190, 191, 192, 154, 156, 3, 157, 585, 586, 587, 588, 589, 591, 31, 592, 407, 408, 409, 410, 411, 412] rfl
set_option maxRecDepth 20000 in
theorem wsL_law0_r15_in : ∀ w ∈ wsL_law0_r15, w ∈ lw_tbl := z_memIn _ [413, 593, 594, 595, 596, 414, 415, 416, 417, 418, 419, 420, 597, 598, 599, 600, 115, 116, 117, 118, 123, 125, 0, 126] rfl
set_option maxRecDepth 20000 in
theorem wsL_law0_r16_in : ∀ w ∈ wsL_law0_r16, w ∈ lw_tbl := z_memIn _ [601, 602, 603, 604, 609, 605, 607, 32, 608, 421, 422, 423, 424, 425, 426, 427, 428, 429, 430, 431, 432, 435, 437, 18] rfl
set_option maxRecDepth 20000 in
theorem wsL_law0_r17_in : ∀ w ∈ wsL_law0_r17, w ∈ lw_tbl := z_memIn _ [438, 610, 611, 612, 613, 614, 616, 33, 617, 439, 440, 441, 442, 443, 444, 445, 618, 619, 620, 621, 626, 627, 628, 622] rfl
set_option maxRecDepth 20000 in
theorem wsL_law0_r18_in : ∀ w ∈ wsL_law0_r18, w ∈ lw_tbl := z_memIn _ [624, 34, 625, 446, 447, 448, 449, 450, 451, 452, 629, 630, 631, 632, 150, 151, 152, 153, 633, 634, 635, 636, 171, 172] rfl
set_option maxRecDepth 20000 in
theorem wsL_law0_r19_in : ∀ w ∈ wsL_law0_r19, w ∈ lw_tbl := z_memIn _ [173, 174, 175, 176, 637, 638, 639, 640, 641, 642] rfl
set_option maxRecDepth 20000 in
theorem wsX20_inl0 : ∀ w ∈ wsX20, w ∈ lw_tbl := z_memIn _ [96, 98, 100, 102, 104, 106, 108, 110, 112] rfl
set_option maxRecDepth 20000 in
theorem wsX30_inl0 : ∀ w ∈ wsX30, w ∈ lw_tbl := z_memIn _ [474, 476, 478, 480, 482, 484, 486, 488, 490, 492, 494, 496, 498, 500, 502] rfl
set_option maxRecDepth 20000 in
theorem wsX00_inl0 : ∀ w ∈ wsX00, w ∈ lw_tbl := z_memIn _ [65, 67] rfl
set_option maxRecDepth 20000 in
theorem wsX10_inl0 : ∀ w ∈ wsX10, w ∈ lw_tbl := z_memIn _ [80, 82, 84] rfl
theorem wsL_law_in0 : ∀ w ∈ wsL_law0, w ∈ lw_tbl := by
  show ∀ w ∈ (wsL_law0_r1 ++ (wsL_law0_r2 ++ (wsL_law0_r3 ++ (wsL_law0_r4 ++ (wsL_law0_r5 ++ (wsL_law0_r6 ++ (wsL_law0_r7 ++ (wsL_law0_r8 ++ (wsL_law0_r9 ++ (wsL_law0_r10 ++ (wsL_law0_r11 ++ (wsL_law0_r12 ++ (wsL_law0_r13 ++ (wsL_law0_r14 ++ (wsL_law0_r15 ++ (wsL_law0_r16 ++ (wsL_law0_r17 ++ (wsL_law0_r18 ++ wsL_law0_r19)))))))))))))))))) ++ wsX20 ++ wsX30 ++ wsX00 ++ wsX10 ++ ([] : List Cond), w ∈ lw_tbl
  exact (List.forall_mem_append.mpr ⟨(List.forall_mem_append.mpr ⟨(List.forall_mem_append.mpr ⟨(List.forall_mem_append.mpr ⟨(List.forall_mem_append.mpr ⟨(List.forall_mem_append.mpr ⟨wsL_law0_r1_in, (List.forall_mem_append.mpr ⟨wsL_law0_r2_in, (List.forall_mem_append.mpr ⟨wsL_law0_r3_in, (List.forall_mem_append.mpr ⟨wsL_law0_r4_in, (List.forall_mem_append.mpr ⟨wsL_law0_r5_in, (List.forall_mem_append.mpr ⟨wsL_law0_r6_in, (List.forall_mem_append.mpr ⟨wsL_law0_r7_in, (List.forall_mem_append.mpr ⟨wsL_law0_r8_in, (List.forall_mem_append.mpr ⟨wsL_law0_r9_in, (List.forall_mem_append.mpr ⟨wsL_law0_r10_in, (List.forall_mem_append.mpr ⟨wsL_law0_r11_in, (List.forall_mem_append.mpr ⟨wsL_law0_r12_in, (List.forall_mem_append.mpr ⟨wsL_law0_r13_in, (List.forall_mem_append.mpr ⟨wsL_law0_r14_in, (List.forall_mem_append.mpr ⟨wsL_law0_r15_in, (List.forall_mem_append.mpr ⟨wsL_law0_r16_in, (List.forall_mem_append.mpr ⟨wsL_law0_r17_in, (List.forall_mem_append.mpr ⟨wsL_law0_r18_in, wsL_law0_r19_in⟩)⟩)⟩)⟩)⟩)⟩)⟩)⟩)⟩)⟩)⟩)⟩)⟩)⟩)⟩)⟩)⟩)⟩), wsX20_inl0⟩), wsX30_inl0⟩), wsX00_inl0⟩), wsX10_inl0⟩), (fun w h => absurd h List.not_mem_nil)⟩)
theorem wsL_law_x0 : ∀ w ∈ (vx_atS RX2 54 "java/lang/IllegalStateException" ["java/lang/RuntimeException", "java/lang/Exception"]).filter goodWord, w ∈ lw_tbl := by decide +kernel
theorem wsL_law_x1 : ∀ w ∈ (vx_atS RX2 71 "java/lang/IndexOutOfBoundsException" ["java/lang/RuntimeException", "java/lang/Exception"]).filter goodWord, w ∈ lw_tbl := by decide +kernel
theorem wsL_law_x2 : ∀ w ∈ (vx_atS RX2 76 "java/lang/IllegalArgumentException" ["java/lang/RuntimeException", "java/lang/Exception"]).filter goodWord, w ∈ lw_tbl := by decide +kernel
theorem wsL_law_in : ∀ w ∈ wsL_law, w ∈ lw_tbl := fun w h => (List.mem_append.mp h).elim (fun h => (List.mem_append.mp h).elim (fun h => (List.mem_append.mp h).elim (fun h => wsL_law_in0 w h) (fun h => wsL_law_x0 w h)) (fun h => wsL_law_x1 w h)) (fun h => wsL_law_x2 w h)
theorem inlX0 : ∀ w ∈ wsX00, w ∈ wsL_law := fun _ h => List.mem_append_left _ (List.mem_append_left _ (List.mem_append_left _ (List.mem_append_left _ (List.mem_append_left _ (List.mem_append_right _ h)))))
theorem inX0 : ∀ w ∈ wsX00, w ∈ lw_tbl := fun w h => wsL_law_in w (inlX0 w h)
theorem inlX1 : ∀ w ∈ wsX10, w ∈ wsL_law := fun _ h => List.mem_append_left _ (List.mem_append_left _ (List.mem_append_left _ (List.mem_append_left _ (List.mem_append_right _ h))))
theorem inX1 : ∀ w ∈ wsX10, w ∈ lw_tbl := fun w h => wsL_law_in w (inlX1 w h)
theorem inlX2 : ∀ w ∈ wsX20, w ∈ wsL_law := fun _ h => List.mem_append_left _ (List.mem_append_left _ (List.mem_append_left _ (List.mem_append_left _ (List.mem_append_left _ (List.mem_append_left _ (List.mem_append_left _ (List.mem_append_right _ h)))))))
theorem inX2 : ∀ w ∈ wsX20, w ∈ lw_tbl := fun w h => wsL_law_in w (inlX2 w h)
theorem inlX3 : ∀ w ∈ wsX30, w ∈ wsL_law := fun _ h => List.mem_append_left _ (List.mem_append_left _ (List.mem_append_left _ (List.mem_append_left _ (List.mem_append_left _ (List.mem_append_left _ (List.mem_append_right _ h))))))
theorem inX3 : ∀ w ∈ wsX30, w ∈ lw_tbl := fun w h => wsL_law_in w (inlX3 w h)
theorem inJ6 : ∀ w ∈ wsJ60, w ∈ lw_tbl := by decide +kernel
theorem inJ9 : ∀ w ∈ wsJ90, w ∈ lw_tbl := by decide +kernel
theorem inJ0 : ∀ w ∈ wsJ00, w ∈ lw_tbl := by decide +kernel
theorem inJ10 : ∀ w ∈ wsJ100, w ∈ lw_tbl := by decide +kernel
end
