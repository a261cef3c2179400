abbrev c_T_init : ByteArray := prog_1_method_1_code
abbrev y_T_init : MethodName := ⟨"SegmentTrees", "<init>", "()V"⟩
/-- the words of T_init -/
abbrev w_T_init : List Cond := Cond.code y_T_init c_T_init 1 (none) :: zz_all
abbrev c_P_init : ByteArray := prog_4_method_1_code
abbrev y_P_init : MethodName := ⟨"SegmentTrees$Path", "<init>", "()V"⟩
/-- the words of P_init -/
abbrev w_P_init : List Cond := Cond.code y_P_init c_P_init 2 (none) :: zz_all
abbrev c_L_init : ByteArray := prog_5_method_1_code
abbrev y_L_init : MethodName := ⟨"SegmentTrees$PathLevel", "<init>", "()V"⟩
/-- the words of L_init -/
abbrev w_L_init : List Cond := Cond.code y_L_init c_L_init 1 (none) :: zz_all
abbrev c_O_init : ByteArray := prog_3_method_1_code
abbrev y_O_init : MethodName := ⟨"SegmentTrees$Order", "<init>", "()V"⟩
/-- the words of O_init -/
abbrev w_O_init : List Cond := Cond.code y_O_init c_O_init 1 (none) :: zz_all
abbrev c_Q_init : ByteArray := prog_6_method_1_code
abbrev y_Q_init : MethodName := ⟨"SegmentTrees$Position", "<init>", "()V"⟩
/-- the words of Q_init -/
abbrev w_Q_init : List Cond := Cond.code y_Q_init c_Q_init 1 (none) :: zz_all
abbrev c_T_clearPath : ByteArray := prog_1_method_5_code
abbrev y_T_clearPath : MethodName := ⟨"SegmentTrees", "clearPath", "()V"⟩
/-- the words of T_clearPath -/
abbrev w_T_clearPath : List Cond := Cond.code y_T_clearPath c_T_clearPath 1 (none) :: zz_all
abbrev c_P_forget : ByteArray := prog_4_method_2_code
abbrev y_P_forget : MethodName := ⟨"SegmentTrees$Path", "forget", "()V"⟩
/-- the words of P_forget -/
abbrev w_P_forget : List Cond := Cond.code y_P_forget c_P_forget 2 (none) :: zz_all
abbrev c_L_forget : ByteArray := prog_5_method_2_code
abbrev y_L_forget : MethodName := ⟨"SegmentTrees$PathLevel", "forget", "()V"⟩
/-- the words of L_forget -/
abbrev w_L_forget : List Cond := Cond.code y_L_forget c_L_forget 1 (none) :: zz_all
abbrev c_T_unique : ByteArray := prog_1_method_8_code
abbrev y_T_unique : MethodName := ⟨"SegmentTrees", "unique", "(Z)I"⟩
/-- the words of T_unique -/
abbrev w_T_unique : List Cond := Cond.code y_T_unique c_T_unique 2 (some (.int)) :: zz_all
abbrev c_O_firstThatMeets : ByteArray := prog_3_method_7_code
abbrev y_O_firstThatMeets : MethodName := ⟨"SegmentTrees$Order", "firstThatMeets", "(LSegmentTrees$Path;ILSegmentTrees$Segment;)LSegmentTrees$Segment;"⟩
/-- the words of O_firstThatMeets -/
abbrev w_O_firstThatMeets : List Cond := Cond.code y_O_firstThatMeets c_O_firstThatMeets 5 (some ((.object "SegmentTrees$Segment"))) :: zz_all
abbrev c_S_isBelow : ByteArray := prog_7_method_6_code
abbrev y_S_isBelow : MethodName := ⟨"SegmentTrees$Segment", "isBelow", "(LSegmentTrees$Segment;)Z"⟩
/-- the words of S_isBelow -/
abbrev w_S_isBelow : List Cond := Cond.code y_S_isBelow c_S_isBelow 2 (some (.boolean)) :: zz_all
abbrev c_S_isInTreeOf : ByteArray := prog_7_method_5_code
abbrev y_S_isInTreeOf : MethodName := ⟨"SegmentTrees$Segment", "isInTreeOf", "(LSegmentTrees$Segment;)Z"⟩
/-- the words of S_isInTreeOf -/
abbrev w_S_isInTreeOf : List Cond := Cond.code y_S_isInTreeOf c_S_isInTreeOf 2 (some (.boolean)) :: zz_all
abbrev c_S_atLevel : ByteArray := prog_7_method_4_code
abbrev y_S_atLevel : MethodName := ⟨"SegmentTrees$Segment", "atLevel", "(I)LSegmentTrees$Segment;"⟩
/-- the words of S_atLevel -/
abbrev w_S_atLevel : List Cond := Cond.code y_S_atLevel c_S_atLevel 4 (some ((.object "SegmentTrees$Segment"))) :: zz_all
abbrev c_P_isMetBy : ByteArray := prog_4_method_5_code
abbrev y_P_isMetBy : MethodName := ⟨"SegmentTrees$Path", "isMetBy", "(LSegmentTrees$Segment;)Z"⟩
/-- the words of P_isMetBy -/
abbrev w_P_isMetBy : List Cond := Cond.code y_P_isMetBy c_P_isMetBy 3 (some (.boolean)) :: zz_all
abbrev c_P_lowestStated : ByteArray := prog_4_method_7_code
abbrev y_P_lowestStated : MethodName := ⟨"SegmentTrees$Path", "lowestStated", "()I"⟩
/-- the words of P_lowestStated -/
abbrev w_P_lowestStated : List Cond := Cond.code y_P_lowestStated c_P_lowestStated 2 (some (.int)) :: zz_all
abbrev c_L_isStated : ByteArray := prog_5_method_3_code
abbrev y_L_isStated : MethodName := ⟨"SegmentTrees$PathLevel", "isStated", "()Z"⟩
/-- the words of L_isStated -/
abbrev w_L_isStated : List Cond := Cond.code y_L_isStated c_L_isStated 1 (some (.boolean)) :: zz_all
abbrev c_P_isMetDownTo : ByteArray := prog_4_method_6_code
abbrev y_P_isMetDownTo : MethodName := ⟨"SegmentTrees$Path", "isMetDownTo", "(ILSegmentTrees$Segment;)Z"⟩
/-- the words of P_isMetDownTo -/
abbrev w_P_isMetDownTo : List Cond := Cond.code y_P_isMetDownTo c_P_isMetDownTo 5 (some (.boolean)) :: zz_all
abbrev c_L_isMetBy : ByteArray := prog_5_method_6_code
abbrev y_L_isMetBy : MethodName := ⟨"SegmentTrees$PathLevel", "isMetBy", "(LSegmentTrees$Segment;)Z"⟩
/-- the words of L_isMetBy -/
abbrev w_L_isMetBy : List Cond := Cond.code y_L_isMetBy c_L_isMetBy 3 (some (.boolean)) :: zz_all
abbrev c_L_compares : ByteArray := prog_5_method_7_code
abbrev y_L_compares : MethodName := ⟨"SegmentTrees$PathLevel", "compares", "(III)Z"⟩
/-- the words of L_compares -/
abbrev w_L_compares : List Cond := Cond.code y_L_compares c_L_compares 3 (some (.boolean)) :: zz_all
abbrev c_T_got : ByteArray := prog_1_method_26_code
abbrev y_T_got : MethodName := ⟨"SegmentTrees", "got", "(LSegmentTrees$Segment;Z)I"⟩
/-- the words of T_got -/
abbrev w_T_got : List Cond := Cond.code y_T_got c_T_got 3 (some (.int)) :: zz_all
abbrev c_Q_standAt : ByteArray := prog_6_method_2_code
abbrev y_Q_standAt : MethodName := ⟨"SegmentTrees$Position", "standAt", "(LSegmentTrees$Segment;)V"⟩
/-- the words of Q_standAt -/
abbrev w_Q_standAt : List Cond := Cond.code y_Q_standAt c_Q_standAt 2 (none) :: zz_all
abbrev c_T_next : ByteArray := prog_1_method_9_code
abbrev y_T_next : MethodName := ⟨"SegmentTrees", "next", "(Z)I"⟩
/-- the words of T_next -/
abbrev w_T_next : List Cond := Cond.code y_T_next c_T_next 2 (some (.int)) :: zz_all
abbrev c_Q_firstBehind : ByteArray := prog_6_method_7_code
abbrev y_Q_firstBehind : MethodName := ⟨"SegmentTrees$Position", "firstBehind", "(LSegmentTrees$Order;)I"⟩
/-- the words of Q_firstBehind -/
abbrev w_Q_firstBehind : List Cond := Cond.code y_Q_firstBehind c_Q_firstBehind 2 (some (.int)) :: zz_all
abbrev c_Q_before : ByteArray := prog_6_method_6_code
abbrev y_Q_before : MethodName := ⟨"SegmentTrees$Position", "before", "(LSegmentTrees$Order;)I"⟩
/-- the words of Q_before -/
abbrev w_Q_before : List Cond := Cond.code y_Q_before c_Q_before 2 (some (.int)) :: zz_all
abbrev c_O_indexOf : ByteArray := prog_3_method_5_code
abbrev y_O_indexOf : MethodName := ⟨"SegmentTrees$Order", "indexOf", "(LSegmentTrees$Segment;)I"⟩
/-- the words of O_indexOf -/
abbrev w_O_indexOf : List Cond := Cond.code y_O_indexOf c_O_indexOf 3 (some (.int)) :: zz_all
abbrev c_T_at : ByteArray := prog_1_method_12_code
abbrev y_T_at : MethodName := ⟨"SegmentTrees", "at", "()I"⟩
/-- the words of T_at -/
abbrev w_T_at : List Cond := Cond.code y_T_at c_T_at 1 (some (.int)) :: zz_all
abbrev c_Q_standing : ByteArray := prog_6_method_5_code
abbrev y_Q_standing : MethodName := ⟨"SegmentTrees$Position", "standing", "()LSegmentTrees$Segment;"⟩
/-- the words of Q_standing -/
abbrev w_Q_standing : List Cond := Cond.code y_Q_standing c_Q_standing 1 (some ((.object "SegmentTrees$Segment"))) :: zz_all
abbrev c_T_numberOf : ByteArray := prog_1_method_22_code
abbrev y_T_numberOf : MethodName := ⟨"SegmentTrees", "numberOf", "(LSegmentTrees$Segment;)I"⟩
/-- the words of T_numberOf -/
abbrev w_T_numberOf : List Cond := Cond.code y_T_numberOf c_T_numberOf 1 (some (.int)) :: zz_all
abbrev c_T_place : ByteArray := prog_1_method_13_code
abbrev y_T_place : MethodName := ⟨"SegmentTrees", "place", "()I"⟩
/-- the words of T_place -/
abbrev w_T_place : List Cond := Cond.code y_T_place c_T_place 1 (some (.int)) :: zz_all
abbrev c_T_count : ByteArray := prog_1_method_19_code
abbrev y_T_count : MethodName := ⟨"SegmentTrees", "count", "()I"⟩
/-- the words of T_count -/
abbrev w_T_count : List Cond := Cond.code y_T_count c_T_count 1 (some (.int)) :: zz_all
abbrev c_T_segment : ByteArray := prog_1_method_20_code
abbrev y_T_segment : MethodName := ⟨"SegmentTrees", "segment", "(II)I"⟩
/-- the words of T_segment -/
abbrev w_T_segment : List Cond := Cond.code y_T_segment c_T_segment 4 (some (.int)) :: zz_all
abbrev c_O_withNumber : ByteArray := prog_3_method_6_code
abbrev y_O_withNumber : MethodName := ⟨"SegmentTrees$Order", "withNumber", "(I)LSegmentTrees$Segment;"⟩
/-- the words of O_withNumber -/
abbrev w_O_withNumber : List Cond := Cond.code y_O_withNumber c_O_withNumber 3 (some ((.object "SegmentTrees$Segment"))) :: zz_all
abbrev c_T_wordAsked : ByteArray := prog_1_method_21_code
abbrev y_T_wordAsked : MethodName := ⟨"SegmentTrees", "wordAsked", "(LSegmentTrees$Segment;I)I"⟩
/-- the words of T_wordAsked -/
abbrev w_T_wordAsked : List Cond := Cond.code y_T_wordAsked c_T_wordAsked 2 (some (.int)) :: zz_all
abbrev c_K_hasWord : ByteArray := prog_2_method_2_code
abbrev y_K_hasWord : MethodName := ⟨"SegmentTrees$Kind", "hasWord", "(I)Z"⟩
/-- the words of K_hasWord -/
abbrev w_K_hasWord : List Cond := Cond.code y_K_hasWord c_K_hasWord 2 (some (.boolean)) :: zz_all
abbrev c_W_type : ByteArray := method_3_code
abbrev y_W_type : MethodName := ⟨"SegmentTreesLaw", "type", "(LSegmentTrees;IIIIZZ)I"⟩
abbrev c_T_type : ByteArray := prog_1_method_2_code
abbrev y_T_type : MethodName := ⟨"SegmentTrees", "type", "(IIIIZZ)V"⟩
/-- the words of T_type -/
abbrev w_T_type : List Cond := Cond.code y_T_type c_T_type 8 (none) :: zz_all
abbrev c_T_kindOf : ByteArray := prog_1_method_23_code
abbrev y_T_kindOf : MethodName := ⟨"SegmentTrees", "kindOf", "(I)LSegmentTrees$Kind;"⟩
/-- the words of T_kindOf -/
abbrev w_T_kindOf : List Cond := Cond.code y_T_kindOf c_T_kindOf 2 (some ((.object "SegmentTrees$Kind"))) :: zz_all
abbrev c_T_refuseAfterInsert : ByteArray := prog_1_method_25_code
abbrev y_T_refuseAfterInsert : MethodName := ⟨"SegmentTrees", "refuseAfterInsert", "()V"⟩
/-- the words of T_refuseAfterInsert -/
abbrev w_T_refuseAfterInsert : List Cond := Cond.code y_T_refuseAfterInsert c_T_refuseAfterInsert 1 (none) :: zz_all
abbrev c_K_init : ByteArray := prog_2_method_1_code
abbrev y_K_init : MethodName := ⟨"SegmentTrees$Kind", "<init>", "(ILSegmentTrees$Kind;IIZZ)V"⟩
/-- the words of K_init -/
abbrev w_K_init : List Cond := Cond.code y_K_init c_K_init 7 (none) :: zz_all
abbrev c_W_twins : ByteArray := method_4_code
abbrev y_W_twins : MethodName := ⟨"SegmentTreesLaw", "twins", "(LSegmentTrees;II)I"⟩
abbrev c_T_twins : ByteArray := prog_1_method_3_code
abbrev y_T_twins : MethodName := ⟨"SegmentTrees", "twins", "(II)V"⟩
/-- the words of T_twins -/
abbrev w_T_twins : List Cond := Cond.code y_T_twins c_T_twins 5 (none) :: zz_all
abbrev c_T_declaredKind : ByteArray := prog_1_method_24_code
abbrev y_T_declaredKind : MethodName := ⟨"SegmentTrees", "declaredKind", "(I)LSegmentTrees$Kind;"⟩
/-- the words of T_declaredKind -/
abbrev w_T_declaredKind : List Cond := Cond.code y_T_declaredKind c_T_declaredKind 3 (some ((.object "SegmentTrees$Kind"))) :: zz_all
abbrev c_K_hasSequence : ByteArray := prog_2_method_3_code
abbrev y_K_hasSequence : MethodName := ⟨"SegmentTrees$Kind", "hasSequence", "()Z"⟩
/-- the words of K_hasSequence -/
abbrev w_K_hasSequence : List Cond := Cond.code y_K_hasSequence c_K_hasSequence 1 (some (.boolean)) :: zz_all
abbrev c_W_second : ByteArray := method_5_code
abbrev y_W_second : MethodName := ⟨"SegmentTreesLaw", "second", "(LSegmentTrees;II)I"⟩
abbrev c_T_second : ByteArray := prog_1_method_4_code
abbrev y_T_second : MethodName := ⟨"SegmentTrees", "second", "(II)V"⟩
/-- the words of T_second -/
abbrev w_T_second : List Cond := Cond.code y_T_second c_T_second 4 (none) :: zz_all
abbrev c_O_nameSecond : ByteArray := prog_3_method_2_code
abbrev y_O_nameSecond : MethodName := ⟨"SegmentTrees$Order", "nameSecond", "(LSegmentTrees$Kind;I)V"⟩
/-- the words of O_nameSecond -/
abbrev w_O_nameSecond : List Cond := Cond.code y_O_nameSecond c_O_nameSecond 3 (none) :: zz_all
abbrev c_W_path : ByteArray := method_6_code
abbrev y_W_path : MethodName := ⟨"SegmentTreesLaw", "path", "(LSegmentTrees;IIII[J)I"⟩
abbrev c_T_path : ByteArray := prog_1_method_6_code
abbrev y_T_path : MethodName := ⟨"SegmentTrees", "path", "(IIII)Z"⟩
/-- the words of T_path -/
abbrev w_T_path : List Cond := Cond.code y_T_path c_T_path 6 (some (.boolean)) :: zz_all
abbrev c_P_state : ByteArray := prog_4_method_3_code
abbrev y_P_state : MethodName := ⟨"SegmentTrees$Path", "state", "(LSegmentTrees$Kind;)Z"⟩
/-- the words of P_state -/
abbrev w_P_state : List Cond := Cond.code y_P_state c_P_state 2 (some (.boolean)) :: zz_all
abbrev c_L_state : ByteArray := prog_5_method_4_code
abbrev y_L_state : MethodName := ⟨"SegmentTrees$PathLevel", "state", "(LSegmentTrees$Kind;)Z"⟩
/-- the words of L_state -/
abbrev w_L_state : List Cond := Cond.code y_L_state c_L_state 2 (some (.boolean)) :: zz_all
abbrev c_P_addCondition : ByteArray := prog_4_method_4_code
abbrev y_P_addCondition : MethodName := ⟨"SegmentTrees$Path", "addCondition", "(LSegmentTrees$Kind;III)Z"⟩
/-- the words of P_addCondition -/
abbrev w_P_addCondition : List Cond := Cond.code y_P_addCondition c_P_addCondition 5 (some (.boolean)) :: zz_all
abbrev c_L_addCondition : ByteArray := prog_5_method_5_code
abbrev y_L_addCondition : MethodName := ⟨"SegmentTrees$PathLevel", "addCondition", "(LSegmentTrees$Kind;III)Z"⟩
/-- the words of L_addCondition -/
abbrev w_L_addCondition : List Cond := Cond.code y_L_addCondition c_L_addCondition 5 (some (.boolean)) :: zz_all
abbrev c_W_work : ByteArray := method_7_code
abbrev y_W_work : MethodName := ⟨"SegmentTreesLaw", "work", "(LSegmentTrees;II)I"⟩
abbrev c_T_work : ByteArray := prog_1_method_7_code
abbrev y_T_work : MethodName := ⟨"SegmentTrees", "work", "(II)V"⟩
/-- the words of T_work -/
abbrev w_T_work : List Cond := Cond.code y_T_work c_T_work 3 (none) :: zz_all
abbrev c_W_within : ByteArray := method_8_code
abbrev y_W_within : MethodName := ⟨"SegmentTreesLaw", "within", "(LSegmentTrees;Z[J)I"⟩
abbrev c_T_within : ByteArray := prog_1_method_10_code
abbrev y_T_within : MethodName := ⟨"SegmentTrees", "within", "(Z)I"⟩
/-- the words of T_within -/
abbrev w_T_within : List Cond := Cond.code y_T_within c_T_within 2 (some (.int)) :: zz_all
abbrev c_W_fix : ByteArray := method_9_code
abbrev y_W_fix : MethodName := ⟨"SegmentTreesLaw", "fix", "(LSegmentTrees;[J)I"⟩
abbrev c_T_fix : ByteArray := prog_1_method_11_code
abbrev y_T_fix : MethodName := ⟨"SegmentTrees", "fix", "()I"⟩
/-- the words of T_fix -/
abbrev w_T_fix : List Cond := Cond.code y_T_fix c_T_fix 2 (some (.int)) :: zz_all
abbrev c_W_word : ByteArray := method_10_code
abbrev y_W_word : MethodName := ⟨"SegmentTreesLaw", "word", "(LSegmentTrees;I[J)I"⟩
abbrev c_T_word : ByteArray := prog_1_method_14_code
abbrev y_T_word : MethodName := ⟨"SegmentTrees", "word", "(I)I"⟩
/-- the words of T_word -/
abbrev w_T_word : List Cond := Cond.code y_T_word c_T_word 3 (some (.int)) :: zz_all
abbrev c_W_insert : ByteArray := method_11_code
abbrev y_W_insert : MethodName := ⟨"SegmentTreesLaw", "insert", "(LSegmentTrees;I[J)I"⟩
abbrev c_T_insert : ByteArray := prog_1_method_15_code
abbrev y_T_insert : MethodName := ⟨"SegmentTrees", "insert", "(I)I"⟩
/-- the words of T_insert -/
abbrev w_T_insert : List Cond := Cond.code y_T_insert c_T_insert 5 (some (.int)) :: zz_all
abbrev c_O_firstParent : ByteArray := prog_3_method_8_code
abbrev y_O_firstParent : MethodName := ⟨"SegmentTrees$Order", "firstParent", "(LSegmentTrees$Kind;LSegmentTrees$Path;)LSegmentTrees$Segment;"⟩
/-- the words of O_firstParent -/
abbrev w_O_firstParent : List Cond := Cond.code y_O_firstParent c_O_firstParent 4 (some ((.object "SegmentTrees$Segment"))) :: zz_all
abbrev c_O_hasSibling : ByteArray := prog_3_method_9_code
abbrev y_O_hasSibling : MethodName := ⟨"SegmentTrees$Order", "hasSibling", "(LSegmentTrees$Kind;LSegmentTrees$Segment;[I)Z"⟩
/-- the words of O_hasSibling -/
abbrev w_O_hasSibling : List Cond := Cond.code y_O_hasSibling c_O_hasSibling 6 (some (.boolean)) :: zz_all
abbrev c_S_hasSequenceOf : ByteArray := prog_7_method_3_code
abbrev y_S_hasSequenceOf : MethodName := ⟨"SegmentTrees$Segment", "hasSequenceOf", "([I)Z"⟩
/-- the words of S_hasSequenceOf -/
abbrev w_S_hasSequenceOf : List Cond := Cond.code y_S_hasSequenceOf c_S_hasSequenceOf 2 (some (.boolean)) :: zz_all
abbrev c_S_init : ByteArray := prog_7_method_1_code
abbrev y_S_init : MethodName := ⟨"SegmentTrees$Segment", "<init>", "(ILSegmentTrees$Kind;LSegmentTrees$Segment;)V"⟩
/-- the words of S_init -/
abbrev w_S_init : List Cond := Cond.code y_S_init c_S_init 4 (none) :: zz_all
abbrev c_S_takeWords : ByteArray := prog_7_method_2_code
abbrev y_S_takeWords : MethodName := ⟨"SegmentTrees$Segment", "takeWords", "([I)V"⟩
/-- the words of S_takeWords -/
abbrev w_S_takeWords : List Cond := Cond.code y_S_takeWords c_S_takeWords 2 (none) :: zz_all
abbrev c_T_joinTwin : ByteArray := prog_1_method_27_code
abbrev y_T_joinTwin : MethodName := ⟨"SegmentTrees", "joinTwin", "(LSegmentTrees$Segment;)V"⟩
/-- the words of T_joinTwin -/
abbrev w_T_joinTwin : List Cond := Cond.code y_T_joinTwin c_T_joinTwin 3 (none) :: zz_all
abbrev c_O_freeTwinFor : ByteArray := prog_3_method_10_code
abbrev y_O_freeTwinFor : MethodName := ⟨"SegmentTrees$Order", "freeTwinFor", "(LSegmentTrees$Segment;)LSegmentTrees$Segment;"⟩
/-- the words of O_freeTwinFor -/
abbrev w_O_freeTwinFor : List Cond := Cond.code y_O_freeTwinFor c_O_freeTwinFor 5 (some ((.object "SegmentTrees$Segment"))) :: zz_all
abbrev c_O_enter : ByteArray := prog_3_method_11_code
abbrev y_O_enter : MethodName := ⟨"SegmentTrees$Order", "enter", "(LSegmentTrees$Segment;)V"⟩
/-- the words of O_enter -/
abbrev w_O_enter : List Cond := Cond.code y_O_enter c_O_enter 4 (none) :: zz_all
abbrev c_O_entryOf : ByteArray := prog_3_method_12_code
abbrev y_O_entryOf : MethodName := ⟨"SegmentTrees$Order", "entryOf", "(LSegmentTrees$Segment;)I"⟩
/-- the words of O_entryOf -/
abbrev w_O_entryOf : List Cond := Cond.code y_O_entryOf c_O_entryOf 5 (some (.int)) :: zz_all
abbrev c_S_entersBefore : ByteArray := prog_7_method_10_code
abbrev y_S_entersBefore : MethodName := ⟨"SegmentTrees$Segment", "entersBefore", "(LSegmentTrees$Segment;)Z"⟩
/-- the words of S_entersBefore -/
abbrev w_S_entersBefore : List Cond := Cond.code y_S_entersBefore c_S_entersBefore 4 (some (.boolean)) :: zz_all
abbrev c_O_arrange : ByteArray := prog_3_method_15_code
abbrev y_O_arrange : MethodName := ⟨"SegmentTrees$Order", "arrange", "()V"⟩
/-- the words of O_arrange -/
abbrev w_O_arrange : List Cond := Cond.code y_O_arrange c_O_arrange 1 (none) :: zz_all
abbrev c_O_findValues : ByteArray := prog_3_method_16_code
abbrev y_O_findValues : MethodName := ⟨"SegmentTrees$Order", "findValues", "()V"⟩
/-- the words of O_findValues -/
abbrev w_O_findValues : List Cond := Cond.code y_O_findValues c_O_findValues 4 (none) :: zz_all
abbrev c_S_clearValue : ByteArray := prog_7_method_7_code
abbrev y_S_clearValue : MethodName := ⟨"SegmentTrees$Segment", "clearValue", "()V"⟩
/-- the words of S_clearValue -/
abbrev w_S_clearValue : List Cond := Cond.code y_S_clearValue c_S_clearValue 1 (none) :: zz_all
abbrev c_S_offerValue : ByteArray := prog_7_method_8_code
abbrev y_S_offerValue : MethodName := ⟨"SegmentTrees$Segment", "offerValue", "(I)V"⟩
/-- the words of S_offerValue -/
abbrev w_S_offerValue : List Cond := Cond.code y_S_offerValue c_S_offerValue 2 (none) :: zz_all
abbrev c_K_rootKind : ByteArray := prog_2_method_4_code
abbrev y_K_rootKind : MethodName := ⟨"SegmentTrees$Kind", "rootKind", "()LSegmentTrees$Kind;"⟩
/-- the words of K_rootKind -/
abbrev w_K_rootKind : List Cond := Cond.code y_K_rootKind c_K_rootKind 3 (some ((.object "SegmentTrees$Kind"))) :: zz_all
abbrev c_O_arrangeRoots : ByteArray := prog_3_method_17_code
abbrev y_O_arrangeRoots : MethodName := ⟨"SegmentTrees$Order", "arrangeRoots", "(LSegmentTrees$Kind;)V"⟩
/-- the words of O_arrangeRoots -/
abbrev w_O_arrangeRoots : List Cond := Cond.code y_O_arrangeRoots c_O_arrangeRoots 5 (none) :: zz_all
abbrev c_O_leastRootAfter : ByteArray := prog_3_method_18_code
abbrev y_O_leastRootAfter : MethodName := ⟨"SegmentTrees$Order", "leastRootAfter", "(LSegmentTrees$Kind;LSegmentTrees$Segment;)I"⟩
/-- the words of O_leastRootAfter -/
abbrev w_O_leastRootAfter : List Cond := Cond.code y_O_leastRootAfter c_O_leastRootAfter 6 (some (.int)) :: zz_all
abbrev c_S_comesBeforeBySecond : ByteArray := prog_7_method_9_code
abbrev y_S_comesBeforeBySecond : MethodName := ⟨"SegmentTrees$Segment", "comesBeforeBySecond", "(LSegmentTrees$Segment;)Z"⟩
/-- the words of S_comesBeforeBySecond -/
abbrev w_S_comesBeforeBySecond : List Cond := Cond.code y_S_comesBeforeBySecond c_S_comesBeforeBySecond 2 (some (.boolean)) :: zz_all
abbrev c_O_copyTree : ByteArray := prog_3_method_19_code
abbrev y_O_copyTree : MethodName := ⟨"SegmentTrees$Order", "copyTree", "(II)I"⟩
/-- the words of O_copyTree -/
abbrev w_O_copyTree : List Cond := Cond.code y_O_copyTree c_O_copyTree 6 (some (.int)) :: zz_all
abbrev c_W_replace : ByteArray := method_12_code
abbrev y_W_replace : MethodName := ⟨"SegmentTreesLaw", "replace", "(LSegmentTrees;[J)I"⟩
abbrev c_T_replace : ByteArray := prog_1_method_16_code
abbrev y_T_replace : MethodName := ⟨"SegmentTrees", "replace", "()Z"⟩
/-- the words of T_replace -/
abbrev w_T_replace : List Cond := Cond.code y_T_replace c_T_replace 2 (some (.boolean)) :: zz_all
abbrev c_W_delete : ByteArray := method_13_code
abbrev y_W_delete : MethodName := ⟨"SegmentTreesLaw", "delete", "(LSegmentTrees;[J)I"⟩
abbrev c_T_delete : ByteArray := prog_1_method_17_code
abbrev y_T_delete : MethodName := ⟨"SegmentTrees", "delete", "()I"⟩
/-- the words of T_delete -/
abbrev w_T_delete : List Cond := Cond.code y_T_delete c_T_delete 4 (some (.int)) :: zz_all
abbrev c_O_firstBehindTree : ByteArray := prog_3_method_13_code
abbrev y_O_firstBehindTree : MethodName := ⟨"SegmentTrees$Order", "firstBehindTree", "(LSegmentTrees$Segment;)LSegmentTrees$Segment;"⟩
/-- the words of O_firstBehindTree -/
abbrev w_O_firstBehindTree : List Cond := Cond.code y_O_firstBehindTree c_O_firstBehindTree 3 (some ((.object "SegmentTrees$Segment"))) :: zz_all
abbrev c_O_removeTree : ByteArray := prog_3_method_14_code
abbrev y_O_removeTree : MethodName := ⟨"SegmentTrees$Order", "removeTree", "(LSegmentTrees$Segment;)I"⟩
/-- the words of O_removeTree -/
abbrev w_O_removeTree : List Cond := Cond.code y_O_removeTree c_O_removeTree 5 (some (.int)) :: zz_all
abbrev c_Q_standInFrontOf : ByteArray := prog_6_method_4_code
abbrev y_Q_standInFrontOf : MethodName := ⟨"SegmentTrees$Position", "standInFrontOf", "(LSegmentTrees$Segment;)V"⟩
/-- the words of Q_standInFrontOf -/
abbrev w_Q_standInFrontOf : List Cond := Cond.code y_Q_standInFrontOf c_Q_standInFrontOf 2 (none) :: zz_all
abbrev c_W_bySecond : ByteArray := method_14_code
abbrev y_W_bySecond : MethodName := ⟨"SegmentTreesLaw", "bySecond", "(LSegmentTrees;Z)I"⟩
abbrev c_T_bySecond : ByteArray := prog_1_method_18_code
abbrev y_T_bySecond : MethodName := ⟨"SegmentTrees", "bySecond", "(Z)V"⟩
/-- the words of T_bySecond -/
abbrev w_T_bySecond : List Cond := Cond.code y_T_bySecond c_T_bySecond 2 (none) :: zz_all
abbrev c_O_hasSecond : ByteArray := prog_3_method_3_code
abbrev y_O_hasSecond : MethodName := ⟨"SegmentTrees$Order", "hasSecond", "()Z"⟩
/-- the words of O_hasSecond -/
abbrev w_O_hasSecond : List Cond := Cond.code y_O_hasSecond c_O_hasSecond 1 (some (.boolean)) :: zz_all
abbrev c_O_turnSecond : ByteArray := prog_3_method_4_code
abbrev y_O_turnSecond : MethodName := ⟨"SegmentTrees$Order", "turnSecond", "(Z)V"⟩
/-- the words of O_turnSecond -/
abbrev w_O_turnSecond : List Cond := Cond.code y_O_turnSecond c_O_turnSecond 2 (none) :: zz_all
abbrev c_Q_standInFrontOfAll : ByteArray := prog_6_method_3_code
abbrev y_Q_standInFrontOfAll : MethodName := ⟨"SegmentTrees$Position", "standInFrontOfAll", "()V"⟩
/-- the words of Q_standInFrontOfAll -/
abbrev w_Q_standInFrontOfAll : List Cond := Cond.code y_Q_standInFrontOfAll c_Q_standInFrontOfAll 1 (none) :: zz_all
abbrev c_M_init : ByteArray := prog_9_method_1_code
abbrev y_M_init : MethodName := ⟨"SegmentTreesModel", "<init>", "()V"⟩
/-- the words of M_init -/
abbrev w_M_init : List Cond := Cond.code y_M_init c_M_init 2 (none) :: zz_all
abbrev c_M_thrown : ByteArray := prog_9_method_2_code
abbrev y_M_thrown : MethodName := ⟨"SegmentTreesModel", "thrown", "()I"⟩
/-- the words of M_thrown -/
abbrev w_M_thrown : List Cond := Cond.code y_M_thrown c_M_thrown 1 (some (.int)) :: zz_all
abbrev c_M_type : ByteArray := prog_9_method_7_code
abbrev y_M_type : MethodName := ⟨"SegmentTreesModel", "type", "(IIIIZZ)V"⟩
/-- the words of M_type -/
abbrev w_M_type : List Cond := Cond.code y_M_type c_M_type 8 (none) :: zz_all
abbrev c_M_begin : ByteArray := prog_9_method_4_code
abbrev y_M_begin : MethodName := ⟨"SegmentTreesModel", "begin", "()V"⟩
/-- the words of M_begin -/
abbrev w_M_begin : List Cond := Cond.code y_M_begin c_M_begin 1 (none) :: zz_all
abbrev c_M_isType : ByteArray := prog_9_method_5_code
abbrev y_M_isType : MethodName := ⟨"SegmentTreesModel", "isType", "(I)Z"⟩
/-- the words of M_isType -/
abbrev w_M_isType : List Cond := Cond.code y_M_isType c_M_isType 2 (some (.boolean)) :: zz_all
abbrev c_M_twins : ByteArray := prog_9_method_8_code
abbrev y_M_twins : MethodName := ⟨"SegmentTreesModel", "twins", "(II)V"⟩
/-- the words of M_twins -/
abbrev w_M_twins : List Cond := Cond.code y_M_twins c_M_twins 3 (none) :: zz_all
abbrev c_M_second : ByteArray := prog_9_method_9_code
abbrev y_M_second : MethodName := ⟨"SegmentTreesModel", "second", "(II)V"⟩
/-- the words of M_second -/
abbrev w_M_second : List Cond := Cond.code y_M_second c_M_second 3 (none) :: zz_all
abbrev c_M_hasWord : ByteArray := prog_9_method_6_code
abbrev y_M_hasWord : MethodName := ⟨"SegmentTreesModel", "hasWord", "(II)Z"⟩
/-- the words of M_hasWord -/
abbrev w_M_hasWord : List Cond := Cond.code y_M_hasWord c_M_hasWord 3 (some (.boolean)) :: zz_all
abbrev c_M_clearPath : ByteArray := prog_9_method_10_code
abbrev y_M_clearPath : MethodName := ⟨"SegmentTreesModel", "clearPath", "()V"⟩
/-- the words of M_clearPath -/
abbrev w_M_clearPath : List Cond := Cond.code y_M_clearPath c_M_clearPath 2 (none) :: zz_all
abbrev c_M_path : ByteArray := prog_9_method_11_code
abbrev y_M_path : MethodName := ⟨"SegmentTreesModel", "path", "(IIII)Z"⟩
/-- the words of M_path -/
abbrev w_M_path : List Cond := Cond.code y_M_path c_M_path 7 (some (.boolean)) :: zz_all
abbrev c_M_work : ByteArray := prog_9_method_16_code
abbrev y_M_work : MethodName := ⟨"SegmentTreesModel", "work", "(II)V"⟩
/-- the words of M_work -/
abbrev w_M_work : List Cond := Cond.code y_M_work c_M_work 3 (none) :: zz_all
abbrev c_M_unique : ByteArray := prog_9_method_28_code
abbrev y_M_unique : MethodName := ⟨"SegmentTreesModel", "unique", "(Z)I"⟩
/-- the words of M_unique -/
abbrev w_M_unique : List Cond := Cond.code y_M_unique c_M_unique 2 (some (.int)) :: zz_all
abbrev c_M_sort : ByteArray := prog_9_method_24_code
abbrev y_M_sort : MethodName := ⟨"SegmentTreesModel", "sort", "()V"⟩
/-- the words of M_sort -/
abbrev w_M_sort : List Cond := Cond.code y_M_sort c_M_sort 4 (none) :: zz_all
abbrev c_M_findValues : ByteArray := prog_9_method_21_code
abbrev y_M_findValues : MethodName := ⟨"SegmentTreesModel", "findValues", "()V"⟩
/-- the words of M_findValues -/
abbrev w_M_findValues : List Cond := Cond.code y_M_findValues c_M_findValues 5 (none) :: zz_all
abbrev c_M_rootOf : ByteArray := prog_9_method_17_code
abbrev y_M_rootOf : MethodName := ⟨"SegmentTreesModel", "rootOf", "(I)I"⟩
/-- the words of M_rootOf -/
abbrev w_M_rootOf : List Cond := Cond.code y_M_rootOf c_M_rootOf 3 (some (.int)) :: zz_all
abbrev c_M_isFirst : ByteArray := prog_9_method_23_code
abbrev y_M_isFirst : MethodName := ⟨"SegmentTreesModel", "isFirst", "(II)Z"⟩
/-- the words of M_isFirst -/
abbrev w_M_isFirst : List Cond := Cond.code y_M_isFirst c_M_isFirst 8 (some (.boolean)) :: zz_all
abbrev c_M_atLevel : ByteArray := prog_9_method_19_code
abbrev y_M_atLevel : MethodName := ⟨"SegmentTreesModel", "atLevel", "(II)I"⟩
/-- the words of M_atLevel -/
abbrev w_M_atLevel : List Cond := Cond.code y_M_atLevel c_M_atLevel 4 (some (.int)) :: zz_all
abbrev c_M_isSiblingFirst : ByteArray := prog_9_method_22_code
abbrev y_M_isSiblingFirst : MethodName := ⟨"SegmentTreesModel", "isSiblingFirst", "(II)Z"⟩
/-- the words of M_isSiblingFirst -/
abbrev w_M_isSiblingFirst : List Cond := Cond.code y_M_isSiblingFirst c_M_isSiblingFirst 5 (some (.boolean)) :: zz_all
abbrev c_M_rootType : ByteArray := prog_9_method_20_code
abbrev y_M_rootType : MethodName := ⟨"SegmentTreesModel", "rootType", "(I)I"⟩
/-- the words of M_rootType -/
abbrev w_M_rootType : List Cond := Cond.code y_M_rootType c_M_rootType 3 (some (.int)) :: zz_all
abbrev c_M_get : ByteArray := prog_9_method_27_code
abbrev y_M_get : MethodName := ⟨"SegmentTreesModel", "get", "(IIZ)I"⟩
/-- the words of M_get -/
abbrev w_M_get : List Cond := Cond.code y_M_get c_M_get 6 (some (.int)) :: zz_all
abbrev c_M_isBelow : ByteArray := prog_9_method_18_code
abbrev y_M_isBelow : MethodName := ⟨"SegmentTreesModel", "isBelow", "(II)Z"⟩
/-- the words of M_isBelow -/
abbrev w_M_isBelow : List Cond := Cond.code y_M_isBelow c_M_isBelow 4 (some (.boolean)) :: zz_all
abbrev c_M_meets : ByteArray := prog_9_method_15_code
abbrev y_M_meets : MethodName := ⟨"SegmentTreesModel", "meets", "(I)Z"⟩
/-- the words of M_meets -/
abbrev w_M_meets : List Cond := Cond.code y_M_meets c_M_meets 4 (some (.boolean)) :: zz_all
abbrev c_M_fitsAbove : ByteArray := prog_9_method_14_code
abbrev y_M_fitsAbove : MethodName := ⟨"SegmentTreesModel", "fitsAbove", "(I)Z"⟩
/-- the words of M_fitsAbove -/
abbrev w_M_fitsAbove : List Cond := Cond.code y_M_fitsAbove c_M_fitsAbove 4 (some (.boolean)) :: zz_all
abbrev c_M_fits : ByteArray := prog_9_method_13_code
abbrev y_M_fits : MethodName := ⟨"SegmentTreesModel", "fits", "(I)Z"⟩
/-- the words of M_fits -/
abbrev w_M_fits : List Cond := Cond.code y_M_fits c_M_fits 5 (some (.boolean)) :: zz_all
abbrev c_M_holds : ByteArray := prog_9_method_12_code
abbrev y_M_holds : MethodName := ⟨"SegmentTreesModel", "holds", "(III)Z"⟩
/-- the words of M_holds -/
abbrev w_M_holds : List Cond := Cond.code y_M_holds c_M_holds 3 (some (.boolean)) :: zz_all
abbrev c_M_next : ByteArray := prog_9_method_29_code
abbrev y_M_next : MethodName := ⟨"SegmentTreesModel", "next", "(Z)I"⟩
/-- the words of M_next -/
abbrev w_M_next : List Cond := Cond.code y_M_next c_M_next 2 (some (.int)) :: zz_all
abbrev c_M_behind : ByteArray := prog_9_method_26_code
abbrev y_M_behind : MethodName := ⟨"SegmentTreesModel", "behind", "()I"⟩
/-- the words of M_behind -/
abbrev w_M_behind : List Cond := Cond.code y_M_behind c_M_behind 1 (some (.int)) :: zz_all
abbrev c_M_indexOf : ByteArray := prog_9_method_25_code
abbrev y_M_indexOf : MethodName := ⟨"SegmentTreesModel", "indexOf", "(I)I"⟩
/-- the words of M_indexOf -/
abbrev w_M_indexOf : List Cond := Cond.code y_M_indexOf c_M_indexOf 3 (some (.int)) :: zz_all
abbrev c_M_within : ByteArray := prog_9_method_30_code
abbrev y_M_within : MethodName := ⟨"SegmentTreesModel", "within", "(Z)I"⟩
/-- the words of M_within -/
abbrev w_M_within : List Cond := Cond.code y_M_within c_M_within 2 (some (.int)) :: zz_all
abbrev c_M_refuse : ByteArray := prog_9_method_3_code
abbrev y_M_refuse : MethodName := ⟨"SegmentTreesModel", "refuse", "(I)I"⟩
/-- the words of M_refuse -/
abbrev w_M_refuse : List Cond := Cond.code y_M_refuse c_M_refuse 2 (some (.int)) :: zz_all
abbrev c_M_fix : ByteArray := prog_9_method_31_code
abbrev y_M_fix : MethodName := ⟨"SegmentTreesModel", "fix", "()I"⟩
/-- the words of M_fix -/
abbrev w_M_fix : List Cond := Cond.code y_M_fix c_M_fix 1 (some (.int)) :: zz_all
abbrev c_M_at : ByteArray := prog_9_method_32_code
abbrev y_M_at : MethodName := ⟨"SegmentTreesModel", "at", "()I"⟩
/-- the words of M_at -/
abbrev w_M_at : List Cond := Cond.code y_M_at c_M_at 1 (some (.int)) :: zz_all
abbrev c_M_place : ByteArray := prog_9_method_33_code
abbrev y_M_place : MethodName := ⟨"SegmentTreesModel", "place", "()I"⟩
/-- the words of M_place -/
abbrev w_M_place : List Cond := Cond.code y_M_place c_M_place 1 (some (.int)) :: zz_all
abbrev c_M_word : ByteArray := prog_9_method_34_code
abbrev y_M_word : MethodName := ⟨"SegmentTreesModel", "word", "(I)I"⟩
/-- the words of M_word -/
abbrev w_M_word : List Cond := Cond.code y_M_word c_M_word 2 (some (.int)) :: zz_all
abbrev c_M_insert : ByteArray := prog_9_method_39_code
abbrev y_M_insert : MethodName := ⟨"SegmentTreesModel", "insert", "(I)I"⟩
/-- the words of M_insert -/
abbrev w_M_insert : List Cond := Cond.code y_M_insert c_M_insert 5 (some (.int)) :: zz_all
abbrev c_M_findParent : ByteArray := prog_9_method_36_code
abbrev y_M_findParent : MethodName := ⟨"SegmentTreesModel", "findParent", "(I)I"⟩
/-- the words of M_findParent -/
abbrev w_M_findParent : List Cond := Cond.code y_M_findParent c_M_findParent 4 (some (.int)) :: zz_all
abbrev c_M_isTaken : ByteArray := prog_9_method_37_code
abbrev y_M_isTaken : MethodName := ⟨"SegmentTreesModel", "isTaken", "(II)Z"⟩
/-- the words of M_isTaken -/
abbrev w_M_isTaken : List Cond := Cond.code y_M_isTaken c_M_isTaken 6 (some (.boolean)) :: zz_all
abbrev c_M_findTwin : ByteArray := prog_9_method_38_code
abbrev y_M_findTwin : MethodName := ⟨"SegmentTreesModel", "findTwin", "(I)I"⟩
/-- the words of M_findTwin -/
abbrev w_M_findTwin : List Cond := Cond.code y_M_findTwin c_M_findTwin 6 (some (.int)) :: zz_all
abbrev c_M_putWords : ByteArray := prog_9_method_35_code
abbrev y_M_putWords : MethodName := ⟨"SegmentTreesModel", "putWords", "(I)V"⟩
/-- the words of M_putWords -/
abbrev w_M_putWords : List Cond := Cond.code y_M_putWords c_M_putWords 3 (none) :: zz_all
abbrev c_M_replace : ByteArray := prog_9_method_40_code
abbrev y_M_replace : MethodName := ⟨"SegmentTreesModel", "replace", "()Z"⟩
/-- the words of M_replace -/
abbrev w_M_replace : List Cond := Cond.code y_M_replace c_M_replace 3 (some (.boolean)) :: zz_all
abbrev c_M_delete : ByteArray := prog_9_method_41_code
abbrev y_M_delete : MethodName := ⟨"SegmentTreesModel", "delete", "()I"⟩
/-- the words of M_delete -/
abbrev w_M_delete : List Cond := Cond.code y_M_delete c_M_delete 5 (some (.int)) :: zz_all
abbrev c_M_bySecond : ByteArray := prog_9_method_42_code
abbrev y_M_bySecond : MethodName := ⟨"SegmentTreesModel", "bySecond", "(Z)V"⟩
/-- the words of M_bySecond -/
abbrev w_M_bySecond : List Cond := Cond.code y_M_bySecond c_M_bySecond 2 (none) :: zz_all
abbrev c_M_count : ByteArray := prog_9_method_43_code
abbrev y_M_count : MethodName := ⟨"SegmentTreesModel", "count", "()I"⟩
/-- the words of M_count -/
abbrev w_M_count : List Cond := Cond.code y_M_count c_M_count 1 (some (.int)) :: zz_all
abbrev c_M_segment : ByteArray := prog_9_method_44_code
abbrev y_M_segment : MethodName := ⟨"SegmentTreesModel", "segment", "(II)I"⟩
/-- the words of M_segment -/
abbrev w_M_segment : List Cond := Cond.code y_M_segment c_M_segment 5 (some (.int)) :: zz_all
theorem ci_W_59 : zz_CI "SegmentTreesLaw" 59 0 y_T_init c_T_init 1 0 := ⟨⟨_, _, rfl⟩, zz_in (i := 52) (by decide +kernel) (by decide +kernel), zz_in (i := 53) (by decide +kernel) (by decide +kernel), zz_in (i := 35) (by decide +kernel) (by decide +kernel), zz_in (i := 54) (by decide +kernel) (by decide +kernel), rfl, by decide, by decide, by decide +kernel⟩
theorem ci_T_21 : zz_CI "SegmentTrees" 21 4 y_P_init c_P_init 2 0 := ⟨⟨_, _, rfl⟩, zz_in (i := 62) (by decide +kernel) (by decide +kernel), zz_in (i := 63) (by decide +kernel) (by decide +kernel), zz_in (i := 36) (by decide +kernel) (by decide +kernel), zz_in (i := 64) (by decide +kernel) (by decide +kernel), rfl, by decide, by decide, by decide +kernel⟩
theorem cn_P_17 : zz_CN "SegmentTrees$Path" 17 3 y_L_init "SegmentTrees" c_L_init 1 0 := ⟨⟨_, _, rfl⟩, zz_in (i := 69) (by decide +kernel) (by decide +kernel), zz_in (i := 70) (by decide +kernel) (by decide +kernel), zz_in (i := 37) (by decide +kernel) (by decide +kernel), zz_in (i := 71) (by decide +kernel) (by decide +kernel), rfl, by decide, by decide, by decide +kernel⟩
theorem gf_L_21 : zz_GF "SegmentTrees$PathLevel" 21 3 0 (some 1) false := ⟨_, _, _, rfl, by decide, zz_in (i := 73) (by decide +kernel) (by decide +kernel), rfl, rfl⟩
theorem gf_L_25 : zz_GF "SegmentTrees$PathLevel" 25 3 1 none false := ⟨_, _, _, rfl, by decide, zz_in (i := 74) (by decide +kernel) (by decide +kernel), rfl, rfl⟩
theorem gf_L_9 : zz_GF "SegmentTrees$PathLevel" 9 3 2 (some 90) true := ⟨_, _, _, rfl, by decide, zz_in (i := 75) (by decide +kernel) (by decide +kernel), rfl, rfl⟩
theorem gf_L_15 : zz_GF "SegmentTrees$PathLevel" 15 3 3 (some 90) true := ⟨_, _, _, rfl, by decide, zz_in (i := 76) (by decide +kernel) (by decide +kernel), rfl, rfl⟩
theorem gf_L_18 : zz_GF "SegmentTrees$PathLevel" 18 3 4 (some 90) true := ⟨_, _, _, rfl, by decide, zz_in (i := 77) (by decide +kernel) (by decide +kernel), rfl, rfl⟩
theorem gf_P_11 : zz_GF "SegmentTrees$Path" 11 4 0 (some 103) true := ⟨_, _, _, rfl, by decide, zz_in (i := 90) (by decide +kernel) (by decide +kernel), rfl, rfl⟩
theorem cn_T_28 : zz_CN "SegmentTrees" 28 5 y_O_init "SegmentTrees" c_O_init 1 0 := ⟨⟨_, _, rfl⟩, zz_in (i := 96) (by decide +kernel) (by decide +kernel), zz_in (i := 97) (by decide +kernel) (by decide +kernel), zz_in (i := 38) (by decide +kernel) (by decide +kernel), zz_in (i := 98) (by decide +kernel) (by decide +kernel), rfl, by decide, by decide, by decide +kernel⟩
theorem gf_O_11 : zz_GF "SegmentTrees$Order" 11 5 0 (some 102) true := ⟨_, _, _, rfl, by decide, zz_in (i := 102) (by decide +kernel) (by decide +kernel), rfl, rfl⟩
theorem gf_O_17 : zz_GF "SegmentTrees$Order" 17 5 1 (some 102) true := ⟨_, _, _, rfl, by decide, zz_in (i := 103) (by decide +kernel) (by decide +kernel), rfl, rfl⟩
theorem gf_O_35 : zz_GF "SegmentTrees$Order" 35 5 2 none false := ⟨_, _, _, rfl, by decide, zz_in (i := 104) (by decide +kernel) (by decide +kernel), rfl, rfl⟩
theorem gf_Q_26 : zz_GF "SegmentTrees$Position" 26 5 2 none false := ⟨_, _, _, rfl, by decide, zz_in (i := 105) (by decide +kernel) (by decide +kernel), rfl, rfl⟩
theorem gf_T_191 : zz_GF "SegmentTrees" 191 5 2 none false := ⟨_, _, _, rfl, by decide, zz_in (i := 106) (by decide +kernel) (by decide +kernel), rfl, rfl⟩
theorem gf_O_20 : zz_GF "SegmentTrees$Order" 20 5 3 (some 1) false := ⟨_, _, _, rfl, by decide, zz_in (i := 107) (by decide +kernel) (by decide +kernel), rfl, rfl⟩
theorem gf_O_24 : zz_GF "SegmentTrees$Order" 24 5 4 none false := ⟨_, _, _, rfl, by decide, zz_in (i := 108) (by decide +kernel) (by decide +kernel), rfl, rfl⟩
theorem gf_O_28 : zz_GF "SegmentTrees$Order" 28 5 5 none false := ⟨_, _, _, rfl, by decide, zz_in (i := 109) (by decide +kernel) (by decide +kernel), rfl, rfl⟩
theorem cn_T_35 : zz_CN "SegmentTrees" 35 6 y_Q_init "SegmentTrees" c_Q_init 1 0 := ⟨⟨_, _, rfl⟩, zz_in (i := 125) (by decide +kernel) (by decide +kernel), zz_in (i := 126) (by decide +kernel) (by decide +kernel), zz_in (i := 39) (by decide +kernel) (by decide +kernel), zz_in (i := 127) (by decide +kernel) (by decide +kernel), rfl, by decide, by decide, by decide +kernel⟩
theorem gf_Q_7 : zz_GF "SegmentTrees$Position" 7 6 0 (some 2) false := ⟨_, _, _, rfl, by decide, zz_in (i := 129) (by decide +kernel) (by decide +kernel), rfl, rfl⟩
theorem gf_Q_13 : zz_GF "SegmentTrees$Position" 13 6 1 none false := ⟨_, _, _, rfl, by decide, zz_in (i := 130) (by decide +kernel) (by decide +kernel), rfl, rfl⟩
theorem gf_Q_17 : zz_GF "SegmentTrees$Position" 17 6 2 none false := ⟨_, _, _, rfl, by decide, zz_in (i := 131) (by decide +kernel) (by decide +kernel), rfl, rfl⟩
theorem gf_T_11 : zz_GF "SegmentTrees" 11 0 0 (some 101) true := ⟨_, _, _, rfl, by decide, zz_in (i := 139) (by decide +kernel) (by decide +kernel), rfl, rfl⟩
theorem gf_T_15 : zz_GF "SegmentTrees" 15 0 1 (some 90) true := ⟨_, _, _, rfl, by decide, zz_in (i := 140) (by decide +kernel) (by decide +kernel), rfl, rfl⟩
theorem gf_T_22 : zz_GF "SegmentTrees" 22 0 2 (some 4) true := ⟨_, _, _, rfl, by decide, zz_in (i := 141) (by decide +kernel) (by decide +kernel), rfl, rfl⟩
theorem gf_T_29 : zz_GF "SegmentTrees" 29 0 3 (some 5) true := ⟨_, _, _, rfl, by decide, zz_in (i := 142) (by decide +kernel) (by decide +kernel), rfl, rfl⟩
theorem gf_T_36 : zz_GF "SegmentTrees" 36 0 4 (some 6) true := ⟨_, _, _, rfl, by decide, zz_in (i := 143) (by decide +kernel) (by decide +kernel), rfl, rfl⟩
theorem gf_T_40 : zz_GF "SegmentTrees" 40 0 5 (some 2) false := ⟨_, _, _, rfl, by decide, zz_in (i := 144) (by decide +kernel) (by decide +kernel), rfl, rfl⟩
theorem gf_T_145 : zz_GF "SegmentTrees" 145 0 6 (some 2) false := ⟨_, _, _, rfl, by decide, zz_in (i := 145) (by decide +kernel) (by decide +kernel), rfl, rfl⟩
theorem gf_T_194 : zz_GF "SegmentTrees" 194 0 7 none false := ⟨_, _, _, rfl, by decide, zz_in (i := 146) (by decide +kernel) (by decide +kernel), rfl, rfl⟩
theorem cv_W_79 : zz_CV "SegmentTreesLaw" 79 0 y_T_clearPath c_T_clearPath 1 (none) 0 := ⟨⟨_, _, rfl⟩, zz_in (i := 164) (by decide +kernel) (by decide +kernel), zz_in (i := 165) (by decide +kernel) (by decide +kernel), zz_in (i := 166) (by decide +kernel) (by decide +kernel), zz_in (i := 35) (by decide +kernel) (by decide +kernel), zz_in (i := 167) (by decide +kernel) (by decide +kernel), by decide, by decide, by decide +kernel⟩
theorem cv_T_118 : zz_CV "SegmentTrees" 118 4 y_P_forget c_P_forget 2 (none) 0 := ⟨⟨_, _, rfl⟩, zz_in (i := 168) (by decide +kernel) (by decide +kernel), zz_in (i := 169) (by decide +kernel) (by decide +kernel), zz_in (i := 170) (by decide +kernel) (by decide +kernel), zz_in (i := 36) (by decide +kernel) (by decide +kernel), zz_in (i := 171) (by decide +kernel) (by decide +kernel), by decide, by decide, by decide +kernel⟩
theorem cv_P_18 : zz_CV "SegmentTrees$Path" 18 3 y_L_forget c_L_forget 1 (none) 0 := ⟨⟨_, _, rfl⟩, zz_in (i := 172) (by decide +kernel) (by decide +kernel), zz_in (i := 173) (by decide +kernel) (by decide +kernel), zz_in (i := 174) (by decide +kernel) (by decide +kernel), zz_in (i := 37) (by decide +kernel) (by decide +kernel), zz_in (i := 175) (by decide +kernel) (by decide +kernel), by decide, by decide, by decide +kernel⟩
theorem cv_W_90 : zz_CV "SegmentTreesLaw" 90 0 y_T_unique c_T_unique 2 (some (.int)) 1 := ⟨⟨_, _, rfl⟩, zz_in (i := 176) (by decide +kernel) (by decide +kernel), zz_in (i := 177) (by decide +kernel) (by decide +kernel), zz_in (i := 178) (by decide +kernel) (by decide +kernel), zz_in (i := 35) (by decide +kernel) (by decide +kernel), zz_in (i := 179) (by decide +kernel) (by decide +kernel), by decide, by decide, by decide +kernel⟩
theorem cv_T_133 : zz_CV "SegmentTrees" 133 5 y_O_firstThatMeets c_O_firstThatMeets 5 (some ((.object "SegmentTrees$Segment"))) 3 := ⟨⟨_, _, rfl⟩, zz_in (i := 180) (by decide +kernel) (by decide +kernel), zz_in (i := 181) (by decide +kernel) (by decide +kernel), zz_in (i := 182) (by decide +kernel) (by decide +kernel), zz_in (i := 38) (by decide +kernel) (by decide +kernel), zz_in (i := 183) (by decide +kernel) (by decide +kernel), by decide, by decide, by decide +kernel⟩
theorem cv_O_41 : zz_CV "SegmentTrees$Order" 41 2 y_S_isBelow c_S_isBelow 2 (some (.boolean)) 1 := ⟨⟨_, _, rfl⟩, zz_in (i := 184) (by decide +kernel) (by decide +kernel), zz_in (i := 185) (by decide +kernel) (by decide +kernel), zz_in (i := 186) (by decide +kernel) (by decide +kernel), zz_in (i := 48) (by decide +kernel) (by decide +kernel), zz_in (i := 187) (by decide +kernel) (by decide +kernel), by decide, by decide, by decide +kernel⟩
theorem cv_S_52 : zz_CV "SegmentTrees$Segment" 52 2 y_S_isInTreeOf c_S_isInTreeOf 2 (some (.boolean)) 1 := ⟨⟨_, _, rfl⟩, zz_in (i := 188) (by decide +kernel) (by decide +kernel), zz_in (i := 189) (by decide +kernel) (by decide +kernel), zz_in (i := 190) (by decide +kernel) (by decide +kernel), zz_in (i := 48) (by decide +kernel) (by decide +kernel), zz_in (i := 191) (by decide +kernel) (by decide +kernel), by decide, by decide, by decide +kernel⟩
theorem cv_S_48 : zz_CV "SegmentTrees$Segment" 48 2 y_S_atLevel c_S_atLevel 4 (some ((.object "SegmentTrees$Segment"))) 1 := ⟨⟨_, _, rfl⟩, zz_in (i := 192) (by decide +kernel) (by decide +kernel), zz_in (i := 193) (by decide +kernel) (by decide +kernel), zz_in (i := 194) (by decide +kernel) (by decide +kernel), zz_in (i := 48) (by decide +kernel) (by decide +kernel), zz_in (i := 195) (by decide +kernel) (by decide +kernel), by decide, by decide, by decide +kernel⟩
theorem cv_O_45 : zz_CV "SegmentTrees$Order" 45 4 y_P_isMetBy c_P_isMetBy 3 (some (.boolean)) 1 := ⟨⟨_, _, rfl⟩, zz_in (i := 196) (by decide +kernel) (by decide +kernel), zz_in (i := 197) (by decide +kernel) (by decide +kernel), zz_in (i := 198) (by decide +kernel) (by decide +kernel), zz_in (i := 36) (by decide +kernel) (by decide +kernel), zz_in (i := 199) (by decide +kernel) (by decide +kernel), by decide, by decide, by decide +kernel⟩
theorem cv_P_35 : zz_CV "SegmentTrees$Path" 35 4 y_P_lowestStated c_P_lowestStated 2 (some (.int)) 0 := ⟨⟨_, _, rfl⟩, zz_in (i := 200) (by decide +kernel) (by decide +kernel), zz_in (i := 202) (by decide +kernel) (by decide +kernel), zz_in (i := 0) (by decide +kernel) (by decide +kernel), zz_in (i := 36) (by decide +kernel) (by decide +kernel), zz_in (i := 203) (by decide +kernel) (by decide +kernel), by decide, by decide, by decide +kernel⟩
theorem cv_P_49 : zz_CV "SegmentTrees$Path" 49 3 y_L_isStated c_L_isStated 1 (some (.boolean)) 0 := ⟨⟨_, _, rfl⟩, zz_in (i := 204) (by decide +kernel) (by decide +kernel), zz_in (i := 205) (by decide +kernel) (by decide +kernel), zz_in (i := 206) (by decide +kernel) (by decide +kernel), zz_in (i := 37) (by decide +kernel) (by decide +kernel), zz_in (i := 207) (by decide +kernel) (by decide +kernel), by decide, by decide, by decide +kernel⟩
theorem cv_P_45 : zz_CV "SegmentTrees$Path" 45 4 y_P_isMetDownTo c_P_isMetDownTo 5 (some (.boolean)) 2 := ⟨⟨_, _, rfl⟩, zz_in (i := 208) (by decide +kernel) (by decide +kernel), zz_in (i := 209) (by decide +kernel) (by decide +kernel), zz_in (i := 210) (by decide +kernel) (by decide +kernel), zz_in (i := 36) (by decide +kernel) (by decide +kernel), zz_in (i := 211) (by decide +kernel) (by decide +kernel), by decide, by decide, by decide +kernel⟩
theorem cv_P_53 : zz_CV "SegmentTrees$Path" 53 2 y_S_atLevel c_S_atLevel 4 (some ((.object "SegmentTrees$Segment"))) 1 := ⟨⟨_, _, rfl⟩, zz_in (i := 212) (by decide +kernel) (by decide +kernel), zz_in (i := 193) (by decide +kernel) (by decide +kernel), zz_in (i := 194) (by decide +kernel) (by decide +kernel), zz_in (i := 48) (by decide +kernel) (by decide +kernel), zz_in (i := 195) (by decide +kernel) (by decide +kernel), by decide, by decide, by decide +kernel⟩
theorem cv_P_57 : zz_CV "SegmentTrees$Path" 57 3 y_L_isMetBy c_L_isMetBy 3 (some (.boolean)) 1 := ⟨⟨_, _, rfl⟩, zz_in (i := 213) (by decide +kernel) (by decide +kernel), zz_in (i := 214) (by decide +kernel) (by decide +kernel), zz_in (i := 215) (by decide +kernel) (by decide +kernel), zz_in (i := 37) (by decide +kernel) (by decide +kernel), zz_in (i := 216) (by decide +kernel) (by decide +kernel), by decide, by decide, by decide +kernel⟩
theorem cs_L_37 : zz_CS "SegmentTrees$PathLevel" 37 y_L_compares c_L_compares 3 (some (.boolean)) 3 := ⟨zz_in (i := 217) (by decide +kernel) (by decide +kernel), zz_in (i := 218) (by decide +kernel) (by decide +kernel), zz_in (i := 37) (by decide +kernel) (by decide +kernel), zz_in (i := 219) (by decide +kernel) (by decide +kernel), rfl, by decide, by decide, by decide +kernel⟩
theorem cv_T_137 : zz_CV "SegmentTrees" 137 0 y_T_got c_T_got 3 (some (.int)) 2 := ⟨⟨_, _, rfl⟩, zz_in (i := 220) (by decide +kernel) (by decide +kernel), zz_in (i := 222) (by decide +kernel) (by decide +kernel), zz_in (i := 1) (by decide +kernel) (by decide +kernel), zz_in (i := 35) (by decide +kernel) (by decide +kernel), zz_in (i := 223) (by decide +kernel) (by decide +kernel), by decide, by decide, by decide +kernel⟩
theorem cv_T_211 : zz_CV "SegmentTrees" 211 6 y_Q_standAt c_Q_standAt 2 (none) 1 := ⟨⟨_, _, rfl⟩, zz_in (i := 224) (by decide +kernel) (by decide +kernel), zz_in (i := 225) (by decide +kernel) (by decide +kernel), zz_in (i := 226) (by decide +kernel) (by decide +kernel), zz_in (i := 39) (by decide +kernel) (by decide +kernel), zz_in (i := 227) (by decide +kernel) (by decide +kernel), by decide, by decide, by decide +kernel⟩
theorem cv_W_94 : zz_CV "SegmentTreesLaw" 94 0 y_T_next c_T_next 2 (some (.int)) 1 := ⟨⟨_, _, rfl⟩, zz_in (i := 228) (by decide +kernel) (by decide +kernel), zz_in (i := 229) (by decide +kernel) (by decide +kernel), zz_in (i := 230) (by decide +kernel) (by decide +kernel), zz_in (i := 35) (by decide +kernel) (by decide +kernel), zz_in (i := 231) (by decide +kernel) (by decide +kernel), by decide, by decide, by decide +kernel⟩
theorem cv_T_141 : zz_CV "SegmentTrees" 141 6 y_Q_firstBehind c_Q_firstBehind 2 (some (.int)) 1 := ⟨⟨_, _, rfl⟩, zz_in (i := 232) (by decide +kernel) (by decide +kernel), zz_in (i := 233) (by decide +kernel) (by decide +kernel), zz_in (i := 234) (by decide +kernel) (by decide +kernel), zz_in (i := 39) (by decide +kernel) (by decide +kernel), zz_in (i := 235) (by decide +kernel) (by decide +kernel), by decide, by decide, by decide +kernel⟩
theorem cv_Q_30 : zz_CV "SegmentTrees$Position" 30 6 y_Q_before c_Q_before 2 (some (.int)) 1 := ⟨⟨_, _, rfl⟩, zz_in (i := 236) (by decide +kernel) (by decide +kernel), zz_in (i := 237) (by decide +kernel) (by decide +kernel), zz_in (i := 238) (by decide +kernel) (by decide +kernel), zz_in (i := 39) (by decide +kernel) (by decide +kernel), zz_in (i := 239) (by decide +kernel) (by decide +kernel), by decide, by decide, by decide +kernel⟩
theorem cv_Q_20 : zz_CV "SegmentTrees$Position" 20 5 y_O_indexOf c_O_indexOf 3 (some (.int)) 1 := ⟨⟨_, _, rfl⟩, zz_in (i := 240) (by decide +kernel) (by decide +kernel), zz_in (i := 241) (by decide +kernel) (by decide +kernel), zz_in (i := 242) (by decide +kernel) (by decide +kernel), zz_in (i := 38) (by decide +kernel) (by decide +kernel), zz_in (i := 243) (by decide +kernel) (by decide +kernel), by decide, by decide, by decide +kernel⟩
theorem cv_W_106 : zz_CV "SegmentTreesLaw" 106 0 y_T_at c_T_at 1 (some (.int)) 0 := ⟨⟨_, _, rfl⟩, zz_in (i := 244) (by decide +kernel) (by decide +kernel), zz_in (i := 245) (by decide +kernel) (by decide +kernel), zz_in (i := 246) (by decide +kernel) (by decide +kernel), zz_in (i := 35) (by decide +kernel) (by decide +kernel), zz_in (i := 247) (by decide +kernel) (by decide +kernel), by decide, by decide, by decide +kernel⟩
theorem cv_T_150 : zz_CV "SegmentTrees" 150 6 y_Q_standing c_Q_standing 1 (some ((.object "SegmentTrees$Segment"))) 0 := ⟨⟨_, _, rfl⟩, zz_in (i := 248) (by decide +kernel) (by decide +kernel), zz_in (i := 249) (by decide +kernel) (by decide +kernel), zz_in (i := 250) (by decide +kernel) (by decide +kernel), zz_in (i := 39) (by decide +kernel) (by decide +kernel), zz_in (i := 251) (by decide +kernel) (by decide +kernel), by decide, by decide, by decide +kernel⟩
theorem cs_T_161 : zz_CS "SegmentTrees" 161 y_T_numberOf c_T_numberOf 1 (some (.int)) 1 := ⟨zz_in (i := 252) (by decide +kernel) (by decide +kernel), zz_in (i := 253) (by decide +kernel) (by decide +kernel), zz_in (i := 35) (by decide +kernel) (by decide +kernel), zz_in (i := 254) (by decide +kernel) (by decide +kernel), rfl, by decide, by decide, by decide +kernel⟩
theorem cv_W_110 : zz_CV "SegmentTreesLaw" 110 0 y_T_place c_T_place 1 (some (.int)) 0 := ⟨⟨_, _, rfl⟩, zz_in (i := 255) (by decide +kernel) (by decide +kernel), zz_in (i := 256) (by decide +kernel) (by decide +kernel), zz_in (i := 257) (by decide +kernel) (by decide +kernel), zz_in (i := 35) (by decide +kernel) (by decide +kernel), zz_in (i := 258) (by decide +kernel) (by decide +kernel), by decide, by decide, by decide +kernel⟩
theorem cv_T_165 : zz_CV "SegmentTrees" 165 6 y_Q_before c_Q_before 2 (some (.int)) 1 := ⟨⟨_, _, rfl⟩, zz_in (i := 259) (by decide +kernel) (by decide +kernel), zz_in (i := 237) (by decide +kernel) (by decide +kernel), zz_in (i := 238) (by decide +kernel) (by decide +kernel), zz_in (i := 39) (by decide +kernel) (by decide +kernel), zz_in (i := 239) (by decide +kernel) (by decide +kernel), by decide, by decide, by decide +kernel⟩
theorem cv_W_131 : zz_CV "SegmentTreesLaw" 131 0 y_T_count c_T_count 1 (some (.int)) 0 := ⟨⟨_, _, rfl⟩, zz_in (i := 260) (by decide +kernel) (by decide +kernel), zz_in (i := 261) (by decide +kernel) (by decide +kernel), zz_in (i := 262) (by decide +kernel) (by decide +kernel), zz_in (i := 35) (by decide +kernel) (by decide +kernel), zz_in (i := 263) (by decide +kernel) (by decide +kernel), by decide, by decide, by decide +kernel⟩
theorem cv_W_135 : zz_CV "SegmentTreesLaw" 135 0 y_T_segment c_T_segment 4 (some (.int)) 2 := ⟨⟨_, _, rfl⟩, zz_in (i := 264) (by decide +kernel) (by decide +kernel), zz_in (i := 265) (by decide +kernel) (by decide +kernel), zz_in (i := 266) (by decide +kernel) (by decide +kernel), zz_in (i := 35) (by decide +kernel) (by decide +kernel), zz_in (i := 267) (by decide +kernel) (by decide +kernel), by decide, by decide, by decide +kernel⟩
theorem cv_T_251 : zz_CV "SegmentTrees" 251 5 y_O_withNumber c_O_withNumber 3 (some ((.object "SegmentTrees$Segment"))) 1 := ⟨⟨_, _, rfl⟩, zz_in (i := 268) (by decide +kernel) (by decide +kernel), zz_in (i := 269) (by decide +kernel) (by decide +kernel), zz_in (i := 270) (by decide +kernel) (by decide +kernel), zz_in (i := 38) (by decide +kernel) (by decide +kernel), zz_in (i := 271) (by decide +kernel) (by decide +kernel), by decide, by decide, by decide +kernel⟩
theorem cs_T_260 : zz_CS "SegmentTrees" 260 y_T_wordAsked c_T_wordAsked 2 (some (.int)) 2 := ⟨zz_in (i := 272) (by decide +kernel) (by decide +kernel), zz_in (i := 273) (by decide +kernel) (by decide +kernel), zz_in (i := 35) (by decide +kernel) (by decide +kernel), zz_in (i := 274) (by decide +kernel) (by decide +kernel), rfl, by decide, by decide, by decide +kernel⟩
theorem cv_T_108 : zz_CV "SegmentTrees" 108 1 y_K_hasWord c_K_hasWord 2 (some (.boolean)) 1 := ⟨⟨_, _, rfl⟩, zz_in (i := 275) (by decide +kernel) (by decide +kernel), zz_in (i := 276) (by decide +kernel) (by decide +kernel), zz_in (i := 277) (by decide +kernel) (by decide +kernel), zz_in (i := 46) (by decide +kernel) (by decide +kernel), zz_in (i := 278) (by decide +kernel) (by decide +kernel), by decide, by decide, by decide +kernel⟩
theorem cv_W_7 : zz_CV "SegmentTreesLaw" 7 0 y_T_type c_T_type 8 (none) 6 := ⟨⟨_, _, rfl⟩, zz_in (i := 284) (by decide +kernel) (by decide +kernel), zz_in (i := 285) (by decide +kernel) (by decide +kernel), zz_in (i := 286) (by decide +kernel) (by decide +kernel), zz_in (i := 35) (by decide +kernel) (by decide +kernel), zz_in (i := 287) (by decide +kernel) (by decide +kernel), by decide, by decide, by decide +kernel⟩
theorem cv_T_51 : zz_CV "SegmentTrees" 51 0 y_T_kindOf c_T_kindOf 2 (some ((.object "SegmentTrees$Kind"))) 1 := ⟨⟨_, _, rfl⟩, zz_in (i := 356) (by decide +kernel) (by decide +kernel), zz_in (i := 358) (by decide +kernel) (by decide +kernel), zz_in (i := 3) (by decide +kernel) (by decide +kernel), zz_in (i := 35) (by decide +kernel) (by decide +kernel), zz_in (i := 359) (by decide +kernel) (by decide +kernel), by decide, by decide, by decide +kernel⟩
theorem cv_T_72 : zz_CV "SegmentTrees" 72 0 y_T_refuseAfterInsert c_T_refuseAfterInsert 1 (none) 0 := ⟨⟨_, _, rfl⟩, zz_in (i := 380) (by decide +kernel) (by decide +kernel), zz_in (i := 382) (by decide +kernel) (by decide +kernel), zz_in (i := 4) (by decide +kernel) (by decide +kernel), zz_in (i := 35) (by decide +kernel) (by decide +kernel), zz_in (i := 383) (by decide +kernel) (by decide +kernel), by decide, by decide, by decide +kernel⟩
theorem ci_T_75 : zz_CI "SegmentTrees" 75 1 y_K_init c_K_init 7 6 := ⟨⟨_, _, rfl⟩, zz_in (i := 386) (by decide +kernel) (by decide +kernel), zz_in (i := 387) (by decide +kernel) (by decide +kernel), zz_in (i := 46) (by decide +kernel) (by decide +kernel), zz_in (i := 388) (by decide +kernel) (by decide +kernel), rfl, by decide, by decide, by decide +kernel⟩
theorem gf_K_9 : zz_GF "SegmentTrees$Kind" 9 1 0 none true := ⟨_, _, _, rfl, by decide, zz_in (i := 390) (by decide +kernel) (by decide +kernel), rfl, rfl⟩
theorem gf_S_63 : zz_GF "SegmentTrees$Segment" 63 1 0 none true := ⟨_, _, _, rfl, by decide, zz_in (i := 391) (by decide +kernel) (by decide +kernel), rfl, rfl⟩
theorem gf_T_255 : zz_GF "SegmentTrees" 255 1 0 none true := ⟨_, _, _, rfl, by decide, zz_in (i := 392) (by decide +kernel) (by decide +kernel), rfl, rfl⟩
theorem gf_K_15 : zz_GF "SegmentTrees$Kind" 15 1 1 (some 1) true := ⟨_, _, _, rfl, by decide, zz_in (i := 393) (by decide +kernel) (by decide +kernel), rfl, rfl⟩
theorem gf_T_103 : zz_GF "SegmentTrees" 103 1 1 (some 1) true := ⟨_, _, _, rfl, by decide, zz_in (i := 394) (by decide +kernel) (by decide +kernel), rfl, rfl⟩
theorem gf_K_19 : zz_GF "SegmentTrees$Kind" 19 1 2 none true := ⟨_, _, _, rfl, by decide, zz_in (i := 395) (by decide +kernel) (by decide +kernel), rfl, rfl⟩
theorem gf_T_57 : zz_GF "SegmentTrees" 57 1 2 none true := ⟨_, _, _, rfl, by decide, zz_in (i := 396) (by decide +kernel) (by decide +kernel), rfl, rfl⟩
theorem gf_P_21 : zz_GF "SegmentTrees$Path" 21 1 2 none true := ⟨_, _, _, rfl, by decide, zz_in (i := 397) (by decide +kernel) (by decide +kernel), rfl, rfl⟩
theorem gf_S_45 : zz_GF "SegmentTrees$Segment" 45 1 2 none true := ⟨_, _, _, rfl, by decide, zz_in (i := 398) (by decide +kernel) (by decide +kernel), rfl, rfl⟩
theorem gf_O_53 : zz_GF "SegmentTrees$Order" 53 1 2 none true := ⟨_, _, _, rfl, by decide, zz_in (i := 399) (by decide +kernel) (by decide +kernel), rfl, rfl⟩
theorem gf_K_22 : zz_GF "SegmentTrees$Kind" 22 1 3 none true := ⟨_, _, _, rfl, by decide, zz_in (i := 400) (by decide +kernel) (by decide +kernel), rfl, rfl⟩
theorem gf_S_27 : zz_GF "SegmentTrees$Segment" 27 1 3 none true := ⟨_, _, _, rfl, by decide, zz_in (i := 401) (by decide +kernel) (by decide +kernel), rfl, rfl⟩
theorem gf_T_83 : zz_GF "SegmentTrees" 83 1 3 none true := ⟨_, _, _, rfl, by decide, zz_in (i := 402) (by decide +kernel) (by decide +kernel), rfl, rfl⟩
theorem gf_K_25 : zz_GF "SegmentTrees$Kind" 25 1 4 none true := ⟨_, _, _, rfl, by decide, zz_in (i := 403) (by decide +kernel) (by decide +kernel), rfl, rfl⟩
theorem gf_S_42 : zz_GF "SegmentTrees$Segment" 42 1 4 none true := ⟨_, _, _, rfl, by decide, zz_in (i := 404) (by decide +kernel) (by decide +kernel), rfl, rfl⟩
theorem gf_T_86 : zz_GF "SegmentTrees" 86 1 4 none true := ⟨_, _, _, rfl, by decide, zz_in (i := 405) (by decide +kernel) (by decide +kernel), rfl, rfl⟩
theorem gf_K_28 : zz_GF "SegmentTrees$Kind" 28 1 5 none true := ⟨_, _, _, rfl, by decide, zz_in (i := 406) (by decide +kernel) (by decide +kernel), rfl, rfl⟩
theorem gf_T_183 : zz_GF "SegmentTrees" 183 1 5 none true := ⟨_, _, _, rfl, by decide, zz_in (i := 407) (by decide +kernel) (by decide +kernel), rfl, rfl⟩
theorem gf_K_32 : zz_GF "SegmentTrees$Kind" 32 1 6 none true := ⟨_, _, _, rfl, by decide, zz_in (i := 408) (by decide +kernel) (by decide +kernel), rfl, rfl⟩
theorem gf_S_66 : zz_GF "SegmentTrees$Segment" 66 1 6 none true := ⟨_, _, _, rfl, by decide, zz_in (i := 409) (by decide +kernel) (by decide +kernel), rfl, rfl⟩
theorem gf_T_97 : zz_GF "SegmentTrees" 97 1 7 (some 1) false := ⟨_, _, _, rfl, by decide, zz_in (i := 410) (by decide +kernel) (by decide +kernel), rfl, rfl⟩
theorem gf_O_70 : zz_GF "SegmentTrees$Order" 70 1 7 (some 1) false := ⟨_, _, _, rfl, by decide, zz_in (i := 411) (by decide +kernel) (by decide +kernel), rfl, rfl⟩
theorem cv_W_17 : zz_CV "SegmentTreesLaw" 17 0 y_T_twins c_T_twins 5 (none) 2 := ⟨⟨_, _, rfl⟩, zz_in (i := 432) (by decide +kernel) (by decide +kernel), zz_in (i := 433) (by decide +kernel) (by decide +kernel), zz_in (i := 434) (by decide +kernel) (by decide +kernel), zz_in (i := 35) (by decide +kernel) (by decide +kernel), zz_in (i := 435) (by decide +kernel) (by decide +kernel), by decide, by decide, by decide +kernel⟩
theorem cv_T_78 : zz_CV "SegmentTrees" 78 0 y_T_declaredKind c_T_declaredKind 3 (some ((.object "SegmentTrees$Kind"))) 1 := ⟨⟨_, _, rfl⟩, zz_in (i := 436) (by decide +kernel) (by decide +kernel), zz_in (i := 438) (by decide +kernel) (by decide +kernel), zz_in (i := 5) (by decide +kernel) (by decide +kernel), zz_in (i := 35) (by decide +kernel) (by decide +kernel), zz_in (i := 439) (by decide +kernel) (by decide +kernel), by decide, by decide, by decide +kernel⟩
theorem cv_T_91 : zz_CV "SegmentTrees" 91 1 y_K_hasSequence c_K_hasSequence 1 (some (.boolean)) 0 := ⟨⟨_, _, rfl⟩, zz_in (i := 443) (by decide +kernel) (by decide +kernel), zz_in (i := 444) (by decide +kernel) (by decide +kernel), zz_in (i := 445) (by decide +kernel) (by decide +kernel), zz_in (i := 46) (by decide +kernel) (by decide +kernel), zz_in (i := 446) (by decide +kernel) (by decide +kernel), by decide, by decide, by decide +kernel⟩
theorem cv_W_21 : zz_CV "SegmentTreesLaw" 21 0 y_T_second c_T_second 4 (none) 2 := ⟨⟨_, _, rfl⟩, zz_in (i := 452) (by decide +kernel) (by decide +kernel), zz_in (i := 453) (by decide +kernel) (by decide +kernel), zz_in (i := 454) (by decide +kernel) (by decide +kernel), zz_in (i := 35) (by decide +kernel) (by decide +kernel), zz_in (i := 455) (by decide +kernel) (by decide +kernel), by decide, by decide, by decide +kernel⟩
theorem cv_T_114 : zz_CV "SegmentTrees" 114 5 y_O_nameSecond c_O_nameSecond 3 (none) 2 := ⟨⟨_, _, rfl⟩, zz_in (i := 458) (by decide +kernel) (by decide +kernel), zz_in (i := 459) (by decide +kernel) (by decide +kernel), zz_in (i := 460) (by decide +kernel) (by decide +kernel), zz_in (i := 38) (by decide +kernel) (by decide +kernel), zz_in (i := 461) (by decide +kernel) (by decide +kernel), by decide, by decide, by decide +kernel⟩
theorem cv_W_24 : zz_CV "SegmentTreesLaw" 24 0 y_T_path c_T_path 6 (some (.boolean)) 4 := ⟨⟨_, _, rfl⟩, zz_in (i := 465) (by decide +kernel) (by decide +kernel), zz_in (i := 466) (by decide +kernel) (by decide +kernel), zz_in (i := 467) (by decide +kernel) (by decide +kernel), zz_in (i := 35) (by decide +kernel) (by decide +kernel), zz_in (i := 468) (by decide +kernel) (by decide +kernel), by decide, by decide, by decide +kernel⟩
theorem cv_T_123 : zz_CV "SegmentTrees" 123 4 y_P_state c_P_state 2 (some (.boolean)) 1 := ⟨⟨_, _, rfl⟩, zz_in (i := 470) (by decide +kernel) (by decide +kernel), zz_in (i := 471) (by decide +kernel) (by decide +kernel), zz_in (i := 472) (by decide +kernel) (by decide +kernel), zz_in (i := 36) (by decide +kernel) (by decide +kernel), zz_in (i := 473) (by decide +kernel) (by decide +kernel), by decide, by decide, by decide +kernel⟩
theorem cv_P_27 : zz_CV "SegmentTrees$Path" 27 3 y_L_state c_L_state 2 (some (.boolean)) 1 := ⟨⟨_, _, rfl⟩, zz_in (i := 474) (by decide +kernel) (by decide +kernel), zz_in (i := 475) (by decide +kernel) (by decide +kernel), zz_in (i := 476) (by decide +kernel) (by decide +kernel), zz_in (i := 37) (by decide +kernel) (by decide +kernel), zz_in (i := 477) (by decide +kernel) (by decide +kernel), by decide, by decide, by decide +kernel⟩
theorem cv_T_127 : zz_CV "SegmentTrees" 127 4 y_P_addCondition c_P_addCondition 5 (some (.boolean)) 4 := ⟨⟨_, _, rfl⟩, zz_in (i := 478) (by decide +kernel) (by decide +kernel), zz_in (i := 479) (by decide +kernel) (by decide +kernel), zz_in (i := 480) (by decide +kernel) (by decide +kernel), zz_in (i := 36) (by decide +kernel) (by decide +kernel), zz_in (i := 481) (by decide +kernel) (by decide +kernel), by decide, by decide, by decide +kernel⟩
theorem cv_P_31 : zz_CV "SegmentTrees$Path" 31 3 y_L_addCondition c_L_addCondition 5 (some (.boolean)) 4 := ⟨⟨_, _, rfl⟩, zz_in (i := 482) (by decide +kernel) (by decide +kernel), zz_in (i := 483) (by decide +kernel) (by decide +kernel), zz_in (i := 484) (by decide +kernel) (by decide +kernel), zz_in (i := 37) (by decide +kernel) (by decide +kernel), zz_in (i := 485) (by decide +kernel) (by decide +kernel), by decide, by decide, by decide +kernel⟩
theorem cv_L_29 : zz_CV "SegmentTrees$PathLevel" 29 3 y_L_state c_L_state 2 (some (.boolean)) 1 := ⟨⟨_, _, rfl⟩, zz_in (i := 486) (by decide +kernel) (by decide +kernel), zz_in (i := 475) (by decide +kernel) (by decide +kernel), zz_in (i := 476) (by decide +kernel) (by decide +kernel), zz_in (i := 37) (by decide +kernel) (by decide +kernel), zz_in (i := 477) (by decide +kernel) (by decide +kernel), by decide, by decide, by decide +kernel⟩
theorem cv_W_28 : zz_CV "SegmentTreesLaw" 28 0 y_T_work c_T_work 3 (none) 2 := ⟨⟨_, _, rfl⟩, zz_in (i := 490) (by decide +kernel) (by decide +kernel), zz_in (i := 491) (by decide +kernel) (by decide +kernel), zz_in (i := 492) (by decide +kernel) (by decide +kernel), zz_in (i := 35) (by decide +kernel) (by decide +kernel), zz_in (i := 493) (by decide +kernel) (by decide +kernel), by decide, by decide, by decide +kernel⟩
theorem cv_W_31 : zz_CV "SegmentTreesLaw" 31 0 y_T_within c_T_within 2 (some (.int)) 1 := ⟨⟨_, _, rfl⟩, zz_in (i := 498) (by decide +kernel) (by decide +kernel), zz_in (i := 499) (by decide +kernel) (by decide +kernel), zz_in (i := 500) (by decide +kernel) (by decide +kernel), zz_in (i := 35) (by decide +kernel) (by decide +kernel), zz_in (i := 501) (by decide +kernel) (by decide +kernel), by decide, by decide, by decide +kernel⟩
theorem cv_W_35 : zz_CV "SegmentTreesLaw" 35 0 y_T_fix c_T_fix 2 (some (.int)) 0 := ⟨⟨_, _, rfl⟩, zz_in (i := 506) (by decide +kernel) (by decide +kernel), zz_in (i := 507) (by decide +kernel) (by decide +kernel), zz_in (i := 508) (by decide +kernel) (by decide +kernel), zz_in (i := 35) (by decide +kernel) (by decide +kernel), zz_in (i := 509) (by decide +kernel) (by decide +kernel), by decide, by decide, by decide +kernel⟩
theorem cv_W_39 : zz_CV "SegmentTreesLaw" 39 0 y_T_word c_T_word 3 (some (.int)) 1 := ⟨⟨_, _, rfl⟩, zz_in (i := 515) (by decide +kernel) (by decide +kernel), zz_in (i := 516) (by decide +kernel) (by decide +kernel), zz_in (i := 517) (by decide +kernel) (by decide +kernel), zz_in (i := 35) (by decide +kernel) (by decide +kernel), zz_in (i := 518) (by decide +kernel) (by decide +kernel), by decide, by decide, by decide +kernel⟩
theorem cv_W_45 : zz_CV "SegmentTreesLaw" 45 0 y_T_insert c_T_insert 5 (some (.int)) 1 := ⟨⟨_, _, rfl⟩, zz_in (i := 538) (by decide +kernel) (by decide +kernel), zz_in (i := 539) (by decide +kernel) (by decide +kernel), zz_in (i := 540) (by decide +kernel) (by decide +kernel), zz_in (i := 35) (by decide +kernel) (by decide +kernel), zz_in (i := 541) (by decide +kernel) (by decide +kernel), by decide, by decide, by decide +kernel⟩
theorem cv_T_179 : zz_CV "SegmentTrees" 179 5 y_O_firstParent c_O_firstParent 4 (some ((.object "SegmentTrees$Segment"))) 2 := ⟨⟨_, _, rfl⟩, zz_in (i := 542) (by decide +kernel) (by decide +kernel), zz_in (i := 543) (by decide +kernel) (by decide +kernel), zz_in (i := 544) (by decide +kernel) (by decide +kernel), zz_in (i := 38) (by decide +kernel) (by decide +kernel), zz_in (i := 545) (by decide +kernel) (by decide +kernel), by decide, by decide, by decide +kernel⟩
theorem cv_O_58 : zz_CV "SegmentTrees$Order" 58 4 y_P_isMetDownTo c_P_isMetDownTo 5 (some (.boolean)) 2 := ⟨⟨_, _, rfl⟩, zz_in (i := 546) (by decide +kernel) (by decide +kernel), zz_in (i := 209) (by decide +kernel) (by decide +kernel), zz_in (i := 210) (by decide +kernel) (by decide +kernel), zz_in (i := 36) (by decide +kernel) (by decide +kernel), zz_in (i := 211) (by decide +kernel) (by decide +kernel), by decide, by decide, by decide +kernel⟩
theorem cv_T_187 : zz_CV "SegmentTrees" 187 5 y_O_hasSibling c_O_hasSibling 6 (some (.boolean)) 3 := ⟨⟨_, _, rfl⟩, zz_in (i := 547) (by decide +kernel) (by decide +kernel), zz_in (i := 548) (by decide +kernel) (by decide +kernel), zz_in (i := 549) (by decide +kernel) (by decide +kernel), zz_in (i := 38) (by decide +kernel) (by decide +kernel), zz_in (i := 550) (by decide +kernel) (by decide +kernel), by decide, by decide, by decide +kernel⟩
theorem cv_O_66 : zz_CV "SegmentTrees$Order" 66 2 y_S_hasSequenceOf c_S_hasSequenceOf 2 (some (.boolean)) 1 := ⟨⟨_, _, rfl⟩, zz_in (i := 551) (by decide +kernel) (by decide +kernel), zz_in (i := 552) (by decide +kernel) (by decide +kernel), zz_in (i := 553) (by decide +kernel) (by decide +kernel), zz_in (i := 48) (by decide +kernel) (by decide +kernel), zz_in (i := 554) (by decide +kernel) (by decide +kernel), by decide, by decide, by decide +kernel⟩
theorem cv_S_38 : zz_CV "SegmentTrees$Segment" 38 1 y_K_hasSequence c_K_hasSequence 1 (some (.boolean)) 0 := ⟨⟨_, _, rfl⟩, zz_in (i := 555) (by decide +kernel) (by decide +kernel), zz_in (i := 444) (by decide +kernel) (by decide +kernel), zz_in (i := 445) (by decide +kernel) (by decide +kernel), zz_in (i := 46) (by decide +kernel) (by decide +kernel), zz_in (i := 446) (by decide +kernel) (by decide +kernel), by decide, by decide, by decide +kernel⟩
theorem ci_T_197 : zz_CI "SegmentTrees" 197 2 y_S_init c_S_init 4 3 := ⟨⟨_, _, rfl⟩, zz_in (i := 558) (by decide +kernel) (by decide +kernel), zz_in (i := 559) (by decide +kernel) (by decide +kernel), zz_in (i := 48) (by decide +kernel) (by decide +kernel), zz_in (i := 560) (by decide +kernel) (by decide +kernel), rfl, by decide, by decide, by decide +kernel⟩
theorem gf_S_15 : zz_GF "SegmentTrees$Segment" 15 2 0 none true := ⟨_, _, _, rfl, by decide, zz_in (i := 562) (by decide +kernel) (by decide +kernel), rfl, rfl⟩
theorem gf_O_38 : zz_GF "SegmentTrees$Order" 38 2 0 none true := ⟨_, _, _, rfl, by decide, zz_in (i := 563) (by decide +kernel) (by decide +kernel), rfl, rfl⟩
theorem gf_T_156 : zz_GF "SegmentTrees" 156 2 0 none true := ⟨_, _, _, rfl, by decide, zz_in (i := 564) (by decide +kernel) (by decide +kernel), rfl, rfl⟩
theorem gf_S_19 : zz_GF "SegmentTrees$Segment" 19 2 1 (some 1) true := ⟨_, _, _, rfl, by decide, zz_in (i := 565) (by decide +kernel) (by decide +kernel), rfl, rfl⟩
theorem gf_P_39 : zz_GF "SegmentTrees$Path" 39 2 1 (some 1) true := ⟨_, _, _, rfl, by decide, zz_in (i := 566) (by decide +kernel) (by decide +kernel), rfl, rfl⟩
theorem gf_L_33 : zz_GF "SegmentTrees$PathLevel" 33 2 1 (some 1) true := ⟨_, _, _, rfl, by decide, zz_in (i := 567) (by decide +kernel) (by decide +kernel), rfl, rfl⟩
theorem gf_O_50 : zz_GF "SegmentTrees$Order" 50 2 1 (some 1) true := ⟨_, _, _, rfl, by decide, zz_in (i := 568) (by decide +kernel) (by decide +kernel), rfl, rfl⟩
theorem gf_T_168 : zz_GF "SegmentTrees" 168 2 1 (some 1) true := ⟨_, _, _, rfl, by decide, zz_in (i := 569) (by decide +kernel) (by decide +kernel), rfl, rfl⟩
theorem gf_S_23 : zz_GF "SegmentTrees$Segment" 23 2 2 (some 2) true := ⟨_, _, _, rfl, by decide, zz_in (i := 570) (by decide +kernel) (by decide +kernel), rfl, rfl⟩
theorem gf_O_62 : zz_GF "SegmentTrees$Order" 62 2 2 (some 2) true := ⟨_, _, _, rfl, by decide, zz_in (i := 571) (by decide +kernel) (by decide +kernel), rfl, rfl⟩
theorem gf_T_258 : zz_GF "SegmentTrees" 258 2 2 (some 2) true := ⟨_, _, _, rfl, by decide, zz_in (i := 572) (by decide +kernel) (by decide +kernel), rfl, rfl⟩
theorem gf_S_9 : zz_GF "SegmentTrees$Segment" 9 2 3 (some 90) true := ⟨_, _, _, rfl, by decide, zz_in (i := 573) (by decide +kernel) (by decide +kernel), rfl, rfl⟩
theorem gf_L_36 : zz_GF "SegmentTrees$PathLevel" 36 2 3 (some 90) true := ⟨_, _, _, rfl, by decide, zz_in (i := 574) (by decide +kernel) (by decide +kernel), rfl, rfl⟩
theorem gf_O_75 : zz_GF "SegmentTrees$Order" 75 2 3 (some 90) true := ⟨_, _, _, rfl, by decide, zz_in (i := 575) (by decide +kernel) (by decide +kernel), rfl, rfl⟩
theorem gf_T_176 : zz_GF "SegmentTrees" 176 2 3 (some 90) true := ⟨_, _, _, rfl, by decide, zz_in (i := 576) (by decide +kernel) (by decide +kernel), rfl, rfl⟩
theorem gf_O_73 : zz_GF "SegmentTrees$Order" 73 2 4 (some 2) false := ⟨_, _, _, rfl, by decide, zz_in (i := 577) (by decide +kernel) (by decide +kernel), rfl, rfl⟩
theorem gf_T_220 : zz_GF "SegmentTrees" 220 2 4 (some 2) false := ⟨_, _, _, rfl, by decide, zz_in (i := 578) (by decide +kernel) (by decide +kernel), rfl, rfl⟩
theorem gf_S_56 : zz_GF "SegmentTrees$Segment" 56 2 5 none false := ⟨_, _, _, rfl, by decide, zz_in (i := 579) (by decide +kernel) (by decide +kernel), rfl, rfl⟩
theorem gf_S_60 : zz_GF "SegmentTrees$Segment" 60 2 6 none false := ⟨_, _, _, rfl, by decide, zz_in (i := 580) (by decide +kernel) (by decide +kernel), rfl, rfl⟩
theorem cv_T_200 : zz_CV "SegmentTrees" 200 2 y_S_takeWords c_S_takeWords 2 (none) 1 := ⟨⟨_, _, rfl⟩, zz_in (i := 596) (by decide +kernel) (by decide +kernel), zz_in (i := 597) (by decide +kernel) (by decide +kernel), zz_in (i := 598) (by decide +kernel) (by decide +kernel), zz_in (i := 48) (by decide +kernel) (by decide +kernel), zz_in (i := 599) (by decide +kernel) (by decide +kernel), by decide, by decide, by decide +kernel⟩
theorem cv_T_204 : zz_CV "SegmentTrees" 204 0 y_T_joinTwin c_T_joinTwin 3 (none) 1 := ⟨⟨_, _, rfl⟩, zz_in (i := 603) (by decide +kernel) (by decide +kernel), zz_in (i := 605) (by decide +kernel) (by decide +kernel), zz_in (i := 6) (by decide +kernel) (by decide +kernel), zz_in (i := 35) (by decide +kernel) (by decide +kernel), zz_in (i := 606) (by decide +kernel) (by decide +kernel), by decide, by decide, by decide +kernel⟩
theorem cv_T_268 : zz_CV "SegmentTrees" 268 5 y_O_freeTwinFor c_O_freeTwinFor 5 (some ((.object "SegmentTrees$Segment"))) 1 := ⟨⟨_, _, rfl⟩, zz_in (i := 607) (by decide +kernel) (by decide +kernel), zz_in (i := 608) (by decide +kernel) (by decide +kernel), zz_in (i := 609) (by decide +kernel) (by decide +kernel), zz_in (i := 38) (by decide +kernel) (by decide +kernel), zz_in (i := 610) (by decide +kernel) (by decide +kernel), by decide, by decide, by decide +kernel⟩
theorem cv_T_208 : zz_CV "SegmentTrees" 208 5 y_O_enter c_O_enter 4 (none) 1 := ⟨⟨_, _, rfl⟩, zz_in (i := 611) (by decide +kernel) (by decide +kernel), zz_in (i := 612) (by decide +kernel) (by decide +kernel), zz_in (i := 613) (by decide +kernel) (by decide +kernel), zz_in (i := 38) (by decide +kernel) (by decide +kernel), zz_in (i := 614) (by decide +kernel) (by decide +kernel), by decide, by decide, by decide +kernel⟩
theorem cv_O_79 : zz_CV "SegmentTrees$Order" 79 5 y_O_entryOf c_O_entryOf 5 (some (.int)) 1 := ⟨⟨_, _, rfl⟩, zz_in (i := 615) (by decide +kernel) (by decide +kernel), zz_in (i := 617) (by decide +kernel) (by decide +kernel), zz_in (i := 7) (by decide +kernel) (by decide +kernel), zz_in (i := 38) (by decide +kernel) (by decide +kernel), zz_in (i := 618) (by decide +kernel) (by decide +kernel), by decide, by decide, by decide +kernel⟩
theorem cv_O_83 : zz_CV "SegmentTrees$Order" 83 2 y_S_entersBefore c_S_entersBefore 4 (some (.boolean)) 1 := ⟨⟨_, _, rfl⟩, zz_in (i := 619) (by decide +kernel) (by decide +kernel), zz_in (i := 620) (by decide +kernel) (by decide +kernel), zz_in (i := 621) (by decide +kernel) (by decide +kernel), zz_in (i := 48) (by decide +kernel) (by decide +kernel), zz_in (i := 622) (by decide +kernel) (by decide +kernel), by decide, by decide, by decide +kernel⟩
theorem cv_O_86 : zz_CV "SegmentTrees$Order" 86 2 y_S_isInTreeOf c_S_isInTreeOf 2 (some (.boolean)) 1 := ⟨⟨_, _, rfl⟩, zz_in (i := 623) (by decide +kernel) (by decide +kernel), zz_in (i := 189) (by decide +kernel) (by decide +kernel), zz_in (i := 190) (by decide +kernel) (by decide +kernel), zz_in (i := 48) (by decide +kernel) (by decide +kernel), zz_in (i := 191) (by decide +kernel) (by decide +kernel), by decide, by decide, by decide +kernel⟩
theorem cv_O_32 : zz_CV "SegmentTrees$Order" 32 5 y_O_arrange c_O_arrange 1 (none) 0 := ⟨⟨_, _, rfl⟩, zz_in (i := 624) (by decide +kernel) (by decide +kernel), zz_in (i := 625) (by decide +kernel) (by decide +kernel), zz_in (i := 626) (by decide +kernel) (by decide +kernel), zz_in (i := 38) (by decide +kernel) (by decide +kernel), zz_in (i := 627) (by decide +kernel) (by decide +kernel), by decide, by decide, by decide +kernel⟩
theorem cv_O_98 : zz_CV "SegmentTrees$Order" 98 5 y_O_findValues c_O_findValues 4 (none) 0 := ⟨⟨_, _, rfl⟩, zz_in (i := 629) (by decide +kernel) (by decide +kernel), zz_in (i := 631) (by decide +kernel) (by decide +kernel), zz_in (i := 8) (by decide +kernel) (by decide +kernel), zz_in (i := 38) (by decide +kernel) (by decide +kernel), zz_in (i := 632) (by decide +kernel) (by decide +kernel), by decide, by decide, by decide +kernel⟩
theorem cv_O_109 : zz_CV "SegmentTrees$Order" 109 2 y_S_clearValue c_S_clearValue 1 (none) 0 := ⟨⟨_, _, rfl⟩, zz_in (i := 633) (by decide +kernel) (by decide +kernel), zz_in (i := 634) (by decide +kernel) (by decide +kernel), zz_in (i := 635) (by decide +kernel) (by decide +kernel), zz_in (i := 48) (by decide +kernel) (by decide +kernel), zz_in (i := 636) (by decide +kernel) (by decide +kernel), by decide, by decide, by decide +kernel⟩
theorem cv_O_112 : zz_CV "SegmentTrees$Order" 112 2 y_S_atLevel c_S_atLevel 4 (some ((.object "SegmentTrees$Segment"))) 1 := ⟨⟨_, _, rfl⟩, zz_in (i := 637) (by decide +kernel) (by decide +kernel), zz_in (i := 193) (by decide +kernel) (by decide +kernel), zz_in (i := 194) (by decide +kernel) (by decide +kernel), zz_in (i := 48) (by decide +kernel) (by decide +kernel), zz_in (i := 195) (by decide +kernel) (by decide +kernel), by decide, by decide, by decide +kernel⟩
theorem cv_O_116 : zz_CV "SegmentTrees$Order" 116 2 y_S_offerValue c_S_offerValue 2 (none) 1 := ⟨⟨_, _, rfl⟩, zz_in (i := 638) (by decide +kernel) (by decide +kernel), zz_in (i := 639) (by decide +kernel) (by decide +kernel), zz_in (i := 640) (by decide +kernel) (by decide +kernel), zz_in (i := 48) (by decide +kernel) (by decide +kernel), zz_in (i := 641) (by decide +kernel) (by decide +kernel), by decide, by decide, by decide +kernel⟩
theorem cv_O_101 : zz_CV "SegmentTrees$Order" 101 1 y_K_rootKind c_K_rootKind 3 (some ((.object "SegmentTrees$Kind"))) 0 := ⟨⟨_, _, rfl⟩, zz_in (i := 642) (by decide +kernel) (by decide +kernel), zz_in (i := 643) (by decide +kernel) (by decide +kernel), zz_in (i := 644) (by decide +kernel) (by decide +kernel), zz_in (i := 46) (by decide +kernel) (by decide +kernel), zz_in (i := 645) (by decide +kernel) (by decide +kernel), by decide, by decide, by decide +kernel⟩
theorem cv_O_105 : zz_CV "SegmentTrees$Order" 105 5 y_O_arrangeRoots c_O_arrangeRoots 5 (none) 1 := ⟨⟨_, _, rfl⟩, zz_in (i := 646) (by decide +kernel) (by decide +kernel), zz_in (i := 648) (by decide +kernel) (by decide +kernel), zz_in (i := 9) (by decide +kernel) (by decide +kernel), zz_in (i := 38) (by decide +kernel) (by decide +kernel), zz_in (i := 649) (by decide +kernel) (by decide +kernel), by decide, by decide, by decide +kernel⟩
theorem cv_O_120 : zz_CV "SegmentTrees$Order" 120 5 y_O_leastRootAfter c_O_leastRootAfter 6 (some (.int)) 2 := ⟨⟨_, _, rfl⟩, zz_in (i := 650) (by decide +kernel) (by decide +kernel), zz_in (i := 652) (by decide +kernel) (by decide +kernel), zz_in (i := 10) (by decide +kernel) (by decide +kernel), zz_in (i := 38) (by decide +kernel) (by decide +kernel), zz_in (i := 653) (by decide +kernel) (by decide +kernel), by decide, by decide, by decide +kernel⟩
theorem cv_O_128 : zz_CV "SegmentTrees$Order" 128 2 y_S_comesBeforeBySecond c_S_comesBeforeBySecond 2 (some (.boolean)) 1 := ⟨⟨_, _, rfl⟩, zz_in (i := 654) (by decide +kernel) (by decide +kernel), zz_in (i := 655) (by decide +kernel) (by decide +kernel), zz_in (i := 656) (by decide +kernel) (by decide +kernel), zz_in (i := 48) (by decide +kernel) (by decide +kernel), zz_in (i := 657) (by decide +kernel) (by decide +kernel), by decide, by decide, by decide +kernel⟩
theorem cv_O_124 : zz_CV "SegmentTrees$Order" 124 5 y_O_copyTree c_O_copyTree 6 (some (.int)) 2 := ⟨⟨_, _, rfl⟩, zz_in (i := 658) (by decide +kernel) (by decide +kernel), zz_in (i := 660) (by decide +kernel) (by decide +kernel), zz_in (i := 11) (by decide +kernel) (by decide +kernel), zz_in (i := 38) (by decide +kernel) (by decide +kernel), zz_in (i := 661) (by decide +kernel) (by decide +kernel), by decide, by decide, by decide +kernel⟩
theorem cv_W_48 : zz_CV "SegmentTreesLaw" 48 0 y_T_replace c_T_replace 2 (some (.boolean)) 0 := ⟨⟨_, _, rfl⟩, zz_in (i := 665) (by decide +kernel) (by decide +kernel), zz_in (i := 666) (by decide +kernel) (by decide +kernel), zz_in (i := 667) (by decide +kernel) (by decide +kernel), zz_in (i := 35) (by decide +kernel) (by decide +kernel), zz_in (i := 668) (by decide +kernel) (by decide +kernel), by decide, by decide, by decide +kernel⟩
theorem cv_T_216 : zz_CV "SegmentTrees" 216 2 y_S_hasSequenceOf c_S_hasSequenceOf 2 (some (.boolean)) 1 := ⟨⟨_, _, rfl⟩, zz_in (i := 670) (by decide +kernel) (by decide +kernel), zz_in (i := 552) (by decide +kernel) (by decide +kernel), zz_in (i := 553) (by decide +kernel) (by decide +kernel), zz_in (i := 48) (by decide +kernel) (by decide +kernel), zz_in (i := 554) (by decide +kernel) (by decide +kernel), by decide, by decide, by decide +kernel⟩
theorem cv_T_222 : zz_CV "SegmentTrees" 222 5 y_O_arrange c_O_arrange 1 (none) 0 := ⟨⟨_, _, rfl⟩, zz_in (i := 671) (by decide +kernel) (by decide +kernel), zz_in (i := 625) (by decide +kernel) (by decide +kernel), zz_in (i := 626) (by decide +kernel) (by decide +kernel), zz_in (i := 38) (by decide +kernel) (by decide +kernel), zz_in (i := 627) (by decide +kernel) (by decide +kernel), by decide, by decide, by decide +kernel⟩
theorem cv_W_52 : zz_CV "SegmentTreesLaw" 52 0 y_T_delete c_T_delete 4 (some (.int)) 0 := ⟨⟨_, _, rfl⟩, zz_in (i := 675) (by decide +kernel) (by decide +kernel), zz_in (i := 676) (by decide +kernel) (by decide +kernel), zz_in (i := 677) (by decide +kernel) (by decide +kernel), zz_in (i := 35) (by decide +kernel) (by decide +kernel), zz_in (i := 678) (by decide +kernel) (by decide +kernel), by decide, by decide, by decide +kernel⟩
theorem cv_T_225 : zz_CV "SegmentTrees" 225 5 y_O_firstBehindTree c_O_firstBehindTree 3 (some ((.object "SegmentTrees$Segment"))) 1 := ⟨⟨_, _, rfl⟩, zz_in (i := 679) (by decide +kernel) (by decide +kernel), zz_in (i := 680) (by decide +kernel) (by decide +kernel), zz_in (i := 681) (by decide +kernel) (by decide +kernel), zz_in (i := 38) (by decide +kernel) (by decide +kernel), zz_in (i := 682) (by decide +kernel) (by decide +kernel), by decide, by decide, by decide +kernel⟩
theorem cv_O_89 : zz_CV "SegmentTrees$Order" 89 5 y_O_indexOf c_O_indexOf 3 (some (.int)) 1 := ⟨⟨_, _, rfl⟩, zz_in (i := 683) (by decide +kernel) (by decide +kernel), zz_in (i := 241) (by decide +kernel) (by decide +kernel), zz_in (i := 242) (by decide +kernel) (by decide +kernel), zz_in (i := 38) (by decide +kernel) (by decide +kernel), zz_in (i := 243) (by decide +kernel) (by decide +kernel), by decide, by decide, by decide +kernel⟩
theorem cv_T_229 : zz_CV "SegmentTrees" 229 2 y_S_isInTreeOf c_S_isInTreeOf 2 (some (.boolean)) 1 := ⟨⟨_, _, rfl⟩, zz_in (i := 684) (by decide +kernel) (by decide +kernel), zz_in (i := 189) (by decide +kernel) (by decide +kernel), zz_in (i := 190) (by decide +kernel) (by decide +kernel), zz_in (i := 48) (by decide +kernel) (by decide +kernel), zz_in (i := 191) (by decide +kernel) (by decide +kernel), by decide, by decide, by decide +kernel⟩
theorem cv_T_233 : zz_CV "SegmentTrees" 233 5 y_O_removeTree c_O_removeTree 5 (some (.int)) 1 := ⟨⟨_, _, rfl⟩, zz_in (i := 685) (by decide +kernel) (by decide +kernel), zz_in (i := 686) (by decide +kernel) (by decide +kernel), zz_in (i := 687) (by decide +kernel) (by decide +kernel), zz_in (i := 38) (by decide +kernel) (by decide +kernel), zz_in (i := 688) (by decide +kernel) (by decide +kernel), by decide, by decide, by decide +kernel⟩
theorem cv_T_236 : zz_CV "SegmentTrees" 236 6 y_Q_standInFrontOf c_Q_standInFrontOf 2 (none) 1 := ⟨⟨_, _, rfl⟩, zz_in (i := 689) (by decide +kernel) (by decide +kernel), zz_in (i := 690) (by decide +kernel) (by decide +kernel), zz_in (i := 691) (by decide +kernel) (by decide +kernel), zz_in (i := 39) (by decide +kernel) (by decide +kernel), zz_in (i := 692) (by decide +kernel) (by decide +kernel), by decide, by decide, by decide +kernel⟩
theorem cv_W_55 : zz_CV "SegmentTreesLaw" 55 0 y_T_bySecond c_T_bySecond 2 (none) 1 := ⟨⟨_, _, rfl⟩, zz_in (i := 696) (by decide +kernel) (by decide +kernel), zz_in (i := 697) (by decide +kernel) (by decide +kernel), zz_in (i := 698) (by decide +kernel) (by decide +kernel), zz_in (i := 35) (by decide +kernel) (by decide +kernel), zz_in (i := 699) (by decide +kernel) (by decide +kernel), by decide, by decide, by decide +kernel⟩
theorem cv_T_239 : zz_CV "SegmentTrees" 239 5 y_O_hasSecond c_O_hasSecond 1 (some (.boolean)) 0 := ⟨⟨_, _, rfl⟩, zz_in (i := 700) (by decide +kernel) (by decide +kernel), zz_in (i := 701) (by decide +kernel) (by decide +kernel), zz_in (i := 702) (by decide +kernel) (by decide +kernel), zz_in (i := 38) (by decide +kernel) (by decide +kernel), zz_in (i := 703) (by decide +kernel) (by decide +kernel), by decide, by decide, by decide +kernel⟩
theorem cv_T_244 : zz_CV "SegmentTrees" 244 5 y_O_turnSecond c_O_turnSecond 2 (none) 1 := ⟨⟨_, _, rfl⟩, zz_in (i := 705) (by decide +kernel) (by decide +kernel), zz_in (i := 706) (by decide +kernel) (by decide +kernel), zz_in (i := 707) (by decide +kernel) (by decide +kernel), zz_in (i := 38) (by decide +kernel) (by decide +kernel), zz_in (i := 708) (by decide +kernel) (by decide +kernel), by decide, by decide, by decide +kernel⟩
theorem cv_T_248 : zz_CV "SegmentTrees" 248 6 y_Q_standInFrontOfAll c_Q_standInFrontOfAll 1 (none) 0 := ⟨⟨_, _, rfl⟩, zz_in (i := 709) (by decide +kernel) (by decide +kernel), zz_in (i := 710) (by decide +kernel) (by decide +kernel), zz_in (i := 711) (by decide +kernel) (by decide +kernel), zz_in (i := 39) (by decide +kernel) (by decide +kernel), zz_in (i := 712) (by decide +kernel) (by decide +kernel), by decide, by decide, by decide +kernel⟩
theorem ci_W_62 : zz_CI "SegmentTreesLaw" 62 7 y_M_init c_M_init 2 0 := ⟨⟨_, _, rfl⟩, zz_in (i := 715) (by decide +kernel) (by decide +kernel), zz_in (i := 716) (by decide +kernel) (by decide +kernel), zz_in (i := 40) (by decide +kernel) (by decide +kernel), zz_in (i := 717) (by decide +kernel) (by decide +kernel), rfl, by decide, by decide, by decide +kernel⟩
theorem gf_M_88 : zz_GF "SegmentTreesModel" 88 7 0 none false := ⟨_, _, _, rfl, by decide, zz_in (i := 719) (by decide +kernel) (by decide +kernel), rfl, rfl⟩
theorem gf_M_7 : zz_GF "SegmentTreesModel" 7 7 1 (some 91) true := ⟨_, _, _, rfl, by decide, zz_in (i := 720) (by decide +kernel) (by decide +kernel), rfl, rfl⟩
theorem gf_M_13 : zz_GF "SegmentTreesModel" 13 7 2 (some 90) true := ⟨_, _, _, rfl, by decide, zz_in (i := 721) (by decide +kernel) (by decide +kernel), rfl, rfl⟩
theorem gf_M_17 : zz_GF "SegmentTreesModel" 17 7 3 (some 90) true := ⟨_, _, _, rfl, by decide, zz_in (i := 722) (by decide +kernel) (by decide +kernel), rfl, rfl⟩
theorem gf_M_20 : zz_GF "SegmentTreesModel" 20 7 4 (some 90) true := ⟨_, _, _, rfl, by decide, zz_in (i := 723) (by decide +kernel) (by decide +kernel), rfl, rfl⟩
theorem gf_M_23 : zz_GF "SegmentTreesModel" 23 7 5 (some 90) true := ⟨_, _, _, rfl, by decide, zz_in (i := 724) (by decide +kernel) (by decide +kernel), rfl, rfl⟩
theorem gf_M_26 : zz_GF "SegmentTreesModel" 26 7 6 (some 91) true := ⟨_, _, _, rfl, by decide, zz_in (i := 725) (by decide +kernel) (by decide +kernel), rfl, rfl⟩
theorem gf_M_29 : zz_GF "SegmentTreesModel" 29 7 7 (some 91) true := ⟨_, _, _, rfl, by decide, zz_in (i := 726) (by decide +kernel) (by decide +kernel), rfl, rfl⟩
theorem gf_M_32 : zz_GF "SegmentTreesModel" 32 7 8 (some 90) true := ⟨_, _, _, rfl, by decide, zz_in (i := 727) (by decide +kernel) (by decide +kernel), rfl, rfl⟩
theorem gf_M_35 : zz_GF "SegmentTreesModel" 35 7 9 none false := ⟨_, _, _, rfl, by decide, zz_in (i := 728) (by decide +kernel) (by decide +kernel), rfl, rfl⟩
theorem gf_M_105 : zz_GF "SegmentTreesModel" 105 7 10 none false := ⟨_, _, _, rfl, by decide, zz_in (i := 729) (by decide +kernel) (by decide +kernel), rfl, rfl⟩
theorem gf_M_124 : zz_GF "SegmentTreesModel" 124 7 11 none false := ⟨_, _, _, rfl, by decide, zz_in (i := 730) (by decide +kernel) (by decide +kernel), rfl, rfl⟩
theorem gf_M_98 : zz_GF "SegmentTreesModel" 98 7 12 none false := ⟨_, _, _, rfl, by decide, zz_in (i := 731) (by decide +kernel) (by decide +kernel), rfl, rfl⟩
theorem gf_M_153 : zz_GF "SegmentTreesModel" 153 7 13 none false := ⟨_, _, _, rfl, by decide, zz_in (i := 732) (by decide +kernel) (by decide +kernel), rfl, rfl⟩
theorem gf_M_39 : zz_GF "SegmentTreesModel" 39 7 14 (some 90) true := ⟨_, _, _, rfl, by decide, zz_in (i := 733) (by decide +kernel) (by decide +kernel), rfl, rfl⟩
theorem gf_M_42 : zz_GF "SegmentTreesModel" 42 7 15 (some 90) true := ⟨_, _, _, rfl, by decide, zz_in (i := 734) (by decide +kernel) (by decide +kernel), rfl, rfl⟩
theorem gf_M_45 : zz_GF "SegmentTreesModel" 45 7 16 (some 90) true := ⟨_, _, _, rfl, by decide, zz_in (i := 735) (by decide +kernel) (by decide +kernel), rfl, rfl⟩
theorem gf_M_48 : zz_GF "SegmentTreesModel" 48 7 17 (some 90) true := ⟨_, _, _, rfl, by decide, zz_in (i := 736) (by decide +kernel) (by decide +kernel), rfl, rfl⟩
theorem gf_M_51 : zz_GF "SegmentTreesModel" 51 7 18 (some 90) true := ⟨_, _, _, rfl, by decide, zz_in (i := 737) (by decide +kernel) (by decide +kernel), rfl, rfl⟩
theorem gf_M_54 : zz_GF "SegmentTreesModel" 54 7 19 (some 90) true := ⟨_, _, _, rfl, by decide, zz_in (i := 738) (by decide +kernel) (by decide +kernel), rfl, rfl⟩
theorem gf_M_57 : zz_GF "SegmentTreesModel" 57 7 20 (some 92) true := ⟨_, _, _, rfl, by decide, zz_in (i := 739) (by decide +kernel) (by decide +kernel), rfl, rfl⟩
theorem gf_M_61 : zz_GF "SegmentTreesModel" 61 7 21 (some 91) true := ⟨_, _, _, rfl, by decide, zz_in (i := 740) (by decide +kernel) (by decide +kernel), rfl, rfl⟩
theorem gf_M_64 : zz_GF "SegmentTreesModel" 64 7 22 (some 90) true := ⟨_, _, _, rfl, by decide, zz_in (i := 741) (by decide +kernel) (by decide +kernel), rfl, rfl⟩
theorem gf_M_67 : zz_GF "SegmentTreesModel" 67 7 23 (some 90) true := ⟨_, _, _, rfl, by decide, zz_in (i := 742) (by decide +kernel) (by decide +kernel), rfl, rfl⟩
theorem gf_M_70 : zz_GF "SegmentTreesModel" 70 7 24 (some 90) true := ⟨_, _, _, rfl, by decide, zz_in (i := 743) (by decide +kernel) (by decide +kernel), rfl, rfl⟩
theorem gf_M_73 : zz_GF "SegmentTreesModel" 73 7 25 (some 90) true := ⟨_, _, _, rfl, by decide, zz_in (i := 744) (by decide +kernel) (by decide +kernel), rfl, rfl⟩
theorem gf_M_76 : zz_GF "SegmentTreesModel" 76 7 26 (some 90) true := ⟨_, _, _, rfl, by decide, zz_in (i := 745) (by decide +kernel) (by decide +kernel), rfl, rfl⟩
theorem gf_M_79 : zz_GF "SegmentTreesModel" 79 7 27 (some 90) true := ⟨_, _, _, rfl, by decide, zz_in (i := 746) (by decide +kernel) (by decide +kernel), rfl, rfl⟩
theorem gf_M_144 : zz_GF "SegmentTreesModel" 144 7 28 none false := ⟨_, _, _, rfl, by decide, zz_in (i := 747) (by decide +kernel) (by decide +kernel), rfl, rfl⟩
theorem gf_M_147 : zz_GF "SegmentTreesModel" 147 7 29 none false := ⟨_, _, _, rfl, by decide, zz_in (i := 748) (by decide +kernel) (by decide +kernel), rfl, rfl⟩
theorem gf_M_82 : zz_GF "SegmentTreesModel" 82 7 30 none false := ⟨_, _, _, rfl, by decide, zz_in (i := 749) (by decide +kernel) (by decide +kernel), rfl, rfl⟩
theorem gf_M_85 : zz_GF "SegmentTreesModel" 85 7 31 none false := ⟨_, _, _, rfl, by decide, zz_in (i := 750) (by decide +kernel) (by decide +kernel), rfl, rfl⟩
theorem cv_W_69 : zz_CV "SegmentTreesLaw" 69 7 y_M_thrown c_M_thrown 1 (some (.int)) 0 := ⟨⟨_, _, rfl⟩, zz_in (i := 818) (by decide +kernel) (by decide +kernel), zz_in (i := 819) (by decide +kernel) (by decide +kernel), zz_in (i := 820) (by decide +kernel) (by decide +kernel), zz_in (i := 40) (by decide +kernel) (by decide +kernel), zz_in (i := 821) (by decide +kernel) (by decide +kernel), by decide, by decide, by decide +kernel⟩
theorem cv_W_68 : zz_CV "SegmentTreesLaw" 68 7 y_M_type c_M_type 8 (none) 6 := ⟨⟨_, _, rfl⟩, zz_in (i := 822) (by decide +kernel) (by decide +kernel), zz_in (i := 823) (by decide +kernel) (by decide +kernel), zz_in (i := 824) (by decide +kernel) (by decide +kernel), zz_in (i := 40) (by decide +kernel) (by decide +kernel), zz_in (i := 825) (by decide +kernel) (by decide +kernel), by decide, by decide, by decide +kernel⟩
theorem cv_M_91 : zz_CV "SegmentTreesModel" 91 7 y_M_begin c_M_begin 1 (none) 0 := ⟨⟨_, _, rfl⟩, zz_in (i := 826) (by decide +kernel) (by decide +kernel), zz_in (i := 828) (by decide +kernel) (by decide +kernel), zz_in (i := 12) (by decide +kernel) (by decide +kernel), zz_in (i := 40) (by decide +kernel) (by decide +kernel), zz_in (i := 829) (by decide +kernel) (by decide +kernel), by decide, by decide, by decide +kernel⟩
theorem cv_M_94 : zz_CV "SegmentTreesModel" 94 7 y_M_isType c_M_isType 2 (some (.boolean)) 1 := ⟨⟨_, _, rfl⟩, zz_in (i := 830) (by decide +kernel) (by decide +kernel), zz_in (i := 832) (by decide +kernel) (by decide +kernel), zz_in (i := 13) (by decide +kernel) (by decide +kernel), zz_in (i := 40) (by decide +kernel) (by decide +kernel), zz_in (i := 833) (by decide +kernel) (by decide +kernel), by decide, by decide, by decide +kernel⟩
theorem cv_W_75 : zz_CV "SegmentTreesLaw" 75 7 y_M_twins c_M_twins 3 (none) 2 := ⟨⟨_, _, rfl⟩, zz_in (i := 834) (by decide +kernel) (by decide +kernel), zz_in (i := 835) (by decide +kernel) (by decide +kernel), zz_in (i := 836) (by decide +kernel) (by decide +kernel), zz_in (i := 40) (by decide +kernel) (by decide +kernel), zz_in (i := 837) (by decide +kernel) (by decide +kernel), by decide, by decide, by decide +kernel⟩
theorem cv_W_78 : zz_CV "SegmentTreesLaw" 78 7 y_M_second c_M_second 3 (none) 2 := ⟨⟨_, _, rfl⟩, zz_in (i := 838) (by decide +kernel) (by decide +kernel), zz_in (i := 839) (by decide +kernel) (by decide +kernel), zz_in (i := 840) (by decide +kernel) (by decide +kernel), zz_in (i := 40) (by decide +kernel) (by decide +kernel), zz_in (i := 841) (by decide +kernel) (by decide +kernel), by decide, by decide, by decide +kernel⟩
theorem cv_M_101 : zz_CV "SegmentTreesModel" 101 7 y_M_hasWord c_M_hasWord 3 (some (.boolean)) 2 := ⟨⟨_, _, rfl⟩, zz_in (i := 842) (by decide +kernel) (by decide +kernel), zz_in (i := 844) (by decide +kernel) (by decide +kernel), zz_in (i := 14) (by decide +kernel) (by decide +kernel), zz_in (i := 40) (by decide +kernel) (by decide +kernel), zz_in (i := 845) (by decide +kernel) (by decide +kernel), by decide, by decide, by decide +kernel⟩
theorem cv_W_82 : zz_CV "SegmentTreesLaw" 82 7 y_M_clearPath c_M_clearPath 2 (none) 0 := ⟨⟨_, _, rfl⟩, zz_in (i := 846) (by decide +kernel) (by decide +kernel), zz_in (i := 847) (by decide +kernel) (by decide +kernel), zz_in (i := 848) (by decide +kernel) (by decide +kernel), zz_in (i := 40) (by decide +kernel) (by decide +kernel), zz_in (i := 849) (by decide +kernel) (by decide +kernel), by decide, by decide, by decide +kernel⟩
theorem cv_W_86 : zz_CV "SegmentTreesLaw" 86 7 y_M_path c_M_path 7 (some (.boolean)) 4 := ⟨⟨_, _, rfl⟩, zz_in (i := 850) (by decide +kernel) (by decide +kernel), zz_in (i := 851) (by decide +kernel) (by decide +kernel), zz_in (i := 852) (by decide +kernel) (by decide +kernel), zz_in (i := 40) (by decide +kernel) (by decide +kernel), zz_in (i := 853) (by decide +kernel) (by decide +kernel), by decide, by decide, by decide +kernel⟩
theorem cv_W_89 : zz_CV "SegmentTreesLaw" 89 7 y_M_work c_M_work 3 (none) 2 := ⟨⟨_, _, rfl⟩, zz_in (i := 854) (by decide +kernel) (by decide +kernel), zz_in (i := 855) (by decide +kernel) (by decide +kernel), zz_in (i := 856) (by decide +kernel) (by decide +kernel), zz_in (i := 40) (by decide +kernel) (by decide +kernel), zz_in (i := 857) (by decide +kernel) (by decide +kernel), by decide, by decide, by decide +kernel⟩
theorem cv_W_93 : zz_CV "SegmentTreesLaw" 93 7 y_M_unique c_M_unique 2 (some (.int)) 1 := ⟨⟨_, _, rfl⟩, zz_in (i := 858) (by decide +kernel) (by decide +kernel), zz_in (i := 859) (by decide +kernel) (by decide +kernel), zz_in (i := 860) (by decide +kernel) (by decide +kernel), zz_in (i := 40) (by decide +kernel) (by decide +kernel), zz_in (i := 861) (by decide +kernel) (by decide +kernel), by decide, by decide, by decide +kernel⟩
theorem cv_M_162 : zz_CV "SegmentTreesModel" 162 7 y_M_sort c_M_sort 4 (none) 0 := ⟨⟨_, _, rfl⟩, zz_in (i := 862) (by decide +kernel) (by decide +kernel), zz_in (i := 864) (by decide +kernel) (by decide +kernel), zz_in (i := 15) (by decide +kernel) (by decide +kernel), zz_in (i := 40) (by decide +kernel) (by decide +kernel), zz_in (i := 865) (by decide +kernel) (by decide +kernel), by decide, by decide, by decide +kernel⟩
theorem cv_M_138 : zz_CV "SegmentTreesModel" 138 7 y_M_findValues c_M_findValues 5 (none) 0 := ⟨⟨_, _, rfl⟩, zz_in (i := 866) (by decide +kernel) (by decide +kernel), zz_in (i := 868) (by decide +kernel) (by decide +kernel), zz_in (i := 16) (by decide +kernel) (by decide +kernel), zz_in (i := 40) (by decide +kernel) (by decide +kernel), zz_in (i := 869) (by decide +kernel) (by decide +kernel), by decide, by decide, by decide +kernel⟩
theorem cv_M_120 : zz_CV "SegmentTreesModel" 120 7 y_M_rootOf c_M_rootOf 3 (some (.int)) 1 := ⟨⟨_, _, rfl⟩, zz_in (i := 871) (by decide +kernel) (by decide +kernel), zz_in (i := 873) (by decide +kernel) (by decide +kernel), zz_in (i := 17) (by decide +kernel) (by decide +kernel), zz_in (i := 40) (by decide +kernel) (by decide +kernel), zz_in (i := 874) (by decide +kernel) (by decide +kernel), by decide, by decide, by decide +kernel⟩
theorem cv_M_141 : zz_CV "SegmentTreesModel" 141 7 y_M_isFirst c_M_isFirst 8 (some (.boolean)) 2 := ⟨⟨_, _, rfl⟩, zz_in (i := 875) (by decide +kernel) (by decide +kernel), zz_in (i := 877) (by decide +kernel) (by decide +kernel), zz_in (i := 18) (by decide +kernel) (by decide +kernel), zz_in (i := 40) (by decide +kernel) (by decide +kernel), zz_in (i := 878) (by decide +kernel) (by decide +kernel), by decide, by decide, by decide +kernel⟩
theorem cv_M_131 : zz_CV "SegmentTreesModel" 131 7 y_M_atLevel c_M_atLevel 4 (some (.int)) 2 := ⟨⟨_, _, rfl⟩, zz_in (i := 879) (by decide +kernel) (by decide +kernel), zz_in (i := 881) (by decide +kernel) (by decide +kernel), zz_in (i := 19) (by decide +kernel) (by decide +kernel), zz_in (i := 40) (by decide +kernel) (by decide +kernel), zz_in (i := 882) (by decide +kernel) (by decide +kernel), by decide, by decide, by decide +kernel⟩
theorem cv_M_135 : zz_CV "SegmentTreesModel" 135 7 y_M_isSiblingFirst c_M_isSiblingFirst 5 (some (.boolean)) 2 := ⟨⟨_, _, rfl⟩, zz_in (i := 883) (by decide +kernel) (by decide +kernel), zz_in (i := 885) (by decide +kernel) (by decide +kernel), zz_in (i := 20) (by decide +kernel) (by decide +kernel), zz_in (i := 40) (by decide +kernel) (by decide +kernel), zz_in (i := 886) (by decide +kernel) (by decide +kernel), by decide, by decide, by decide +kernel⟩
theorem cv_M_128 : zz_CV "SegmentTreesModel" 128 7 y_M_rootType c_M_rootType 3 (some (.int)) 1 := ⟨⟨_, _, rfl⟩, zz_in (i := 887) (by decide +kernel) (by decide +kernel), zz_in (i := 889) (by decide +kernel) (by decide +kernel), zz_in (i := 21) (by decide +kernel) (by decide +kernel), zz_in (i := 40) (by decide +kernel) (by decide +kernel), zz_in (i := 890) (by decide +kernel) (by decide +kernel), by decide, by decide, by decide +kernel⟩
theorem cv_M_165 : zz_CV "SegmentTreesModel" 165 7 y_M_get c_M_get 6 (some (.int)) 3 := ⟨⟨_, _, rfl⟩, zz_in (i := 891) (by decide +kernel) (by decide +kernel), zz_in (i := 893) (by decide +kernel) (by decide +kernel), zz_in (i := 22) (by decide +kernel) (by decide +kernel), zz_in (i := 40) (by decide +kernel) (by decide +kernel), zz_in (i := 894) (by decide +kernel) (by decide +kernel), by decide, by decide, by decide +kernel⟩
theorem cv_M_156 : zz_CV "SegmentTreesModel" 156 7 y_M_isBelow c_M_isBelow 4 (some (.boolean)) 2 := ⟨⟨_, _, rfl⟩, zz_in (i := 895) (by decide +kernel) (by decide +kernel), zz_in (i := 897) (by decide +kernel) (by decide +kernel), zz_in (i := 23) (by decide +kernel) (by decide +kernel), zz_in (i := 40) (by decide +kernel) (by decide +kernel), zz_in (i := 898) (by decide +kernel) (by decide +kernel), by decide, by decide, by decide +kernel⟩
theorem cv_M_159 : zz_CV "SegmentTreesModel" 159 7 y_M_meets c_M_meets 4 (some (.boolean)) 1 := ⟨⟨_, _, rfl⟩, zz_in (i := 899) (by decide +kernel) (by decide +kernel), zz_in (i := 901) (by decide +kernel) (by decide +kernel), zz_in (i := 24) (by decide +kernel) (by decide +kernel), zz_in (i := 40) (by decide +kernel) (by decide +kernel), zz_in (i := 902) (by decide +kernel) (by decide +kernel), by decide, by decide, by decide +kernel⟩
theorem cv_M_115 : zz_CV "SegmentTreesModel" 115 7 y_M_fitsAbove c_M_fitsAbove 4 (some (.boolean)) 1 := ⟨⟨_, _, rfl⟩, zz_in (i := 903) (by decide +kernel) (by decide +kernel), zz_in (i := 905) (by decide +kernel) (by decide +kernel), zz_in (i := 25) (by decide +kernel) (by decide +kernel), zz_in (i := 40) (by decide +kernel) (by decide +kernel), zz_in (i := 906) (by decide +kernel) (by decide +kernel), by decide, by decide, by decide +kernel⟩
theorem cv_M_112 : zz_CV "SegmentTreesModel" 112 7 y_M_fits c_M_fits 5 (some (.boolean)) 1 := ⟨⟨_, _, rfl⟩, zz_in (i := 907) (by decide +kernel) (by decide +kernel), zz_in (i := 909) (by decide +kernel) (by decide +kernel), zz_in (i := 26) (by decide +kernel) (by decide +kernel), zz_in (i := 40) (by decide +kernel) (by decide +kernel), zz_in (i := 910) (by decide +kernel) (by decide +kernel), by decide, by decide, by decide +kernel⟩
theorem cs_M_108 : zz_CS "SegmentTreesModel" 108 y_M_holds c_M_holds 3 (some (.boolean)) 3 := ⟨zz_in (i := 911) (by decide +kernel) (by decide +kernel), zz_in (i := 912) (by decide +kernel) (by decide +kernel), zz_in (i := 40) (by decide +kernel) (by decide +kernel), zz_in (i := 913) (by decide +kernel) (by decide +kernel), rfl, by decide, by decide, by decide +kernel⟩
theorem cv_W_97 : zz_CV "SegmentTreesLaw" 97 7 y_M_next c_M_next 2 (some (.int)) 1 := ⟨⟨_, _, rfl⟩, zz_in (i := 914) (by decide +kernel) (by decide +kernel), zz_in (i := 915) (by decide +kernel) (by decide +kernel), zz_in (i := 916) (by decide +kernel) (by decide +kernel), zz_in (i := 40) (by decide +kernel) (by decide +kernel), zz_in (i := 917) (by decide +kernel) (by decide +kernel), by decide, by decide, by decide +kernel⟩
theorem cv_M_169 : zz_CV "SegmentTreesModel" 169 7 y_M_behind c_M_behind 1 (some (.int)) 0 := ⟨⟨_, _, rfl⟩, zz_in (i := 918) (by decide +kernel) (by decide +kernel), zz_in (i := 920) (by decide +kernel) (by decide +kernel), zz_in (i := 27) (by decide +kernel) (by decide +kernel), zz_in (i := 40) (by decide +kernel) (by decide +kernel), zz_in (i := 921) (by decide +kernel) (by decide +kernel), by decide, by decide, by decide +kernel⟩
theorem cv_M_150 : zz_CV "SegmentTreesModel" 150 7 y_M_indexOf c_M_indexOf 3 (some (.int)) 1 := ⟨⟨_, _, rfl⟩, zz_in (i := 922) (by decide +kernel) (by decide +kernel), zz_in (i := 924) (by decide +kernel) (by decide +kernel), zz_in (i := 28) (by decide +kernel) (by decide +kernel), zz_in (i := 40) (by decide +kernel) (by decide +kernel), zz_in (i := 925) (by decide +kernel) (by decide +kernel), by decide, by decide, by decide +kernel⟩
theorem cv_W_101 : zz_CV "SegmentTreesLaw" 101 7 y_M_within c_M_within 2 (some (.int)) 1 := ⟨⟨_, _, rfl⟩, zz_in (i := 926) (by decide +kernel) (by decide +kernel), zz_in (i := 927) (by decide +kernel) (by decide +kernel), zz_in (i := 928) (by decide +kernel) (by decide +kernel), zz_in (i := 40) (by decide +kernel) (by decide +kernel), zz_in (i := 929) (by decide +kernel) (by decide +kernel), by decide, by decide, by decide +kernel⟩
theorem cv_M_173 : zz_CV "SegmentTreesModel" 173 7 y_M_refuse c_M_refuse 2 (some (.int)) 1 := ⟨⟨_, _, rfl⟩, zz_in (i := 930) (by decide +kernel) (by decide +kernel), zz_in (i := 932) (by decide +kernel) (by decide +kernel), zz_in (i := 29) (by decide +kernel) (by decide +kernel), zz_in (i := 40) (by decide +kernel) (by decide +kernel), zz_in (i := 933) (by decide +kernel) (by decide +kernel), by decide, by decide, by decide +kernel⟩
theorem cv_W_105 : zz_CV "SegmentTreesLaw" 105 7 y_M_fix c_M_fix 1 (some (.int)) 0 := ⟨⟨_, _, rfl⟩, zz_in (i := 934) (by decide +kernel) (by decide +kernel), zz_in (i := 935) (by decide +kernel) (by decide +kernel), zz_in (i := 936) (by decide +kernel) (by decide +kernel), zz_in (i := 40) (by decide +kernel) (by decide +kernel), zz_in (i := 937) (by decide +kernel) (by decide +kernel), by decide, by decide, by decide +kernel⟩
theorem cv_W_109 : zz_CV "SegmentTreesLaw" 109 7 y_M_at c_M_at 1 (some (.int)) 0 := ⟨⟨_, _, rfl⟩, zz_in (i := 938) (by decide +kernel) (by decide +kernel), zz_in (i := 939) (by decide +kernel) (by decide +kernel), zz_in (i := 940) (by decide +kernel) (by decide +kernel), zz_in (i := 40) (by decide +kernel) (by decide +kernel), zz_in (i := 941) (by decide +kernel) (by decide +kernel), by decide, by decide, by decide +kernel⟩
theorem cv_W_113 : zz_CV "SegmentTreesLaw" 113 7 y_M_place c_M_place 1 (some (.int)) 0 := ⟨⟨_, _, rfl⟩, zz_in (i := 942) (by decide +kernel) (by decide +kernel), zz_in (i := 943) (by decide +kernel) (by decide +kernel), zz_in (i := 944) (by decide +kernel) (by decide +kernel), zz_in (i := 40) (by decide +kernel) (by decide +kernel), zz_in (i := 945) (by decide +kernel) (by decide +kernel), by decide, by decide, by decide +kernel⟩
theorem cv_W_117 : zz_CV "SegmentTreesLaw" 117 7 y_M_word c_M_word 2 (some (.int)) 1 := ⟨⟨_, _, rfl⟩, zz_in (i := 946) (by decide +kernel) (by decide +kernel), zz_in (i := 947) (by decide +kernel) (by decide +kernel), zz_in (i := 948) (by decide +kernel) (by decide +kernel), zz_in (i := 40) (by decide +kernel) (by decide +kernel), zz_in (i := 949) (by decide +kernel) (by decide +kernel), by decide, by decide, by decide +kernel⟩
theorem cv_W_120 : zz_CV "SegmentTreesLaw" 120 7 y_M_insert c_M_insert 5 (some (.int)) 1 := ⟨⟨_, _, rfl⟩, zz_in (i := 950) (by decide +kernel) (by decide +kernel), zz_in (i := 951) (by decide +kernel) (by decide +kernel), zz_in (i := 952) (by decide +kernel) (by decide +kernel), zz_in (i := 40) (by decide +kernel) (by decide +kernel), zz_in (i := 953) (by decide +kernel) (by decide +kernel), by decide, by decide, by decide +kernel⟩
theorem cv_M_176 : zz_CV "SegmentTreesModel" 176 7 y_M_findParent c_M_findParent 4 (some (.int)) 1 := ⟨⟨_, _, rfl⟩, zz_in (i := 954) (by decide +kernel) (by decide +kernel), zz_in (i := 956) (by decide +kernel) (by decide +kernel), zz_in (i := 30) (by decide +kernel) (by decide +kernel), zz_in (i := 40) (by decide +kernel) (by decide +kernel), zz_in (i := 957) (by decide +kernel) (by decide +kernel), by decide, by decide, by decide +kernel⟩
theorem cv_M_179 : zz_CV "SegmentTreesModel" 179 7 y_M_isTaken c_M_isTaken 6 (some (.boolean)) 2 := ⟨⟨_, _, rfl⟩, zz_in (i := 958) (by decide +kernel) (by decide +kernel), zz_in (i := 960) (by decide +kernel) (by decide +kernel), zz_in (i := 31) (by decide +kernel) (by decide +kernel), zz_in (i := 40) (by decide +kernel) (by decide +kernel), zz_in (i := 961) (by decide +kernel) (by decide +kernel), by decide, by decide, by decide +kernel⟩
theorem cv_M_182 : zz_CV "SegmentTreesModel" 182 7 y_M_findTwin c_M_findTwin 6 (some (.int)) 1 := ⟨⟨_, _, rfl⟩, zz_in (i := 962) (by decide +kernel) (by decide +kernel), zz_in (i := 964) (by decide +kernel) (by decide +kernel), zz_in (i := 32) (by decide +kernel) (by decide +kernel), zz_in (i := 40) (by decide +kernel) (by decide +kernel), zz_in (i := 965) (by decide +kernel) (by decide +kernel), by decide, by decide, by decide +kernel⟩
theorem cv_M_185 : zz_CV "SegmentTreesModel" 185 7 y_M_putWords c_M_putWords 3 (none) 1 := ⟨⟨_, _, rfl⟩, zz_in (i := 966) (by decide +kernel) (by decide +kernel), zz_in (i := 968) (by decide +kernel) (by decide +kernel), zz_in (i := 33) (by decide +kernel) (by decide +kernel), zz_in (i := 40) (by decide +kernel) (by decide +kernel), zz_in (i := 969) (by decide +kernel) (by decide +kernel), by decide, by decide, by decide +kernel⟩
theorem cv_W_123 : zz_CV "SegmentTreesLaw" 123 7 y_M_replace c_M_replace 3 (some (.boolean)) 0 := ⟨⟨_, _, rfl⟩, zz_in (i := 970) (by decide +kernel) (by decide +kernel), zz_in (i := 971) (by decide +kernel) (by decide +kernel), zz_in (i := 972) (by decide +kernel) (by decide +kernel), zz_in (i := 40) (by decide +kernel) (by decide +kernel), zz_in (i := 973) (by decide +kernel) (by decide +kernel), by decide, by decide, by decide +kernel⟩
theorem cv_W_126 : zz_CV "SegmentTreesLaw" 126 7 y_M_delete c_M_delete 5 (some (.int)) 0 := ⟨⟨_, _, rfl⟩, zz_in (i := 974) (by decide +kernel) (by decide +kernel), zz_in (i := 975) (by decide +kernel) (by decide +kernel), zz_in (i := 976) (by decide +kernel) (by decide +kernel), zz_in (i := 40) (by decide +kernel) (by decide +kernel), zz_in (i := 977) (by decide +kernel) (by decide +kernel), by decide, by decide, by decide +kernel⟩
theorem cv_W_130 : zz_CV "SegmentTreesLaw" 130 7 y_M_bySecond c_M_bySecond 2 (none) 1 := ⟨⟨_, _, rfl⟩, zz_in (i := 978) (by decide +kernel) (by decide +kernel), zz_in (i := 979) (by decide +kernel) (by decide +kernel), zz_in (i := 980) (by decide +kernel) (by decide +kernel), zz_in (i := 40) (by decide +kernel) (by decide +kernel), zz_in (i := 981) (by decide +kernel) (by decide +kernel), by decide, by decide, by decide +kernel⟩
theorem cv_W_134 : zz_CV "SegmentTreesLaw" 134 7 y_M_count c_M_count 1 (some (.int)) 0 := ⟨⟨_, _, rfl⟩, zz_in (i := 982) (by decide +kernel) (by decide +kernel), zz_in (i := 983) (by decide +kernel) (by decide +kernel), zz_in (i := 984) (by decide +kernel) (by decide +kernel), zz_in (i := 40) (by decide +kernel) (by decide +kernel), zz_in (i := 985) (by decide +kernel) (by decide +kernel), by decide, by decide, by decide +kernel⟩
theorem cv_W_139 : zz_CV "SegmentTreesLaw" 139 7 y_M_segment c_M_segment 5 (some (.int)) 2 := ⟨⟨_, _, rfl⟩, zz_in (i := 986) (by decide +kernel) (by decide +kernel), zz_in (i := 987) (by decide +kernel) (by decide +kernel), zz_in (i := 988) (by decide +kernel) (by decide +kernel), zz_in (i := 40) (by decide +kernel) (by decide +kernel), zz_in (i := 989) (by decide +kernel) (by decide +kernel), by decide, by decide, by decide +kernel⟩
theorem kl_W_8 : Cond.classLink "SegmentTreesLaw" 8 "SegmentTrees" ∈ zz_all := zz_in (i := 50) (by decide +kernel) (by decide +kernel)
theorem ol_T_1 : Cond.methodLink "SegmentTrees" 1 objectInit ∈ zz_all := zz_in (i := 55) (by decide +kernel) (by decide +kernel)
theorem kl_T_9 : Cond.classLink "SegmentTrees" 9 "SegmentTrees$Kind" ∈ zz_all := zz_in (i := 58) (by decide +kernel) (by decide +kernel)
theorem an_o_objectSegmentTreesKind : Cond.arrayOver (.object "SegmentTrees$Kind") ∈ zz_all := zz_in (i := 59) (by decide +kernel) (by decide +kernel)
theorem kl_T_19 : Cond.classLink "SegmentTrees" 19 "SegmentTrees$Path" ∈ zz_all := zz_in (i := 60) (by decide +kernel) (by decide +kernel)
theorem ol_P_3 : Cond.methodLink "SegmentTrees$Path" 3 objectInit ∈ zz_all := zz_in (i := 65) (by decide +kernel) (by decide +kernel)
theorem kl_P_9 : Cond.classLink "SegmentTrees$Path" 9 "SegmentTrees$PathLevel" ∈ zz_all := zz_in (i := 66) (by decide +kernel) (by decide +kernel)
theorem an_o_objectSegmentTreesPathLevel : Cond.arrayOver (.object "SegmentTrees$PathLevel") ∈ zz_all := zz_in (i := 67) (by decide +kernel) (by decide +kernel)
theorem ol_L_3 : Cond.methodLink "SegmentTrees$PathLevel" 3 objectInit ∈ zz_all := zz_in (i := 72) (by decide +kernel) (by decide +kernel)
theorem an_a_I : Cond.arrayClass .int ∈ zz_all := zz_in (i := 89) (by decide +kernel) (by decide +kernel)
theorem kl_T_26 : Cond.classLink "SegmentTrees" 26 "SegmentTrees$Order" ∈ zz_all := zz_in (i := 94) (by decide +kernel) (by decide +kernel)
theorem ol_O_3 : Cond.methodLink "SegmentTrees$Order" 3 objectInit ∈ zz_all := zz_in (i := 99) (by decide +kernel) (by decide +kernel)
theorem kl_O_9 : Cond.classLink "SegmentTrees$Order" 9 "SegmentTrees$Segment" ∈ zz_all := zz_in (i := 100) (by decide +kernel) (by decide +kernel)
theorem an_o_objectSegmentTreesSegment : Cond.arrayOver (.object "SegmentTrees$Segment") ∈ zz_all := zz_in (i := 101) (by decide +kernel) (by decide +kernel)
theorem kl_T_33 : Cond.classLink "SegmentTrees" 33 "SegmentTrees$Position" ∈ zz_all := zz_in (i := 123) (by decide +kernel) (by decide +kernel)
theorem ol_Q_1 : Cond.methodLink "SegmentTrees$Position" 1 objectInit ∈ zz_all := zz_in (i := 128) (by decide +kernel) (by decide +kernel)
theorem an_a_byte : Cond.arrayClass .byte ∈ zz_all := zz_in (i := 355) (by decide +kernel) (by decide +kernel)
theorem ol_K_3 : Cond.methodLink "SegmentTrees$Kind" 3 objectInit ∈ zz_all := zz_in (i := 389) (by decide +kernel) (by decide +kernel)
theorem kl_T_157 : Cond.classLink "SegmentTrees" 157 "SegmentTrees$Segment" ∈ zz_all := zz_in (i := 556) (by decide +kernel) (by decide +kernel)
theorem ol_S_3 : Cond.methodLink "SegmentTrees$Segment" 3 objectInit ∈ zz_all := zz_in (i := 561) (by decide +kernel) (by decide +kernel)
theorem al_S_32 : Cond.methodLink "SegmentTrees$Segment" 32 arraycopyName ∈ zz_all := zz_in (i := 600) (by decide +kernel) (by decide +kernel)
theorem al_O_92 : Cond.methodLink "SegmentTrees$Order" 92 arraycopyName ∈ zz_all := zz_in (i := 628) (by decide +kernel) (by decide +kernel)
theorem kl_W_60 : Cond.classLink "SegmentTreesLaw" 60 "SegmentTreesModel" ∈ zz_all := zz_in (i := 713) (by decide +kernel) (by decide +kernel)
theorem ol_M_1 : Cond.methodLink "SegmentTreesModel" 1 objectInit ∈ zz_all := zz_in (i := 718) (by decide +kernel) (by decide +kernel)
theorem an_a_B : Cond.arrayClass .boolean ∈ zz_all := zz_in (i := 816) (by decide +kernel) (by decide +kernel)
theorem an_a_L : Cond.arrayClass .long ∈ zz_all := zz_in (i := 817) (by decide +kernel) (by decide +kernel)
theorem lc_M_118 : Cond.constantLong "SegmentTreesModel" 118 (1099511627776 : Int64) ∈ zz_all := zz_in (i := 870) (by decide +kernel) (by decide +kernel)
theorem ni_T : Cond.instantiable "SegmentTrees" 8 ∈ zz_all := zz_in (i := 51) (by decide +kernel) (by decide +kernel)
theorem nj_T : Cond.initialized "SegmentTrees" ∈ zz_all := zz_in (i := 35) (by decide +kernel) (by decide +kernel)
theorem ni_K : Cond.instantiable "SegmentTrees$Kind" 8 ∈ zz_all := zz_in (i := 385) (by decide +kernel) (by decide +kernel)
theorem nj_K : Cond.initialized "SegmentTrees$Kind" ∈ zz_all := zz_in (i := 46) (by decide +kernel) (by decide +kernel)
theorem ni_S : Cond.instantiable "SegmentTrees$Segment" 7 ∈ zz_all := zz_in (i := 557) (by decide +kernel) (by decide +kernel)
theorem nj_S : Cond.initialized "SegmentTrees$Segment" ∈ zz_all := zz_in (i := 48) (by decide +kernel) (by decide +kernel)
theorem ni_L : Cond.instantiable "SegmentTrees$PathLevel" 5 ∈ zz_all := zz_in (i := 68) (by decide +kernel) (by decide +kernel)
theorem nj_L : Cond.initialized "SegmentTrees$PathLevel" ∈ zz_all := zz_in (i := 37) (by decide +kernel) (by decide +kernel)
theorem ni_P : Cond.instantiable "SegmentTrees$Path" 1 ∈ zz_all := zz_in (i := 61) (by decide +kernel) (by decide +kernel)
theorem nj_P : Cond.initialized "SegmentTrees$Path" ∈ zz_all := zz_in (i := 36) (by decide +kernel) (by decide +kernel)
theorem ni_O : Cond.instantiable "SegmentTrees$Order" 6 ∈ zz_all := zz_in (i := 95) (by decide +kernel) (by decide +kernel)
theorem nj_O : Cond.initialized "SegmentTrees$Order" ∈ zz_all := zz_in (i := 38) (by decide +kernel) (by decide +kernel)
theorem ni_Q : Cond.instantiable "SegmentTrees$Position" 3 ∈ zz_all := zz_in (i := 124) (by decide +kernel) (by decide +kernel)
theorem nj_Q : Cond.initialized "SegmentTrees$Position" ∈ zz_all := zz_in (i := 39) (by decide +kernel) (by decide +kernel)
theorem ni_M : Cond.instantiable "SegmentTreesModel" 32 ∈ zz_all := zz_in (i := 714) (by decide +kernel) (by decide +kernel)
theorem nj_M : Cond.initialized "SegmentTreesModel" ∈ zz_all := zz_in (i := 40) (by decide +kernel) (by decide +kernel)
theorem zw_oi : Cond.instanceMethod objectInit ∈ zz_all := zz_in (i := 56) (by decide +kernel) (by decide +kernel)
theorem zw_oc : Cond.code objectInit ⟨#[0xb1]⟩ 1 none ∈ zz_all := zz_in (i := 57) (by decide +kernel) (by decide +kernel)
theorem zw_an : Cond.native arraycopyName ∈ zz_all := zz_in (i := 602) (by decide +kernel) (by decide +kernel)
theorem zw_as : Cond.static arraycopyName ∈ zz_all := zz_in (i := 601) (by decide +kernel) (by decide +kernel)
theorem zw_ai : Cond.initialized "java/lang/System" ∈ zz_all := zz_in (i := 49) (by decide +kernel) (by decide +kernel)
