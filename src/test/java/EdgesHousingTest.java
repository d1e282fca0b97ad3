import java.util.function.Supplier;

/** Edges of promises 6 to 10, sentence by sentence: costs, housing, steps, the least cost. */
public final class EdgesHousingTest {
    public static void main(String[] args) {
        yearsApart();
        tongues();
        shyOnes();
        barred();
        allOfIt();
        costCabins();
        costOfNone();
        houseBeds();
        houseOf24();
        houseOfNobody();
        houseForgets();
        houseOfSeveral();
        refusedHouse();
        noStep();
        stepByFive();
        stepByOne();
        stepByNothing();
        stepsOfShyOnes();
        exchangesOfShyOnes();
        stepOfThoseInNone();
        stepToFreeBeds();
        stepOrder();
        stepByLeast();
        stepsOften();
        manySteps();
        leastOfSeven();
        leastBeds();
        leastOfFew();
        leastOfShyOnes();
        leastIsTold();
        Check.finish("EdgesHousingTest");
    }

    private static TongueCamp inOne(int[]... children) {
        TongueCamp x = Check.camp(children);
        x.cabin(8);
        for (int i = 0; i < children.length; i++) {
            x.lie(i, 0);
        }
        return x;
    }

    private static void lies(TongueCamp x, int... cabins) {
        for (int i = 0; i < cabins.length; i++) {
            Check.due("lie(" + i + ", " + cabins[i] + ")", x.lie(i, cabins[i]), true);
        }
    }

    private static void told(String what, TongueCamp x, int... cabins) {
        for (int i = 0; i < cabins.length; i++) {
            Check.due(what + ": cabin of " + i, x.tell(i, 3), cabins[i]);
        }
    }

    // Term 1, COST: "5 for each year above 2 that their AGES are apart"

    private static void yearsApart() {
        int[] due = {0, 0, 0, 5, 10, 15, 20, 25, 30, 35};
        for (int apart = 0; apart <= 9; apart++) {
            Check.due(apart + " years younger", inOne(Check.row(0, 8, 0), Check.row(1, 8 + apart, 0)).cost(0), due[apart]);
            Check.due(apart + " years older", inOne(Check.row(0, 17, 0), Check.row(1, 17 - apart, 0)).cost(0), due[apart]);
        }
    }

    // "30 if they have one TONGUE": of each two.

    private static void tongues() {
        for (int a = 0; a <= 5; a++) {
            for (int b = 0; b <= 5; b++) {
                Check.due("tongues " + a + ", " + b, inOne(Check.row(a, 9, 0), Check.row(b, 9, 0)).cost(0), a == b ? 30 : 0);
            }
        }
        Check.due("one of a tongue", inOne(Check.row(5, 9, 0)).cost(0), 0);
        Check.due("three of one", inOne(Check.row(5, 9, 0), Check.row(5, 9, 0), Check.row(5, 9, 0)).cost(0), 90);
    }

    // "12 for each SHY one that is the only SHY one there"

    private static void shyOnes() {
        int[] free = Check.row(0, 9, 0);
        Check.due("no shy one", inOne(free, Check.row(1, 9, 0), Check.row(2, 9, 0)).cost(0), 0);
        Check.due("one", inOne(free, Check.row(1, 9, 1), Check.row(2, 9, 0)).cost(0), 12);
        Check.due("two", inOne(free, Check.row(1, 9, 1), Check.row(2, 9, 1)).cost(0), 0);
        Check.due("three", inOne(Check.row(0, 9, 1), Check.row(1, 9, 1), Check.row(2, 9, 1)).cost(0), 0);
        Check.due("one all alone", inOne(Check.row(0, 9, 1)).cost(0), 12);
        TongueCamp x = inOne(Check.row(0, 9, 1), Check.row(1, 9, 1));
        x.cabin(1);
        x.lie(1, 1);
        Check.due("the only one here", x.cost(0), 12);
        Check.due("and there", x.cost(1), 12);
        Check.due("together", x.cost(-1), 24);
        x.lie(1, -1);
        Check.due("one in none is not there", x.cost(-1), 12);
    }

    // "300 if they are BARRED": only in one cabin, and only they.

    private static void barred() {
        TongueCamp x = inOne(Check.row(0, 9, 0), Check.row(1, 9, 0), Check.row(2, 9, 0));
        x.cabin(2);
        x.bar(2, 0);
        Check.due("two of three", x.cost(0), 300);
        x.bar(1, 2);
        Check.due("two pairs", x.cost(0), 600);
        x.lie(2, 1);
        Check.due("in unlike cabins", x.cost(-1), 0);
        x.lie(0, -1);
        x.lie(2, -1);
        Check.due("both in none", x.cost(-1), 0);
    }

    private static void allOfIt() {
        TongueCamp x = inOne(Check.row(4, 8, 1), Check.row(4, 17, 0));
        x.bar(0, 1);
        Check.due("one tongue, barred, far apart, one shy", x.cost(0), 30 + 300 + 35 + 12);
        TongueCamp y = new TongueCamp();
        for (int i = 0; i < 24; i++) {
            y.child(0, 10, false);
        }
        for (int i = 0; i < 3; i++) {
            y.cabin(8);
        }
        y.house();
        Check.due("three times eight of one tongue", y.cost(-1), 3 * 28 * 30);
        Check.due("of one of them", y.cost(2), 28 * 30);
    }

    // Promise 9: "COST of a CABIN, or (cabin NONE) of all. NONE if there is none such."

    private static void costCabins() {
        TongueCamp x = Check.camp(Check.row(0, 9, 1), Check.row(1, 9, 0));
        x.cabin(1);
        x.cabin(2);
        lies(x, 1);
        Check.due("cost(0)", x.cost(0), 0);
        Check.due("cost(1)", x.cost(1), 12);
        Check.due("cost(-1)", x.cost(-1), 12);
        int[] none = {-3, -2, 2, 3, 6, Integer.MIN_VALUE, Integer.MAX_VALUE};
        for (int cabin : none) {
            Check.due("cost(" + cabin + ")", x.cost(cabin), -1);
        }
        Refused.none("cost of no cabin", Camps::rich, y -> y.cost(3));
        Refused.none("cost(-2)", Camps::rich, y -> y.cost(-2));
        Refused.answers("cost(1)", 12, Camps::rich, y -> y.cost(1));
    }

    private static void costOfNone() {
        Check.due("no cabins: cost(-1)", new TongueCamp().cost(-1), 0);
        Check.due("no cabins: cost(0)", new TongueCamp().cost(0), -1);
        TongueCamp x = Check.camp(Check.row(0, 8, 1), Check.row(0, 17, 0));
        x.bar(0, 1);
        Check.due("all in none, no cabins", x.cost(-1), 0);
        x.cabin(2);
        Check.due("all in none", x.cost(-1), 0);
        Check.due("an empty cabin", x.cost(0), 0);
    }

    // Promise 6: "All CHILDREN are HOUSED: COST. NONE: there are fewer BEDS than CHILDREN."

    private static void houseBeds() {
        TongueCamp x = Camps.cabins(4, 1, 2);
        Check.due("4 children, 3 beds", x.house(), -1);
        told("not housed", x, -1, -1, -1, -1);
        x.cabin(1);
        Check.due("4 children, 4 beds", x.house(), 0);
        told("4 beds", x, 0, 1, 1, 2);
        TongueCamp y = Camps.cabins(4, 1, 2, 2);
        Check.due("4 children, 5 beds", y.house(), 0);
        told("5 beds", y, 0, 1, 1, 2);
        y.child(5, 10, false);
        Check.due("5 children, 5 beds", y.house(), 0);
        told("5 children", y, 0, 1, 1, 2, 2);
        y.child(5, 10, false);
        Check.due("6 children, 5 beds", y.house(), -1);
        told("6 children", y, 0, 1, 1, 2, 2, -1);
    }

    private static void houseOf24() {
        Check.due("24 children, 23 beds", Camps.cabins(24, 8, 8, 7).house(), -1);
        // Tongues 0 .. 5 four times over: the first 18 cost nothing, each cabin has two of two tongues then.
        TongueCamp x = Camps.cabins(24, 8, 8, 8);
        Check.due("24 children, 24 beds", x.house(), 180);
        Check.due("24 beds: all lie", x.count(9), 24);
        Check.due("24 beds: the last lies in the last", x.tell(23, 3), 2);
        TongueCamp y = Camps.cabins(24, 8, 8, 8, 1);
        Check.due("24 children, 25 beds", y.house(), 150);
        Check.due("25 beds: the 19th lies alone", y.tell(18, 3), 3);
        TongueCamp z = Camps.cabins(24, 4, 4, 4, 4, 4, 4);
        Check.due("six cabins of four", z.house(), 0);
        Check.due("six cabins: the last lies in the last", z.tell(23, 3), 5);
    }

    private static void houseOfNobody() {
        Check.due("nobody, no cabin", new TongueCamp().house(), 0);
        Check.due("nobody", Camps.cabins(0, 1).house(), 0);
        Check.due("one child, no cabin", Camps.children(1).house(), -1);
        Check.due("one child, one bed", Camps.cabins(1, 1).house(), 0);
    }

    /** "nobody lies anywhere; then": it is no matter where they lay. */
    private static void houseForgets() {
        TongueCamp x = Camps.cabins(3, 1, 1, 2);
        lies(x, 2, 0, 1);
        Check.due("housed anew", x.house(), 0);
        told("housed anew", x, 0, 1, 2);
        TongueCamp y = Check.camp(Check.row(0, 9, 0), Check.row(0, 9, 0));
        y.cabin(1);
        y.cabin(1);
        lies(y, 1, 0);
        y.house();
        told("over again", y, 0, 1);
    }

    /** "by which COST is least then, of several the least" */
    private static void houseOfSeveral() {
        TongueCamp x = Check.camp(Check.row(0, 9, 0), Check.row(0, 9, 0), Check.row(0, 9, 0), Check.row(0, 9, 0));
        x.cabin(2);
        x.cabin(2);
        Check.due("alike", x.house(), 60);
        told("alike", x, 0, 1, 0, 1);
        // To a shy one: 35 for the years, less 12 for being two, is 23; alone it would be 12.
        TongueCamp y = Check.camp(Check.row(0, 8, 1), Check.row(1, 17, 1));
        y.cabin(2);
        y.cabin(1);
        Check.due("shy ones, far apart in years", y.house(), 24);
        told("shy ones, far apart in years", y, 0, 1);
        // 5 years: 15 less 12 is 3.
        TongueCamp z = Check.camp(Check.row(0, 8, 1), Check.row(1, 13, 1));
        z.cabin(2);
        z.cabin(1);
        Check.due("shy ones, not as far", z.house(), 15);
        told("shy ones, not as far", z, 0, 0);
        // The third makes the first one less lonely, though the second, who isn't shy, came between.
        TongueCamp v = Check.camp(Check.row(0, 10, 1), Check.row(1, 13, 0), Check.row(2, 10, 1));
        v.cabin(3);
        v.cabin(3);
        v.lie(0, 1);
        Check.due("shy ones, one between", v.house(), 0);
        told("shy ones, one between", v, 0, 1, 0);
        TongueCamp u = Check.camp(Check.row(0, 10, 1), Check.row(1, 11, 0), Check.row(2, 8, 1));
        u.cabin(3);
        u.cabin(3);
        Check.due("three years from the one between", u.house(), 5);
        told("three years from the one between", u, 0, 0, 0);
        // A barred one goes to the bed behind, too.
        TongueCamp w = Camps.cabins(2, 2, 1);
        w.bar(0, 1);
        Check.due("barred", w.house(), 0);
        told("barred", w, 0, 1);
    }

    private static void refusedHouse() {
        Refused.none("house(), a bed too few", () -> {
            TongueCamp x = Camps.cabins(4, 2, 1);
            lies(x, 1, 0, 0);
            return x;
        }, TongueCamp::house);
        Refused.none("house(), no cabin", () -> Camps.children(3), TongueCamp::house);
    }

    // Promise 7: "A STEP: by how much COST is less; 0: none is done."

    private static void noStep() {
        Check.due("nobody", new TongueCamp().step(), 0);
        Check.due("no cabin", Camps.children(2).step(), 0);
        Check.due("all in none", Camps.cabins(3, 3, 1).step(), 0);
        Refused.answers("a step where none is less", 0, () -> {
            TongueCamp x = Camps.cabins(4, 2, 2, 1);
            lies(x, 0, 0, 1, 1);
            return x;
        }, TongueCamp::step);
    }

    /** "it is done if COST is less by it": 5 is the least that it can be less, 0 is none. */
    private static void stepByFive() {
        TongueCamp x = Check.camp(Check.row(0, 8, 0), Check.row(1, 11, 0));
        x.cabin(2);
        x.cabin(1);
        lies(x, 0, 0);
        Check.due("less by 5", x.step(), 5);
        told("less by 5", x, 1, 0);
        Check.due("and by no more", x.step(), 0);
        TongueCamp y = Check.camp(Check.row(0, 8, 0), Check.row(1, 10, 0));
        y.cabin(2);
        y.cabin(1);
        lies(y, 0, 0);
        Check.due("nothing to be less", y.step(), 0);
        told("nothing to be less", y, 0, 0);
    }

    /** Two shy ones, so many years apart, of cabins of two beds and of one. */
    private static TongueCamp shyTwo(int apart, int first) {
        TongueCamp x = Check.camp(Check.row(0, 8, 1), Check.row(1, 8 + apart, 1));
        x.cabin(2);
        x.cabin(1);
        lies(x, first, 0);
        return x;
    }

    /** Of years 25, of two lonely ones 24: less by 1. */
    private static void stepByOne() {
        TongueCamp x = shyTwo(7, 0);
        Check.due("apart is 1 less than 7 years", x.step(), 1);
        told("apart", x, 1, 0);
        Check.due("better() by 1", shyTwo(7, 0).better(), 1);
        Check.due("7 years, apart as they are", shyTwo(7, 1).step(), 0);
        Check.due("6 years, together as they are", shyTwo(6, 0).step(), 0);
        TongueCamp y = shyTwo(6, 1);
        Check.due("together is 4 less than apart", y.step(), 4);
        told("together", y, 0, 0);
        Check.due("better() by 4", shyTwo(6, 1).better(), 1);
    }

    private static void stepByNothing() {
        // 0 and 1 cost 5 in cabin 0; with 2, who is as old as 1 and of its tongue, 0 would cost 5, and 1 would 30.
        TongueCamp x = Check.camp(Check.row(0, 10, 0), Check.row(1, 13, 0), Check.row(1, 13, 0));
        x.cabin(2);
        x.cabin(2);
        lies(x, 0, 0, 1);
        Check.due("no less by moving 0", x.step(), 0);
        told("no less", x, 0, 0, 1);
        Check.due("cost stays", x.cost(-1), 5);
        // Two shy ones apart and no free bed: an exchange leaves them apart.
        TongueCamp y = Check.camp(Check.row(0, 10, 1), Check.row(1, 10, 1));
        y.cabin(1);
        y.cabin(1);
        lies(y, 0, 1);
        Check.due("lonely both ways", y.step(), 0);
        told("lonely both ways", y, 0, 1);
    }

    /** A camp of children of given tongues, some shy, all of one age, and where they lie; then the step that is due. */
    private static void shyStep(String what, int due, String tongues, String shy, String from, String to, int... beds) {
        TongueCamp x = new TongueCamp();
        for (int b : beds) {
            x.cabin(b);
        }
        for (int i = 0; i < tongues.length(); i++) {
            x.child(tongues.charAt(i) - '0', 10, shy.charAt(i) == 's');
            x.lie(i, from.charAt(i) - '0');
        }
        int before = x.cost(-1);
        Check.due(what, x.step(), due);
        for (int i = 0; i < tongues.length(); i++) {
            Check.due(what + ": cabin of " + i, x.tell(i, 3), to.charAt(i) - '0');
        }
        Check.due(what + ": cost", x.cost(-1), before - due);
    }

    /** "12 for each SHY one that is the only SHY one there", where one moves: out of one, two, three, to none, one, two. */
    private static void stepsOfShyOnes() {
        shyStep("the only one moves", 30, "00", "s.", "00", "10", 2, 1);
        shyStep("the other moves", 30, "00", ".s", "00", "10", 2, 1);
        shyStep("one of two moves", 6, "00", "ss", "00", "10", 2, 1);
        shyStep("one of three moves", 18, "001", "sss", "000", "100", 3, 1);
        shyStep("one of four moves", 18, "0012", "ssss", "0000", "1000", 4, 1);
        shyStep("who isn't shy moves, not one of two", 30, "010", "ss.", "000", "001", 3, 1);
        shyStep("one comes to one", 24, "01", "ss", "01", "11", 1, 2);
        shyStep("one comes to two", 12, "012", "sss", "011", "111", 1, 3);
        shyStep("one of two comes to none", 0, "01", "ss", "00", "00", 2, 2);
        shyStep("who isn't shy comes to none", 0, "01", "s.", "01", "01", 2, 2);
        shyStep("one of three to one", 12, "0123", "ssss", "0001", "1001", 3, 2);
        shyStep("three and none", 0, "0123", "sss.", "0001", "0001", 3, 2);
    }

    private static void exchangesOfShyOnes() {
        shyStep("one and one: 0 and 3", 24, "0123", "s.s.", "0011", "1010", 2, 2);
        shyStep("one and one: 0 and 2", 24, "0123", "s..s", "0011", "1001", 2, 2);
        shyStep("two and one", 0, "0123", "sss.", "0011", "0011", 2, 2);
        shyStep("three and one", 12, "01234", "ssss.", "00011", "10010", 3, 2);
        shyStep("one and two", 12, "01234", ".s.ss", "00111", "01011", 2, 3);
        shyStep("none and one", 0, "0123", "...s", "0011", "0011", 2, 2);
        shyStep("none and two", 0, "0123", "..ss", "0011", "0011", 2, 2);
        shyStep("three and three", 0, "012345", "ssssss", "000111", "000111", 3, 3);
        shyStep("two and two", 0, "0123", "ssss", "0011", "0011", 2, 2);
        shyStep("tongues and shy ones", 54, "0012", "s.s.", "0011", "1010", 2, 2);
        shyStep("a tongue apart, two lonely for it", 6, "0012", "ss..", "0011", "1001", 2, 2);
        shyStep("alone in both", 0, "01", "ss", "01", "01", 1, 1);
    }

    private static void stepOfThoseInNone() {
        TongueCamp x = Check.camp(Check.row(0, 10, 1), Check.row(1, 10, 1), Check.row(2, 10, 0));
        x.cabin(2);
        lies(x, 0);
        Check.due("1 would make 0 less lonely, but lies in none", x.step(), 0);
        told("it stays in none", x, 0, -1, -1);
        TongueCamp y = Check.camp(Check.row(0, 10, 0), Check.row(0, 10, 0), Check.row(1, 10, 0));
        y.cabin(2);
        lies(y, 0, 0);
        Check.due("no exchange with none, no move to none", y.step(), 0);
        told("all stay", y, 0, 0, -1);
    }

    /** 0 gets on with 2 alone, and 2 with 0 alone: only a move of 0 helps, if cabin 1 has a bed more than one. */
    private static TongueCamp wantsToMove(int beds) {
        TongueCamp x = Check.camp(Check.row(0, 10, 0), Check.row(0, 10, 0), Check.row(1, 10, 0), Check.row(2, 10, 0));
        x.bar(1, 2);
        x.bar(3, 2);
        x.cabin(3);
        x.cabin(beds);
        lies(x, 0, 0, 1, 0);
        return x;
    }

    private static void stepToFreeBeds() {
        TongueCamp one = wantsToMove(1);
        Check.due("no bed is free", one.step(), 0);
        told("no bed is free", one, 0, 0, 1, 0);
        TongueCamp two = wantsToMove(2);
        Check.due("one bed is free", two.step(), 30);
        told("one bed is free", two, 1, 0, 1, 0);
        TongueCamp three = wantsToMove(3);
        Check.due("two beds are", three.step(), 30);
        told("two beds are", three, 1, 0, 1, 0);
    }

    /** "by a, then b", "then of all moves", "by CHILD, then CABIN", "the first" */
    private static void stepOrder() {
        TongueCamp x = Check.camp(Check.row(0, 10, 0), Check.row(0, 10, 0), Check.row(1, 10, 0), Check.row(1, 10, 0));
        x.cabin(2);
        x.cabin(2);
        lies(x, 0, 0, 1, 1);
        Check.due("all exchanges alike", x.step(), 60);
        told("the least a, then the least b", x, 1, 0, 0, 1);
        TongueCamp y = Check.camp(Check.row(0, 10, 0), Check.row(0, 10, 0));
        y.cabin(1);
        y.cabin(2);
        y.cabin(1);
        lies(y, 1, 1);
        Check.due("all moves alike", y.step(), 30);
        told("the least child, the least cabin", y, 0, 1);
        TongueCamp z = Check.camp(Check.row(0, 10, 0), Check.row(0, 10, 0));
        z.cabin(2);
        z.cabin(1);
        z.cabin(1);
        lies(z, 0, 0);
        Check.due("moves from cabin 0", z.step(), 30);
        told("the least cabin that is another", z, 1, 0);
        // Exchanging 1 with 2 and moving 0 to cabin 2 are alike.
        TongueCamp w = Check.camp(Check.row(0, 10, 0), Check.row(0, 10, 0), Check.row(1, 10, 0));
        w.bar(1, 2);
        w.cabin(2);
        w.cabin(1);
        w.cabin(1);
        lies(w, 0, 0, 1);
        Check.due("an exchange as good as a move", w.step(), 30);
        told("the exchange is first", w, 0, 1, 0);
        // 0 is barred from both in cabin 1: of the moves that are alike the first is 0 to cabin 2, not 1 to cabin 1.
        TongueCamp v = Check.camp(Check.row(0, 10, 0), Check.row(0, 10, 0), Check.row(1, 10, 0), Check.row(2, 10, 0));
        v.bar(0, 2);
        v.bar(0, 3);
        v.cabin(2);
        v.cabin(3);
        v.cabin(1);
        lies(v, 0, 0, 1, 1);
        Check.due("by child, then cabin", v.step(), 30);
        told("by child, then cabin", v, 2, 0, 1, 1);
    }

    /** "the first by which COST is least": not the first by which it is less. */
    private static void stepByLeast() {
        // 0 with 2: 1 and 2 are 4 years apart, 10; 0 with 3: nothing is left.
        TongueCamp x = Check.camp(Check.row(0, 10, 0), Check.row(0, 8, 0), Check.row(1, 12, 0), Check.row(2, 10, 0));
        x.cabin(2);
        x.cabin(2);
        lies(x, 0, 0, 1, 1);
        Check.due("a better exchange behind", x.step(), 30);
        told("a better exchange behind", x, 1, 0, 1, 0);
        TongueCamp y = Check.camp(Check.row(0, 8, 0), Check.row(0, 8, 0), Check.row(1, 12, 0));
        y.cabin(2);
        y.cabin(1);
        y.cabin(1);
        lies(y, 0, 0, 1);
        Check.due("a better move behind", y.step(), 30);
        told("a better move behind", y, 2, 0, 1);
        TongueCamp z = Check.camp(Check.row(0, 8, 0), Check.row(0, 13, 0), Check.row(1, 10, 0));
        z.cabin(3);
        z.cabin(1);
        lies(z, 0, 0, 0);
        // 0 and 1: 30 + 15; 1 and 2: 5. Without 0: 5, without 1: 0.
        Check.due("a better child behind", z.step(), 50);
        told("a better child behind", z, 0, 1, 0);
    }

    // Promise 8: "BETTERED: how many STEPS were done.", "STEP after STEP until none is done"

    private static void stepsOften() {
        Check.due("nobody", new TongueCamp().better(), 0);
        Refused.answers("better() where none is less", 0, () -> Camps.cabins(3, 2, 2), TongueCamp::better);
        for (int many = 1; many <= 6; many++) {
            TongueCamp x = new TongueCamp();
            TongueCamp y = new TongueCamp();
            for (int i = 0; i < many; i++) {
                x.child(0, 10, false);
                y.child(0, 10, false);
                x.cabin(i == 0 ? 8 : 1);
                y.cabin(i == 0 ? 8 : 1);
                x.lie(i, 0);
                y.lie(i, 0);
            }
            // Each step takes one out of the first cabin, as long as there are two.
            Check.due("better() of " + many, x.better(), many - 1);
            Check.due("cost of " + many, x.cost(-1), 0);
            Check.due("no step more", x.step(), 0);
            for (int i = many - 1; i >= 1; i--) {
                Check.due("step with " + i + " to go", y.step(), 30 * i);
            }
            Check.due("no step behind", y.step(), 0);
        }
    }

    /** However many steps there are: of better() as many as step() does, and all lie as they do then. */
    private static void manySteps() {
        // Two of each tongue in two cabins and one in the four others is the least for eight of three tongues.
        sameSteps("eight of a tongue, three times", EdgesHousingTest::eights, 15, 3 * 28 * 30, 3 * 2 * 30);
        sameSteps("four of a tongue, six times", EdgesHousingTest::fours, 9, 6 * 6 * 30, 0);
        sameSteps("each barred from the next", EdgesHousingTest::bars24, 23, bars24().cost(-1), 20);
    }

    private static void sameSteps(String what, Supplier<TongueCamp> made, int steps, int before, int behind) {
        TongueCamp x = made.get();
        TongueCamp y = made.get();
        int cost = y.cost(-1);
        Check.due(what + ": cost", cost, before);
        int many = 0;
        for (int less = y.step(); less > 0; less = y.step()) {
            many++;
            cost -= less;
            Check.due(what + ": cost behind step " + many, y.cost(-1), cost);
        }
        Check.due(what + ": steps", many, steps);
        Check.due(what + ": cost behind them", cost, behind);
        Check.due(what + ": better()", x.better(), steps);
        for (int i = 0; i < 24; i++) {
            Check.due(what + ": cabin of " + i, x.tell(i, 3), y.tell(i, 3));
        }
        Check.due(what + ": nothing is left", x.better(), 0);
    }

    /** Four of each tongue in a cabin without a free bed: exchanges alone. */
    private static TongueCamp fours() {
        TongueCamp x = new TongueCamp();
        for (int i = 0; i < 24; i++) {
            x.child(i / 4, 10, false);
            x.cabin(4);
            x.lie(i, i / 4);
        }
        return x;
    }

    private static TongueCamp bars24() {
        TongueCamp x = new TongueCamp();
        for (int beds : new int[] {8, 7, 8, 8, 6, 4}) {
            x.cabin(beds);
        }
        for (int i = 0; i < 24; i++) {
            x.child(i % 4, 8 + (i + 3) % 10, i % 2 == 0);
            x.lie(i, 6 * i / 4 % 6);
        }
        for (int i = 0; i < 24; i++) {
            x.bar(i, (i + 23) % 24);
        }
        return x;
    }

    private static TongueCamp eights() {
        TongueCamp x = new TongueCamp();
        for (int i = 0; i < 24; i++) {
            x.child(i / 8, 10, false);
            x.cabin(8);
            x.lie(i, i / 8);
        }
        return x;
    }

    // Promise 10: "LEAST. NONE: there are more than 7 CHILDREN, or fewer BEDS than CHILDREN."

    private static void leastOfSeven() {
        Check.due("6 children", Camps.cabins(6, 8).least(), 0);
        Check.due("7 children", Camps.cabins(7, 8).least(), 30);
        Check.due("8 children", Camps.cabins(8, 8).least(), -1);
        Check.due("8 children, many beds", Camps.cabins(8, 8, 8, 8).least(), -1);
        Check.due("24 children", Camps.cabins(24, 8, 8, 8).least(), -1);
        Check.due("7 children, two cabins", Camps.cabins(7, 4, 3).least(), 0);
        Check.due("7 children, six cabins", Camps.cabins(7, 1, 1, 1, 1, 1, 2).least(), 0);
    }

    private static void leastBeds() {
        for (int many = 1; many <= 7; many++) {
            Check.due(many + " children, a bed for each", Camps.cabins(many, many).least(), many == 7 ? 30 : 0);
            Check.due(many + " children, one bed more", Camps.cabins(many, many, 1).least(), 0);
            Check.due(many + " children, no cabin", Camps.children(many).least(), -1);
            if (many > 1) {
                Check.due(many + " children, a bed too few", Camps.cabins(many, many - 1).least(), -1);
            }
        }
        Check.due("nobody, no bed", new TongueCamp().least(), 0);
        Check.due("nobody, a bed", Camps.cabins(0, 1).least(), 0);
        Refused.none("least(), a bed too few", () -> Camps.cabins(4, 2, 1), TongueCamp::least);
        Refused.none("least() of eight", Camps::rich, TongueCamp::least);
    }

    private static void leastOfFew() {
        TongueCamp one = Check.camp(Check.row(0, 10, 1));
        one.cabin(1);
        Check.due("one shy one", one.least(), 12);
        TongueCamp two = Check.camp(Check.row(0, 10, 1), Check.row(0, 10, 1));
        two.cabin(1);
        two.cabin(1);
        Check.due("two, each alone", two.least(), 24);
        two.cabin(2);
        Check.due("apart is less than 30", two.least(), 24);
        TongueCamp three = Check.camp(Check.row(0, 8, 1), Check.row(1, 12, 1), Check.row(2, 17, 0));
        three.cabin(3);
        three.cabin(1);
        Check.due("two shy ones together for 10", three.least(), 10);
        three.bar(0, 1);
        // Barred: 1 with 2 costs 15 and 12, 0 alone 12; 0 with 2 costs 35 and so on.
        Check.due("barred ones apart", three.least(), 39);
        three.cabin(1);
        Check.due("each alone", three.least(), 24);
    }

    /** "in a CABIN no more than it has BEDS": of one shy child more than a cabin has beds one is lonely in the other one. */
    private static void leastOfShyOnes() {
        for (int beds = 1; beds <= 6; beds++) {
            TongueCamp x = new TongueCamp();
            TongueCamp y = new TongueCamp();
            for (int i = 0; i <= beds; i++) {
                x.child(i % 6, 10, true);
                y.child(i % 6, 10, true);
            }
            x.cabin(1);
            x.cabin(beds);
            y.cabin(1);
            y.cabin(beds + 1);
            Check.due(beds + " beds, one shy one more", x.least(), beds == 1 ? 24 : 12);
            Check.due("a bed for each of " + (beds + 1), y.least(), beds == 6 ? 12 : 0);
        }
    }

    /** LEAST is told, nobody is laid by it; and no number of steps need come to it. */
    private static void leastIsTold() {
        Refused.answers("least()", 30, () -> {
            TongueCamp x = Check.camp(Check.row(0, 10, 0), Check.row(0, 10, 0), Check.row(0, 10, 0));
            x.cabin(2);
            x.cabin(1);
            lies(x, 0, 0);
            return x;
        }, TongueCamp::least);
    }
}
