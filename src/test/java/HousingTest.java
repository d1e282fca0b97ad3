/** Promises 6 to 10: housing, steps, costs, the least cost. */
public final class HousingTest {
    public static void main(String[] args) {
        costs();
        house();
        exchange();
        move();
        firstOfSeveral();
        better();
        least();
        Check.finish("HousingTest");
    }

    private static void costs() {
        TongueCamp x = Check.camp(Check.row(0, 8, 0), Check.row(1, 10, 0), Check.row(2, 11, 0), Check.row(3, 17, 1));
        x.cabin(4);
        x.cabin(2);
        Check.due("empty cabin", x.cost(0), 0);
        x.lie(0, 0);
        x.lie(1, 0);
        Check.due("two years apart", x.cost(0), 0);
        x.lie(2, 0);
        Check.due("three years apart", x.cost(0), 5);
        x.lie(3, 0);
        // 17 - 8 = 9: 35; 17 - 10 = 7: 25; 17 - 11 = 6: 20; one shy alone: 12
        Check.due("far apart and lonely", x.cost(0), 5 + 35 + 25 + 20 + 12);
        x.lie(3, 1);
        Check.due("alone in a cabin", x.cost(1), 12);
        Check.due("all", x.cost(-1), 17);
        Check.due("no cabin 2", x.cost(2), -1);
        Check.due("no cabin -2", x.cost(-2), -1);
        x.lie(3, -1);
        Check.due("in none costs nothing", x.cost(-1), 5);

        TongueCamp y = Check.camp(Check.row(4, 10, 1), Check.row(4, 10, 1), Check.row(4, 10, 0));
        y.cabin(3);
        y.lie(0, 0);
        y.lie(1, 0);
        Check.due("one tongue, two shy", y.cost(0), 30);
        y.bar(0, 1);
        y.lie(2, 0);
        Check.due("three of one tongue, a bar", y.cost(0), 390);
    }

    private static void house() {
        TongueCamp x = Check.camp(Check.row(0, 10, 0), Check.row(0, 10, 0), Check.row(1, 10, 0));
        x.cabin(1);
        Check.due("too few beds", x.house(), -1);
        Check.due("nobody lies", x.count(9), 0);
        x.cabin(1);
        x.lie(0, 1);
        Check.due("still too few", x.house(), -1);
        Check.due("lies as before", x.tell(0, 3), 1);
        x.cabin(2);
        Check.due("housed", x.house(), 0);
        Check.due("first in the least cabin", x.tell(0, 3), 0);
        Check.due("second in the next", x.tell(1, 3), 1);
        Check.due("third in the last", x.tell(2, 3), 2);

        // Two shy ones apart are two lonely ones; the second comes to the first where a bed is free.
        TongueCamp y = Check.camp(Check.row(0, 10, 1), Check.row(1, 10, 0), Check.row(2, 10, 1));
        y.cabin(2);
        y.cabin(2);
        Check.due("two lonely ones", y.house(), 24);
        Check.due("0 in 0", y.tell(0, 3), 0);
        Check.due("1 in 0", y.tell(1, 3), 0);
        Check.due("2 in 1", y.tell(2, 3), 1);
        TongueCamp z = Check.camp(Check.row(0, 10, 1), Check.row(0, 10, 0), Check.row(2, 10, 1));
        z.cabin(2);
        z.cabin(2);
        Check.due("shy come together", z.house(), 0);
        Check.due("z 1 in 1", z.tell(1, 3), 1);
        Check.due("z 2 in 0", z.tell(2, 3), 0);
    }

    private static void exchange() {
        TongueCamp x = Check.camp(Check.row(0, 10, 0), Check.row(0, 10, 0), Check.row(1, 10, 0), Check.row(1, 10, 0));
        x.cabin(2);
        x.cabin(2);
        x.lie(0, 0);
        x.lie(1, 0);
        x.lie(2, 1);
        x.lie(3, 1);
        Check.due("step by 60", x.step(), 60);
        Check.due("0 and 2 exchanged", x.tell(0, 3) * 1000 + x.tell(1, 3) * 100 + x.tell(2, 3) * 10 + x.tell(3, 3), 1001);
        Check.due("no step more", x.step(), 0);
        Check.due("stays so", x.tell(0, 3) * 1000 + x.tell(1, 3) * 100 + x.tell(2, 3) * 10 + x.tell(3, 3), 1001);

        // One that lies nowhere is in no exchange and no move.
        TongueCamp y = Check.camp(Check.row(0, 10, 0), Check.row(0, 10, 0), Check.row(1, 10, 0));
        y.cabin(2);
        y.cabin(1);
        y.lie(0, 0);
        y.lie(1, 0);
        Check.due("a move to the free bed", y.step(), 30);
        Check.due("y 0 moved", y.tell(0, 3), 1);
        Check.due("y 2 in none", y.tell(2, 3), -1);
        TongueCamp z = Check.camp(Check.row(0, 10, 0), Check.row(0, 10, 0), Check.row(1, 10, 0));
        z.cabin(2);
        z.lie(0, 0);
        z.lie(1, 0);
        Check.due("none to exchange with", z.step(), 0);
    }

    private static void move() {
        TongueCamp x = Check.camp(Check.row(0, 10, 0), Check.row(0, 10, 0), Check.row(0, 10, 0));
        x.cabin(3);
        x.cabin(1);
        x.cabin(1);
        x.lie(0, 0);
        x.lie(1, 0);
        x.lie(2, 0);
        Check.due("first move", x.step(), 60);
        Check.due("0 to cabin 1", x.tell(0, 3), 1);
        Check.due("second move", x.step(), 30);
        Check.due("1 to cabin 2", x.tell(1, 3), 2);
        Check.due("nothing more", x.step(), 0);
    }

    private static void firstOfSeveral() {
        // An exchange of 0 with 2 and a move of 0 to cabin 2 are alike by 30: the exchange is first.
        TongueCamp x = Check.camp(Check.row(0, 10, 0), Check.row(0, 10, 0), Check.row(1, 10, 0));
        x.cabin(2);
        x.cabin(1);
        x.cabin(1);
        x.lie(0, 0);
        x.lie(1, 0);
        x.lie(2, 1);
        Check.due("by 30", x.step(), 30);
        Check.due("0 exchanged", x.tell(0, 3), 1);
        Check.due("2 exchanged", x.tell(2, 3), 0);
        Check.due("1 stays", x.tell(1, 3), 0);
    }

    private static void better() {
        TongueCamp x = Check.camp(Check.row(0, 10, 0), Check.row(0, 10, 0), Check.row(0, 10, 0));
        x.cabin(3);
        x.cabin(1);
        x.cabin(1);
        x.lie(0, 0);
        x.lie(1, 0);
        x.lie(2, 0);
        Check.due("two steps", x.better(), 2);
        Check.due("cost then", x.cost(-1), 0);
        Check.due("none more", x.better(), 0);
    }

    private static void least() {
        TongueCamp x = Check.camp(Check.row(0, 10, 0), Check.row(0, 10, 0), Check.row(0, 10, 0), Check.row(1, 10, 1));
        x.cabin(2);
        x.cabin(1);
        Check.due("too few beds", x.least(), -1);
        x.cabin(1);
        // One tongue apart in three cabins, the shy one lonely with any of them.
        Check.due("least", x.least(), 12);
        Check.due("nobody lies by it", x.count(9), 0);
        TongueCamp y = new TongueCamp();
        for (int i = 0; i < 7; i++) {
            y.child(0, 10, false);
        }
        y.cabin(8);
        Check.due("seven in one", y.least(), 21 * 30);
        y.cabin(2);
        Check.due("five and two", y.least(), 11 * 30);
        y.cabin(8);
        Check.due("three, two, two", y.least(), 5 * 30);
        y.child(0, 10, false);
        Check.due("eight children", y.least(), -1);
    }
}
