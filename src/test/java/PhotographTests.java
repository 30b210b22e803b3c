/** Promises 20 to 25: THE PHOTOGRAPH. */
final class PhotographTests {
    private PhotographTests() {
    }

    public static void main(String[] args) {
        show();
        look();
        burn();
        orders();
        impossible();
        tenInAHeap();
        firstOrder();
        surely();
        toldMoreThanOnce();
        Due.end("PhotographTests");
    }

    private static BillWall line() {
        return Due.walled("size 8 2;bare 7 1 1 1;kind 0 3 1;kind 1 1 1;kind 2 8 2;");
    }

    private static void show() {
        BillWall wall = line();
        Due.row("show", Due.of(0, 1, 2), wall.show(0, 5, 0), wall.show(1, 7, 1), wall.show(2, 0, 0));
        Due.row("show refused", Due.of(Due.UNKNOWN, Due.UNKNOWN, Due.OUTSIDE, Due.OUTSIDE, Due.OUTSIDE, Due.OUTSIDE),
                wall.show(3, 9, 9), wall.show(-1, 0, 0), wall.show(0, 6, 0), wall.show(0, 0, 2), wall.show(0, -1, 0),
                wall.show(1, Integer.MAX_VALUE, 0));
        Due.row("it hangs nothing on THE WALL", Due.of(3, 0, Due.NONE), wall.told(10), wall.told(7),
                wall.above(0, 0));
        for (int b = 3; b < 10; b++) {
            Due.due("show", b, wall.show(1, 0, 0));
        }
        Due.row("an 11th", Due.of(Due.FULL, Due.OUTSIDE, Due.UNKNOWN, 10), wall.show(1, 0, 0), wall.show(1, 8, 0),
                wall.show(3, 0, 0), wall.told(10));
    }

    private static void look() {
        BillWall wall = line();
        wall.show(0, 0, 0);
        wall.show(0, 1, 0);
        Due.row("look", Due.of(1, 2, 1, 1, 1, 1), wall.look(7, 1, Due.NONE), wall.orders(), wall.look(1, 0, 0),
                wall.orders(), wall.look(1, 0, 1), wall.orders());
        Due.row("the newer one counts", Due.of(0, 1), wall.order(0), wall.order(1));
        Due.row("look refused", Due.of(Due.UNKNOWN, Due.UNKNOWN, Due.UNKNOWN, Due.OUTSIDE, Due.OUTSIDE, Due.OUTSIDE,
                Due.OUTSIDE), wall.look(0, 0, 2), wall.look(0, 0, -2), wall.look(9, 9, 2), wall.look(8, 0, 0),
                wall.look(0, 2, Due.NONE), wall.look(-1, 0, 0), wall.look(0, -1, 1));
        Due.due("refused ones change nothing", 1, wall.orders());
    }

    private static void burn() {
        BillWall wall = line();
        Due.due("burn of none", 0, wall.burn());
        wall.show(0, 0, 0);
        wall.show(0, 1, 0);
        wall.look(1, 0, Due.NONE);
        Due.row("burn", Due.of(0, 2, 0, 1, Due.UNKNOWN), wall.orders(), wall.burn(), wall.told(10), wall.orders(),
                wall.look(0, 0, 0));
        wall.show(0, 0, 0);
        Due.due("looks are gone", 1, wall.orders());
        wall.burn();
        wall.look(0, 0, Due.NONE);
        Due.due("a look without BILLS", 1, wall.orders());
        wall.burn();
        wall.show(0, 0, 0);
        Due.due("burn takes such a look too", 1, wall.orders());
    }

    private static void orders() {
        BillWall wall = line();
        Due.row("without BILLS", Due.of(1, Due.NONE), wall.orders(), wall.order(0));
        int factorial = 1;
        for (int n = 1; n <= 10; n++) {
            wall.show(1, 0, 0);
            factorial *= n;
            Due.due(n + " free ones", factorial, wall.orders());
        }
        wall.look(0, 0, 3);
        Due.row("one over nine", Due.of(362880, 0, 1, 2, 4, 9, 3, Due.NONE), wall.orders(), wall.order(0),
                wall.order(1), wall.order(2), wall.order(3), wall.order(8), wall.order(9), wall.order(10));
        wall.burn();
        wall.show(0, 0, 0);
        wall.show(0, 2, 0);
        wall.show(0, 4, 0);
        wall.show(0, 0, 1);
        wall.look(2, 0, 1);
        Due.due("one pair", 12, wall.orders());
        wall.look(4, 0, 1);
        Due.due("one over two", 8, wall.orders());
        wall.look(4, 0, 2);
        Due.due("a chain of three", 4, wall.orders());
    }

    private static void impossible() {
        BillWall wall = line();
        wall.show(0, 0, 0);
        wall.show(0, 2, 0);
        wall.look(0, 0, 1);
        gone(wall, "it has not the CELL");
        wall.look(0, 0, Due.NONE);
        gone(wall, "bare where one hangs");
        wall.look(0, 0, 0);
        Due.due("told anew", 2, wall.orders());
        wall.look(7, 0, Due.NONE);
        Due.due("bare where none hangs", 2, wall.orders());
        wall.show(0, 5, 0);
        gone(wall, "one more hangs where it was told bare");
        wall.look(7, 0, 2);
        wall.show(2, 0, 0);
        wall.look(0, 0, 3);
        wall.look(2, 0, 0);
        gone(wall, "each over the other");
        Due.due("OUTSIDE even so", Due.OUTSIDE, wall.order(-1));
    }

    private static void tenInAHeap() {
        BillWall wall = line();
        for (int b = 0; b < 10; b++) {
            wall.show(2, 0, 0);
        }
        wall.look(0, 0, 9);
        Due.row("ten", Due.of(362880, 1, 0, 0, 0, 9), wall.orders(), wall.surely(9, 0), wall.surely(0, 9),
                wall.surely(8, 0), wall.order(0), wall.order(9));
        wall.look(1, 0, 0);
        gone(wall, "two of ten are above all");
    }

    private static void gone(BillWall wall, String why) {
        Due.row(why, Due.of(0, Due.NONE, Due.NONE, 0, 0), wall.orders(), wall.order(0), wall.order(1),
                wall.surely(0, 1), wall.surely(1, 0));
    }

    private static void firstOrder() {
        BillWall wall = line();
        wall.show(0, 0, 0);
        wall.show(0, 2, 0);
        wall.show(0, 4, 0);
        wall.show(1, 0, 1);
        wall.look(2, 0, 0);
        wall.look(4, 0, 1);
        Due.row("first order", Due.of(2, 1, 0, 3, Due.NONE, Due.NONE, Due.OUTSIDE), wall.order(0), wall.order(1),
                wall.order(2), wall.order(3), wall.order(4), wall.order(Integer.MAX_VALUE), wall.order(-1));
        wall.look(4, 0, 2);
        Due.row("first order", Due.of(1, 0, 2, 3), wall.order(0), wall.order(1), wall.order(2), wall.order(3));
    }

    private static void surely() {
        BillWall wall = line();
        wall.show(0, 0, 0);
        wall.show(0, 2, 0);
        wall.show(0, 4, 0);
        wall.show(1, 0, 1);
        wall.look(2, 0, 0);
        wall.look(4, 0, 1);
        Due.row("surely", Due.of(1, 1, 1, 0, 0, 0, 0, 0), wall.surely(0, 1), wall.surely(1, 2), wall.surely(0, 2),
                wall.surely(2, 0), wall.surely(1, 0), wall.surely(3, 0), wall.surely(0, 3), wall.surely(2, 1));
        Due.row("surely UNKNOWN", Due.of(Due.UNKNOWN, Due.UNKNOWN, Due.UNKNOWN, Due.UNKNOWN, Due.UNKNOWN),
                wall.surely(0, 0), wall.surely(0, 4), wall.surely(4, 0), wall.surely(-1, 0), wall.surely(0, -1));
    }

    private static void toldMoreThanOnce() {
        BillWall wall = line();
        wall.show(0, 0, 0);
        wall.show(0, 1, 0);
        wall.show(0, 2, 0);
        wall.look(1, 0, 0);
        wall.look(2, 0, 0);
        Due.row("BILL 0 over 1 at two CELLS", Due.of(2, 1, 2, 0), wall.orders(), wall.order(0), wall.order(1),
                wall.order(2));
        wall.look(3, 0, 1);
        Due.row("over BILL 2 at a CELL and by BILL 1", Due.of(1, 1, 0, 1), wall.orders(), wall.surely(0, 2),
                wall.surely(2, 0), wall.surely(1, 2));
    }
}
