/** Promises 9 to 19: BILLS on THE WALL. */
final class BillTests {
    private static final int MAX = Integer.MAX_VALUE, MIN = Integer.MIN_VALUE;

    private BillTests() {
    }

    public static void main(String[] args) {
        paste();
        fines();
        days();
        above();
        bill();
        readEdge();
        over();
        free();
        reveal();
        revealOfWide();
        revealOfMany();
        peel();
        lowAtTheLeft();
        tear();
        rain();
        owner();
        Due.end("BillTests");
    }

    private static void paste() {
        BillWall wall = Due.walled("size 6 4;bare 5 3 1 1;kind 0 3 2;kind 1 1 1;");
        Due.row("paste", Due.of(0, 1, 2), wall.paste(0, 0, 0), wall.paste(0, 3, 0), wall.paste(0, 2, 2));
        Due.row("paste UNKNOWN", Due.of(Due.UNKNOWN, Due.UNKNOWN, Due.UNKNOWN), wall.paste(2, 0, 0),
                wall.paste(-1, 0, 0), wall.paste(2, 9, 9));
        Due.row("paste OUTSIDE", Due.of(Due.OUTSIDE, Due.OUTSIDE, Due.OUTSIDE, Due.OUTSIDE, Due.OUTSIDE, Due.OUTSIDE),
                wall.paste(0, 4, 0), wall.paste(0, 0, 3), wall.paste(0, -1, 0), wall.paste(0, 0, -1),
                wall.paste(1, MAX, 0), wall.paste(1, 0, MIN));
        Due.row("paste NOT", Due.of(Due.NOT, Due.NOT), wall.paste(0, 3, 2), wall.paste(1, 5, 3));
        Due.due("refused pastes change nothing", 3, wall.told(7));
        for (int b = 3; b < 20; b++) {
            Due.due("paste", b, wall.paste(1, 0, 0));
        }
        Due.row("paste into the full", Due.of(Due.FULL, Due.NOT, Due.OUTSIDE, Due.UNKNOWN), wall.paste(1, 0, 0),
                wall.paste(1, 5, 3), wall.paste(1, 6, 3), wall.paste(2, 6, 3));
        wall.peel(19);
        Due.due("one that is off still counts", Due.FULL, wall.paste(1, 0, 0));
    }

    private static void fines() {
        BillWall wall = Due.walled("size 6 1;guard 2;fine 7;kind 0 2 1;kind 1 2 1;kind 1 6 1;kind 2 6 1;");
        wall.paste(0, 0, 0);
        wall.paste(0, 2, 0);
        wall.paste(1, 1, 0);
        Due.row("both lose", Due.of(0, 14, 0), wall.owner(0, 1), wall.owner(1, 1), wall.owner(2, 1));
        wall.paste(1, 1, 0);
        Due.due("own ones and hidden CELLS cost nothing", 14, wall.owner(1, 1));
        wall.days(1);
        wall.paste(0, 4, 0);
        wall.days(1);
        Due.due("the first are too old", 5, wall.paste(3, 0, 0));
        Due.due("one of yesterday costs", 7, wall.owner(2, 1));
        wall.days(1);
        wall.paste(1, 1, 0);
        Due.due("one day less than guard", 21, wall.owner(1, 1));
        BillWall torn = Due.walled("size 3 1;guard 1;fine 5;kind 0 1 1;kind 1 1 1;");
        torn.paste(0, 0, 0);
        torn.tear(0, 0);
        torn.paste(1, 0, 0);
        Due.due("nothing SEEN, nothing due", 0, torn.owner(1, 1));
        torn.paste(0, 1, 0);
        torn.peel(2);
        torn.paste(1, 1, 0);
        Due.due("off, nothing due", 0, torn.owner(1, 1));
        torn.paste(0, 2, 0);
        torn.days(1);
        torn.paste(1, 2, 0);
        Due.due("guard 1: only the same day", 0, torn.owner(1, 1));
        torn.paste(0, 2, 0);
        Due.due("guard 1: the same day", 5, torn.owner(0, 1));
        BillWall unguarded = Due.walled("guard 0;fine 5;kind 0 1 1;kind 1 1 1;");
        unguarded.paste(0, 0, 0);
        unguarded.paste(1, 0, 0);
        Due.due("guard 0: never", 0, unguarded.owner(1, 1));
        BillWall once = Due.walled("size 4 2;fine 3;kind 0 4 2;kind 1 3 1;");
        once.paste(0, 0, 0);
        once.paste(1, 0, 0);
        Due.due("F each, not for each CELL", 3, once.owner(1, 1));
    }

    private static void days() {
        BillWall wall = new BillWall();
        Due.row("days", Due.of(0, 999, 1000, 1999), wall.days(0), wall.days(999), wall.days(1), wall.days(999));
        Due.row("days OUTSIDE", Due.of(Due.OUTSIDE, Due.OUTSIDE, Due.OUTSIDE), wall.days(-1), wall.days(1000),
                wall.days(MAX));
        Due.due("days", 1999, wall.told(8));
    }

    private static void above() {
        BillWall wall = Due.walled("size 4 3;kind 0 2 2;kind 1 3 1;");
        wall.paste(0, 0, 0);
        wall.paste(1, 1, 1);
        wall.paste(0, 2, 1);
        int[][] rows = {{0, 0, -1, -1}, {0, 1, 2, 2}, {-1, -1, 2, 2}};
        for (int y = 0; y < 3; y++) {
            for (int x = 0; x < 4; x++) {
                Due.due("above(" + x + ", " + y + ")", rows[y][x], wall.above(x, y));
            }
        }
        wall.tear(2, 1);
        Due.due("TORN: the one below", 1, wall.above(2, 1));
        wall.tear(2, 1);
        Due.due("TORN: none is left", Due.NONE, wall.above(2, 1));
        wall.peel(2);
        Due.due("off", 1, wall.above(3, 1));
        Due.row("above OUTSIDE", Due.of(Due.OUTSIDE, Due.OUTSIDE, Due.OUTSIDE, Due.OUTSIDE), wall.above(4, 0),
                wall.above(0, 3), wall.above(-1, 0), wall.above(0, MIN));
    }

    private static void bill() {
        BillWall wall = Due.walled("size 8 4;read 50;pass 2 5;pass 3 0;pass 4 9;kind 3 2 2;kind 1 4 1;");
        wall.days(3);
        wall.paste(0, 1, 1);
        wall.days(2);
        wall.paste(1, 2, 2);
        whole(wall, 0, 0, 1, 1, 3, 3, 0, 1, 1 + 5 + 1, 1);
        whole(wall, 1, 1, 2, 2, 5, 4, 0, 1, 5 + 0 + 9 + 1, 1);
        wall.tear(4, 2);
        wall.tear(1, 1);
        wall.tear(2, 1);
        whole(wall, 0, 0, 1, 1, 3, 1, 2, 0, 0, 1);
        whole(wall, 1, 1, 2, 2, 5, 3, 1, 1, 6, 1);
        wall.peel(1);
        whole(wall, 0, 0, 1, 1, 3, 2, 2, 1, 1 + 5, 1);
        whole(wall, 1, 1, 2, 2, 5, 0, 0, 0, 0, 0);
        Due.row("bill refused", Due.of(Due.UNKNOWN, Due.UNKNOWN, Due.UNKNOWN, Due.OUTSIDE, Due.OUTSIDE),
                wall.bill(2, 0), wall.bill(-1, 0), wall.bill(2, 9), wall.bill(1, 9), wall.bill(1, -1));
    }

    private static void whole(BillWall wall, int b, int... want) {
        for (int what = 0; what < 9; what++) {
            Due.due("bill(" + b + ", " + what + ")", want[what], wall.bill(b, what));
        }
    }

    private static void readEdge() {
        for (int percent : new int[] {1, 33, 34, 66, 67, 100}) {
            BillWall wall = Due.walled("read " + percent + ";kind 0 3 1;");
            wall.paste(0, 0, 0);
            for (int torn = 1; torn <= 3; torn++) {
                wall.tear(torn - 1, 0);
                int due = 100 * (3 - torn) >= percent * 3 ? 1 : 0;
                Due.due("READ of " + percent + " with " + torn + " TORN", due, wall.bill(0, 6));
            }
        }
    }

    private static void over() {
        BillWall wall = Due.walled("size 8 1;kind 0 3 1;kind 1 1 1;");
        wall.paste(0, 0, 0);
        wall.paste(0, 2, 0);
        wall.paste(0, 4, 0);
        wall.paste(1, 2, 0);
        Due.row("over", Due.of(2 + 8, 4 + 8, 0, 0), wall.over(0), wall.over(1), wall.over(2), wall.over(3));
        wall.tear(2, 0);
        Due.row("TORN above", Due.of(2, 4), wall.over(0), wall.over(1));
        wall.tear(2, 0);
        wall.paste(1, 2, 0);
        Due.row("TORN between", Due.of(16, 4), wall.over(0), wall.over(1));
        wall.peel(4);
        wall.peel(2);
        Due.row("off", Due.of(0, 0, 0), wall.over(0), wall.over(1), wall.over(2));
        Due.row("over UNKNOWN", Due.of(Due.UNKNOWN, Due.UNKNOWN), wall.over(5), wall.over(-1));
        BillWall full = Due.walled("kind 0 1 1;");
        for (int i = 0; i < 20; i++) {
            full.paste(0, 15, 7);
        }
        Due.row("20 in a heap", Due.of(0xffffe, 0x80000, 0), full.over(0), full.over(18), full.over(19));
    }

    private static void free() {
        BillWall wall = Due.walled("size 8 1;kind 0 2 1;");
        wall.paste(0, 0, 0);
        wall.paste(0, 1, 0);
        wall.paste(0, 6, 0);
        wall.paste(0, 2, 0);
        wall.paste(0, 3, 0);
        Due.row("free", Due.of(2 + 8 + 16, 8 + 16, 0, 16, 0), wall.free(0), wall.free(1), wall.free(2), wall.free(3),
                wall.free(4));
        wall.tear(2, 0);
        Due.row("the chain is TORN", Due.of(2, 0), wall.free(0), wall.free(1));
        wall.peel(2);
        Due.row("free refused", Due.of(Due.NOT, Due.UNKNOWN, Due.UNKNOWN), wall.free(2), wall.free(5), wall.free(-1));
    }

    private static void reveal() {
        BillWall wall = Due.walled("size 8 2;read 50;kind 0 8 1;kind 1 4 1;kind 2 1 2;kind 3 3 1;");
        wall.paste(0, 0, 0);
        Due.due("READ as it is", 0, wall.reveal(0));
        wall.paste(1, 0, 0);
        wall.paste(3, 4, 0);
        wall.paste(2, 7, 0);
        Due.due("the one alone that is enough", 2, wall.reveal(0));
        wall.paste(2, 3, 0);
        Due.due("the one needs one more now: the two others", 4 + 8, wall.reveal(0));
        wall.tear(4, 0);
        wall.tear(4, 0);
        Due.due("TORN itself, the two others are too few", 2 + 16, wall.reveal(0));
        wall.tear(7, 0);
        wall.tear(3, 0);
        Due.due("TORN above", 2, wall.reveal(0));
        BillWall like = Due.walled("size 4 1;read 25;kind 0 4 1;kind 1 1 1;");
        like.paste(0, 0, 0);
        for (int x = 3; x >= 0; x--) {
            like.paste(1, x, 0);
        }
        Due.due("of like ones the least", 2, like.reveal(0));
        like.tear(3, 0);
        like.tear(3, 0);
        Due.due("the least that helps", 4, like.reveal(0));
        like.tear(2, 0);
        like.tear(2, 0);
        like.tear(1, 0);
        like.tear(1, 0);
        like.tear(0, 0);
        Due.due("READ with the last", 0, like.reveal(0));
        like.tear(0, 0);
        Due.due("none helps", Due.NONE, like.reveal(0));
        like.peel(1);
        Due.row("reveal refused", Due.of(Due.NOT, Due.UNKNOWN, Due.UNKNOWN), like.reveal(1), like.reveal(5),
                like.reveal(-1));
    }

    private static void revealOfWide() {
        BillWall wall = Due.walled("read 50;kind 0 16 2;kind 1 16 1;");
        wall.paste(0, 0, 6);
        wall.paste(1, 0, 6);
        Due.due("half of it is enough", 0, wall.reveal(0));
        wall.tear(15, 7);
        Due.due("one CELL less is not", 2, wall.reveal(0));
    }

    private static void revealOfMany() {
        BillWall wall = Due.walled("kind 0 2 1;");
        for (int i = 0; i < 14; i++) {
            wall.paste(0, 0, 0);
        }
        Due.row("13 are too many", Due.of(Due.NOT, 0x3ffc), wall.reveal(0), wall.reveal(1));
        BillWall seen = Due.walled("read 10;size 16 1;kind 0 16 1;kind 0 1 1;");
        seen.paste(0, 0, 0);
        for (int x = 0; x < 13; x++) {
            seen.paste(1, x, 0);
        }
        Due.due("READ, but 13 over it", Due.NOT, seen.reveal(0));
        seen.peel(13);
        Due.due("READ with 12 over it", 0, seen.reveal(0));
    }

    private static void peel() {
        BillWall wall = Due.walled("size 5 1;kind 0 3 1;kind 1 5 1;");
        wall.paste(0, 0, 0);
        wall.paste(0, 2, 0);
        Due.due("covered", Due.NOT, wall.peel(0));
        Due.due("one CELL comes to be seen", 1, wall.peel(1));
        Due.row("off", Due.of(Due.NOT, 0, 3), wall.peel(1), wall.bill(1, 8), wall.bill(0, 4));
        wall.paste(1, 0, 0);
        wall.tear(1, 0);
        wall.tear(1, 0);
        Due.due("TORN CELLS do not count", 2, wall.peel(2));
        wall.paste(0, 1, 0);
        Due.due("covered at one", Due.NOT, wall.peel(0));
        wall.tear(2, 0);
        Due.due("no CELL in common at which neither is TORN", 0, wall.peel(0));
        Due.row("peel UNKNOWN", Due.of(Due.UNKNOWN, Due.UNKNOWN), wall.peel(4), wall.peel(-1));
    }

    /** The row is greater than the column here: neither stands for the other. */
    private static void lowAtTheLeft() {
        BillWall wall = Due.walled("size 4 4;kind 0 2 1;kind 1 1 1;");
        wall.paste(0, 0, 3);
        wall.paste(1, 0, 3);
        Due.row("at column 0, row 3", Due.of(2, 2, 2, 0, 1), wall.over(0), wall.free(0), wall.reveal(0),
                wall.tear(1, 3), wall.bill(0, 5));
        Due.row("taken off there", Due.of(1, 0, 0, Due.NONE, Due.NONE), wall.peel(1), wall.above(0, 3), wall.peel(0),
                wall.above(0, 3), wall.above(1, 3));
    }

    private static void tear() {
        BillWall wall = Due.walled("size 3 2;kind 0 2 2;");
        wall.paste(0, 0, 0);
        wall.paste(0, 1, 0);
        Due.row("tear", Due.of(1, 0, Due.NONE, 0), wall.tear(1, 1), wall.tear(1, 1), wall.tear(1, 1),
                wall.tear(0, 0));
        Due.row("TORN", Due.of(2, 1), wall.bill(0, 5), wall.bill(1, 5));
        Due.row("tear OUTSIDE", Due.of(Due.OUTSIDE, Due.OUTSIDE, Due.OUTSIDE, Due.OUTSIDE), wall.tear(3, 0),
                wall.tear(0, 2), wall.tear(-1, 0), wall.tear(0, -1));
    }

    private static void rain() {
        BillWall wall = Due.walled("size 4 3;kind 0 2 2;kind 1 3 1;");
        wall.paste(0, 0, 0);
        wall.paste(1, 1, 1);
        wall.seed(12345);
        long seed = 12345;
        int torn = 0;
        int[][] at = {{0, 0}, {1, 0}, {0, 1}, {1, 1}, {2, 1}, {3, 1}};
        boolean[] hit = new boolean[at.length];
        for (int i = 0; i < at.length; i++) {
            seed = (seed * 1103515245L + 12345L) % (1L << 31);
            hit[i] = seed / 65536 % 100 < 45;
            torn += hit[i] ? 1 : 0;
        }
        Due.due("rain(45)", torn, wall.rain(45));
        int[] before = {0, 0, 0, 1, 1, 1};
        int[] behind = {-1, -1, -1, 0, -1, -1};
        for (int i = 0; i < at.length; i++) {
            Due.due("CELL " + i, hit[i] ? behind[i] : before[i], wall.above(at[i][0], at[i][1]));
        }
        Due.due("one DRAW for each CELL with one ABOVE", seed, wall.seed(0));
        Due.row("rain OUTSIDE", Due.of(Due.OUTSIDE, Due.OUTSIDE, 0), wall.rain(-1), wall.rain(101), wall.seed(0));
        BillWall two = Due.walled("size 4 3;kind 0 2 2;");
        two.paste(0, 0, 0);
        two.paste(0, 0, 0);
        Due.row("rain of 0 and 100", Due.of(0, 4, 4, 0), two.rain(0), two.rain(100), two.rain(100), two.rain(100));
        seed = 0;
        for (int i = 0; i < 12; i++) {
            seed = (seed * 1103515245L + 12345L) % (1L << 31);
        }
        Due.due("DRAWS of 0 and 100", seed, two.seed(0));
        Due.row("TORN by rain", Due.of(4, 4), two.bill(0, 5), two.bill(1, 5));
        BillWall whole = Due.walled("kind 0 16 8;");
        whole.paste(0, 0, 0);
        whole.paste(0, 0, 0);
        Due.row("rain on all CELLS", Due.of(128, 128, 128), whole.rain(100), whole.bill(0, 4), whole.bill(1, 5));
        seed = 0;
        for (int i = 0; i < 128; i++) {
            seed = (seed * 1103515245L + 12345L) % (1L << 31);
        }
        Due.due("DRAWS of all CELLS", seed, whole.seed(0));
    }

    private static void owner() {
        BillWall wall = Due.walled("size 6 2;read 50;fine 4;pass 0 7;kind 2 2 1;kind 5 2 2;");
        wall.paste(0, 0, 0);
        wall.paste(0, 0, 1);
        wall.paste(0, 4, 0);
        wall.paste(1, 1, 0);
        Due.row("owner 2", Due.of(7 + 7 + 2, 0, 3), wall.owner(2, 0), wall.owner(2, 1), wall.owner(2, 2));
        Due.row("owner 5", Due.of(4, 8, 1), wall.owner(5, 0), wall.owner(5, 1), wall.owner(5, 2));
        wall.tear(0, 0);
        wall.peel(2);
        Due.row("owner 2", Due.of(7, 0, 2), wall.owner(2, 0), wall.owner(2, 1), wall.owner(2, 2));
        Due.row("owner 0 has nothing", Due.of(0, 0, 0), wall.owner(0, 0), wall.owner(0, 1), wall.owner(0, 2));
        Due.row("owner refused", Due.of(Due.UNKNOWN, Due.UNKNOWN, Due.UNKNOWN, Due.OUTSIDE, Due.OUTSIDE),
                wall.owner(6, 0), wall.owner(-1, 0), wall.owner(6, 3), wall.owner(2, 3), wall.owner(2, -1));
    }
}
