/** Promises 1 to 8: THE WALL and its text. */
final class WallTests {
    private WallTests() {
    }

    public static void main(String[] args) {
        constants();
        newObject();
        feed();
        wholeText();
        blanks();
        wrongHere();
        badNumbers();
        toldBefore();
        newWall();
        faultAndText();
        told();
        kind();
        passes();
        bare();
        Due.end("WallTests");
    }

    private static void constants() {
        Due.row("constants", Due.of(-1, -100000001, -100000002, -100000003, -100000004), BillWall.NONE,
                BillWall.UNKNOWN, BillWall.OUTSIDE, BillWall.NOT, BillWall.FULL);
    }

    private static void newObject() {
        BillWall wall = new BillWall();
        long[] want = {16, 8, 3, 10, 60, 0, 0, 0, 0, 0, 0};
        for (int what = 0; what < want.length; what++) {
            Due.due("new: told(" + what + ")", want[what], wall.told(what));
        }
        Due.due("new: fault()", Due.NONE, wall.fault());
        for (int x = 0; x < 16; x++) {
            Due.due("new: passes(" + x + ")", 1, wall.passes(x));
            for (int y = 0; y < 8; y++) {
                Due.due("new: bare", 0, wall.bare(x, y));
                Due.due("new: above", Due.NONE, wall.above(x, y));
            }
        }
        Due.due("new: kind(0, 0)", Due.UNKNOWN, wall.kind(0, 0));
        Due.due("new: bill(0, 0)", Due.UNKNOWN, wall.bill(0, 0));
        Due.due("new: paste", Due.UNKNOWN, wall.paste(0, 0, 0));
        Due.due("new: seed", 0, wall.seed(0));
        Due.due("new: goBack(0)", Due.NOT, wall.goBack(0));
        Due.due("new: goBack(1)", Due.NOT, wall.goBack(1));
        Due.due("new: orders", 1, wall.orders());
        Due.row("new: owner", Due.of(0, 0, 0), wall.owner(5, 0), wall.owner(5, 1), wall.owner(5, 2));
    }

    private static void feed() {
        BillWall wall = new BillWall();
        for (int n : new int[] {0, -1, 9, Integer.MIN_VALUE, Integer.MAX_VALUE}) {
            Due.due("feed(" + n + ")", Due.OUTSIDE, wall.feed(n, 0));
        }
        Due.due("feed takes the lowest alone", 5, wall.feed(5, 0x7878782066696e65L << 8 | ' '));
        Due.due("feed goes on", 7, wall.feed(2, '7' << 8 | ';'));
        Due.due("fed fine", 0, wall.wall());
        Due.due("fed fine", 7, wall.told(3));
        for (int i = 1; i <= 37; i++) {
            Due.due("feed", 8 * i, wall.feed(8, 0x2020202020202020L));
        }
        Due.due("feed beyond 300", Due.FULL, wall.feed(5, 0x2020202020L));
        Due.due("feed beyond 300", 296, wall.told(9));
        Due.due("feed OUTSIDE ahead of FULL", Due.OUTSIDE, wall.feed(9, 0));
        Due.due("feed to 300", 300, wall.feed(4, 0x20202020L));
        Due.due("feed beyond 300", Due.FULL, wall.feed(1, ' '));
        Due.due("300 blanks", 0, wall.wall());
        Due.due("empty again", 1, wall.feed(1, -1L));
        Due.due("a byte of 255", -11, wall.wall());
    }

    private static void wholeText() {
        BillWall wall = new BillWall();
        Due.feed(wall, "size 5 4;guard 99;fine 999;read 100;bare 4 3 1 1;bare 0 0 2 1;pass 4 0;pass 0 99;"
                + "kind 5 5 4;kind 0 1 1;");
        Due.due("wall()", 2, wall.wall());
        Due.row("told", Due.of(5, 4, 99, 999, 100, 2, 2, 0), wall.told(0), wall.told(1), wall.told(2), wall.told(3),
                wall.told(4), wall.told(5), wall.told(6), wall.told(9));
        Due.feed(wall, "pass 15 5;bare 15 7 1 1;guard 0;fine 0;read 1;kind 5 16 8;");
        Due.due("wall() without size", 1, wall.wall());
        Due.row("told", Due.of(16, 8, 0, 0, 1, 1, 1), wall.told(0), wall.told(1), wall.told(2), wall.told(3),
                wall.told(4), wall.told(5), wall.told(6));
        Due.row("kind", Due.of(5, 16, 8), wall.kind(0, 0), wall.kind(0, 1), wall.kind(0, 2));
        Due.feed(wall, "guard 1;size 16 8;");
        Due.due("size behind guard", 0, wall.wall());
        Due.row("what was told before is untold", Due.of(1, 10, 60, 0, 0, 1, 0), wall.told(2), wall.told(3),
                wall.told(4), wall.told(5), wall.told(6), wall.passes(15), wall.bare(15, 7));
        String pass = "";
        for (int x = 0; x < 16; x++) {
            pass += "pass " + x + " " + (x + 20) + ";";
        }
        Due.feed(wall, pass);
        Due.due("16 columns", 0, wall.wall());
        Due.row("16 columns", Due.of(20, 27, 35), wall.passes(0), wall.passes(7), wall.passes(15));
        Due.feed(wall, "bare 0 0 1 1;".repeat(8) + "kind 0 1 1;".repeat(12));
        Due.due("8 strips, 12 KINDS", 12, wall.wall());
        Due.due("8 strips", 8, wall.told(5));
    }

    private static void blanks() {
        BillWall wall = Due.walled("  size5   004;guard007 ; kind 1 2 03 ;  ");
        Due.row("blanks", Due.of(5, 4, 7, 1, 3), wall.told(0), wall.told(1), wall.told(2), wall.told(6),
                wall.kind(0, 2));
        Due.due("blanks alone", 0, Due.walled("   ").told(6));
        Due.due("no text", 0, new BillWall().wall());
    }

    private static void wrongHere() {
        Due.faulty("paper 1;", 1, 0);
        Due.faulty(" siz 5 4;", 1, 1);
        Due.faulty("sizes 5 4;", 1, 0);
        Due.faulty("sizeguard 5;", 1, 0);
        Due.faulty("guard 5;5;", 1, 8);
        Due.faulty(";", 1, 0);
        Due.faulty("fine 5;;", 1, 7);
        Due.faulty("fine 5,", 1, 6);
        Due.faulty("Fine 5;", 1, 0);
        Due.faulty("finE 5;", 1, 0);
        Due.faulty("fineE 5;", 1, 4);
        Due.faulty("fine\t5;", 1, 4);
        Due.faulty("fine -5;", 1, 5);
        Due.faulty("fine 5 6;", 1, 7);
        Due.faulty("fine 5 1234;", 1, 7);
        Due.faulty("fine ;", 1, 5);
        Due.faulty("fine fine 5;", 1, 5);
        Due.faulty("fine 5 fine", 1, 7);
        Due.faulty("fi ne 5;", 1, 0);
        Due.faulty("size 5;", 1, 6);
        Due.faulty("kind 0 1;", 1, 8);
        Due.faulty("fine", 1, 4);
        Due.faulty("fine  ", 1, 6);
        Due.faulty("fine 5", 1, 6);
        Due.faulty("fine 5  ", 1, 8);
        Due.faulty("kind 0 1 1;size 4 4;", 1, 11);
        Due.faulty("pass 0 1;size 4 4;", 1, 9);
        Due.faulty("bare 0 0 1 1;size 4 4;", 1, 13);
        Due.faulty("size 4 4;bare 0 0 1 1;size 4 4;", 1, 22);
    }

    private static void badNumbers() {
        Due.faulty("size 0 1;", 2, 5);
        Due.faulty("size 17 1;", 2, 5);
        Due.faulty("size 1 0;", 2, 7);
        Due.faulty("size 1 9;", 2, 7);
        Due.faulty("guard 100;", 2, 6);
        Due.faulty("fine 1000;", 2, 5);
        Due.faulty("fine 0001;", 2, 5);
        Due.faulty("fine 00000000004294967296;", 2, 5);
        Due.faulty("read 0;", 2, 5);
        Due.faulty("read 101;", 2, 5);
        Due.faulty("read 101", 2, 5);
        Due.faulty("kind 6 1 1;", 2, 5);
        Due.faulty("kind 0 0 1;", 2, 7);
        Due.faulty("kind 0 1 0;", 2, 9);
        Due.faulty("kind 0 17 1;", 2, 7);
        Due.faulty("kind 0 16 9;", 2, 10);
        Due.faulty("size 4 3;kind 0 5 1;", 2, 16);
        Due.faulty("size 4 3;kind 0 4 4;", 2, 18);
        Due.faulty("pass 16 1;", 2, 5);
        Due.faulty("pass 1 100;", 2, 7);
        Due.faulty("size 4 3;pass 4 1;", 2, 14);
        Due.faulty("bare 16 0 1 1;", 2, 5);
        Due.faulty("bare 0 8 1 1;", 2, 7);
        Due.faulty("bare 0 0 0 1;", 2, 9);
        Due.faulty("bare 0 0 1 0;", 2, 11);
        Due.faulty("bare 1 0 16 1;", 2, 9);
        Due.faulty("bare 0 1 1 8;", 2, 11);
        Due.faulty("size 4 3;bare 4 0 1 1;", 2, 14);
        Due.faulty("size 4 3;bare 0 3 1 1;", 2, 16);
        Due.faulty("size 4 3;bare 3 0 2 1;", 2, 18);
        Due.faulty("size 4 3;bare 0 2 1 2;", 2, 20);
    }

    private static void toldBefore() {
        Due.faulty("size 4 4;size 4 4;", 3, 9);
        Due.faulty("guard 4;guard 4;", 3, 8);
        Due.faulty("fine 4; fine 4;", 3, 8);
        Due.faulty("read 4;size 4 4;read x", 3, 16);
        Due.faulty("bare 0 0 1 1;".repeat(8) + "bare 99 0 1 1;", 3, 104);
        Due.faulty("kind 0 1 1;".repeat(12) + "kind 0 1 1;", 3, 132);
        Due.faulty("pass 1 1;pass 1 1;", 4, 14);
        Due.faulty("pass 0 1;pass 1 1;pass 00 x", 4, 23);
        Due.faulty("pass 0 1;pass 1 1;pass 0001", 2, 23);
    }

    private static void newWall() {
        BillWall wall = Due.walled("kind 0 2 1;kind 1 2 1;");
        wall.seed(77);
        wall.paste(0, 0, 0);
        wall.paste(1, 1, 0);
        wall.days(5);
        wall.tear(0, 0);
        wall.show(0, 0, 0);
        wall.look(0, 0, Due.NONE);
        wall.keep(0);
        wall.keep(1);
        Due.due("FINES ahead", 10, wall.owner(1, 1));
        Due.feed(wall, "kind 1 2 1;");
        Due.due("new wall", 1, wall.wall());
        Due.row("new wall: told", Due.of(0, 0, 0, 0), wall.told(7), wall.told(8), wall.told(9), wall.told(10));
        Due.row("new wall", Due.of(Due.NONE, Due.UNKNOWN, 0, Due.NOT, Due.NOT, 77), wall.above(1, 0),
                wall.bill(0, 0), wall.owner(1, 1), wall.goBack(0), wall.goBack(1), wall.seed(1));
        wall.show(0, 0, 0);
        Due.due("looks are gone", 1, wall.orders());
        wall.paste(0, 0, 0);
        Due.due("TORN CELLS are gone", 0, wall.bill(0, 5));
    }

    private static void faultAndText() {
        BillWall wall = new BillWall();
        Due.feed(wall, "fine 5;x");
        Due.due("wall()", -11, wall.wall());
        Due.due("fault()", 7, wall.fault());
        Due.due("the text is empty", 0, wall.told(9));
        Due.due("nothing of it is taken", 10, wall.told(3));
        wall.feed(1, ' ');
        Due.due("feed leaves the fault", 7, wall.fault());
        Due.due("wall()", 0, wall.wall());
        Due.due("no fault any more", Due.NONE, wall.fault());
    }

    private static void told() {
        BillWall wall = Due.walled("kind 0 1 1;");
        Due.row("told", Due.of(Due.OUTSIDE, Due.OUTSIDE, Due.OUTSIDE), wall.told(-1), wall.told(11),
                wall.told(Integer.MIN_VALUE));
        wall.paste(0, 0, 0);
        wall.paste(0, 0, 0);
        wall.peel(1);
        wall.days(4);
        wall.feed(3, 0);
        wall.show(0, 0, 0);
        Due.row("told", Due.of(2, 4, 3, 1), wall.told(7), wall.told(8), wall.told(9), wall.told(10));
    }

    private static void kind() {
        BillWall wall = Due.walled("kind 4 3 2;kind 0 16 8;");
        Due.row("kind", Due.of(4, 3, 2, 0, 16, 8), wall.kind(0, 0), wall.kind(0, 1), wall.kind(0, 2), wall.kind(1, 0),
                wall.kind(1, 1), wall.kind(1, 2));
        Due.row("kind refused", Due.of(Due.UNKNOWN, Due.UNKNOWN, Due.OUTSIDE, Due.OUTSIDE, Due.UNKNOWN),
                wall.kind(2, 0), wall.kind(-1, 0), wall.kind(0, 3), wall.kind(1, -1), wall.kind(2, 3));
    }

    private static void passes() {
        BillWall wall = Due.walled("size 3 1;pass 1 0;pass 2 99;");
        Due.row("passes", Due.of(1, 0, 99, Due.OUTSIDE, Due.OUTSIDE), wall.passes(0), wall.passes(1), wall.passes(2),
                wall.passes(3), wall.passes(-1));
    }

    private static void bare() {
        BillWall wall = Due.walled("size 5 4;bare 1 1 2 2;bare 2 2 3 1;");
        String[] rows = {".....", ".##..", ".####", "....."};
        for (int y = 0; y < 4; y++) {
            for (int x = 0; x < 5; x++) {
                Due.due("bare(" + x + ", " + y + ")", rows[y].charAt(x) == '#' ? 1 : 0, wall.bare(x, y));
            }
        }
        Due.row("bare refused", Due.of(Due.OUTSIDE, Due.OUTSIDE, Due.OUTSIDE, Due.OUTSIDE), wall.bare(5, 0),
                wall.bare(0, 4), wall.bare(-1, 0), wall.bare(0, -1));
    }
}
