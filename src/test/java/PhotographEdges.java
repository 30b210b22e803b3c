/** Edges of section 3 and of promises 20 to 25. */
final class PhotographEdges {
    private static final int MAX = Edge.MAX, MIN = Edge.MIN;

    private PhotographEdges() {
    }

    static void all() {
        Edge.of("======== 3", "for BILLS 0 to n less 1 of it (10 at most)", PhotographEdges::mostShown);
        Edge.of("======== 3", "at some CELLS which is ABOVE (or none of them: bare).", PhotographEdges::toldAtNone);
        Edge.of("======== 3", "A CELL at which a BILL is told to be ABOVE that has it not",
                PhotographEdges::toldWhereItIsNot);
        Edge.of("======== 3", "or bare at which one has it, makes it IMPOSSIBLE.", PhotographEdges::toldBare);
        Edge.of("======== 3", "OVER: at a CELL that is told as b all others that have it lie below b.",
                PhotographEdges::overAllOthers);
        Edge.of("======== 3", "ORDERS are rows of all, each pasted behind those it lies over.",
                PhotographEdges::chainsAndRings);
        Edge.of("======== 3", "if in all ORDERS a is behind b (there is an ORDER).", PhotographEdges::surelyByOrders);
        Edge.of("======== 3", "THE FIRST ORDER: at each place the least that can stand there.",
                PhotographEdges::leastFirst);
        Edge.of(20, "THE PHOTOGRAPH has one more BILL: its number.", PhotographEdges::showAnswer);
        Edge.of(20, "UNKNOWN (KIND), OUTSIDE (beyond THE WALL)", PhotographEdges::showOutside);
        Edge.of(20, "FULL (10).", PhotographEdges::showFull);
        Edge.of(21, "(NONE: none; the newer one counts): 1.", PhotographEdges::newerLook);
        Edge.of(21, "UNKNOWN, OUTSIDE.", PhotographEdges::lookRefused);
        Edge.of(22, "There is no PHOTOGRAPH: how many BILLS it had.", PhotographEdges::burn);
        Edge.of(23, "(1 without BILLS of THE PHOTOGRAPH)", PhotographEdges::ordersOfNone);
        Edge.of(23, "0, if it is IMPOSSIBLE.", PhotographEdges::ordersImpossible);
        Edge.of(24, "BILL i of THE FIRST ORDER, from below; NONE: there is none.", PhotographEdges::orderNone);
        Edge.of(24, "OUTSIDE (i below 0).", PhotographEdges::orderOutside);
        Edge.of(25, "Whether BILL a SURELY lies over b, of THE PHOTOGRAPH: 1, 0.", PhotographEdges::surelyAnswer);
        Edge.of(25, "UNKNOWN (one twice).", PhotographEdges::surelyRefused);
    }

    /** Ten of two columns, each with one CELL in common with the next one: column b + 1 with BILL b + 1. */
    private static BillWall tenInARow() {
        BillWall wall = Due.walled("size 11 1;kind 0 2 1;");
        for (int b = 0; b < 10; b++) {
            wall.show(0, b, 0);
        }
        return wall;
    }

    private static void mostShown() {
        BillWall wall = Due.walled("size 1 1;kind 0 1 1;");
        for (int b = 0; b < 10; b++) {
            Due.due("show", b, wall.show(0, 0, 0));
        }
        Due.row("ten", Due.of(Due.FULL, 10, 3628800, 1, 362880, 8, 9), wall.show(0, 0, 0), wall.told(10),
                wall.orders(), wall.look(0, 0, 9), wall.orders(), wall.order(8), wall.order(9));
    }

    private static void toldAtNone() {
        BillWall wall = Due.walled("size 2 1;kind 0 2 1;");
        wall.show(0, 0, 0);
        wall.show(0, 0, 0);
        Due.row("no CELL is told", Due.of(2, 0, 1, 0, 0), wall.orders(), wall.order(0), wall.order(1),
                wall.surely(0, 1), wall.surely(1, 0));
        BillWall bare = Due.walled("size 2 1;kind 0 1 1;");
        bare.show(0, 0, 0);
        Due.row("one CELL is told bare, and is", Due.of(1, 1, 0), bare.look(1, 0, Due.NONE), bare.orders(),
                bare.order(0));
    }

    private static void toldWhereItIsNot() {
        for (int y = 0; y <= 4; y++) {
            for (int x = 0; x <= 4; x++) {
                BillWall wall = Due.walled("size 5 5;kind 0 3 3;kind 0 5 5;");
                wall.show(0, 1, 1);
                wall.show(1, 0, 0);
                wall.look(x, y, 0);
                boolean has = x >= 1 && x <= 3 && y >= 1 && y <= 3;
                Due.row("CELL " + x + " " + y, Due.of(has ? 1 : 0, has ? 1 : Due.NONE, has ? 1 : 0, 0),
                        wall.orders(), wall.order(0), wall.surely(0, 1), wall.surely(1, 0));
            }
        }
        BillWall alone = Due.walled("size 2 1;kind 0 1 1;");
        alone.show(0, 0, 0);
        alone.look(1, 0, 0);
        Due.row("it alone", Due.of(0, Due.NONE), alone.orders(), alone.order(0));
    }

    private static void toldBare() {
        for (int y = 0; y <= 3; y++) {
            for (int x = 0; x <= 3; x++) {
                BillWall wall = Due.walled("size 4 4;kind 0 2 2;");
                wall.show(0, 1, 1);
                wall.look(x, y, Due.NONE);
                boolean has = x >= 1 && x <= 2 && y >= 1 && y <= 2;
                Due.row("CELL " + x + " " + y, Due.of(has ? 0 : 1, has ? Due.NONE : 0), wall.orders(),
                        wall.order(0));
            }
        }
        BillWall last = Due.walled("kind 0 1 1;");
        last.show(0, 15, 7);
        last.look(15, 7, Due.NONE);
        Due.due("the last CELL of THE WALL", 0, last.orders());
    }

    private static void overAllOthers() {
        BillWall alone = Due.walled("size 3 1;kind 0 2 1;");
        alone.show(0, 0, 0);
        alone.show(0, 1, 0);
        alone.look(0, 0, 0);
        Due.row("none other has it", Due.of(2, 0), alone.orders(), alone.surely(0, 1));
        alone.look(1, 0, 0);
        Due.row("one has it", Due.of(1, 1, 1, 0), alone.orders(), alone.surely(0, 1), alone.order(0), alone.order(1));
        BillWall heap = Due.walled("size 1 1;kind 0 1 1;");
        for (int b = 0; b < 10; b++) {
            heap.show(0, 0, 0);
        }
        heap.look(0, 0, 0);
        Due.row("nine have it", Due.of(362880, 1, 1, 0, 1, 0), heap.orders(), heap.surely(0, 1), heap.surely(0, 9),
                heap.surely(9, 0), heap.order(0), heap.order(9));
        BillWall later = Due.walled("size 1 1;kind 0 1 1;");
        later.show(0, 0, 0);
        later.look(0, 0, 0);
        later.show(0, 0, 0);
        Due.row("one that is shown behind the look", Due.of(1, 1, 0), later.surely(0, 1), later.order(0),
                later.order(1));
    }

    private static void chainsAndRings() {
        BillWall up = tenInARow();
        BillWall down = tenInARow();
        for (int b = 0; b < 9; b++) {
            up.look(b + 1, 0, b + 1);
            down.look(b + 1, 0, b);
        }
        Due.row("a chain of ten upwards", Due.of(1, 0, 1, 9), up.orders(), up.order(0), up.order(1), up.order(9));
        Due.row("a chain of ten downwards", Due.of(1, 9, 8, 0), down.orders(), down.order(0), down.order(1),
                down.order(9));
        BillWall two = Due.walled("size 2 1;kind 0 2 1;");
        two.show(0, 0, 0);
        two.show(0, 0, 0);
        two.look(0, 0, 0);
        two.look(1, 0, 1);
        Due.row("a ring of two", Due.of(0, Due.NONE, 0, 0), two.orders(), two.order(0), two.surely(0, 1),
                two.surely(1, 0));
        BillWall ten = Due.walled("size 11 1;kind 0 2 1;");
        for (int b = 0; b < 10; b++) {
            ten.show(0, b < 2 ? 0 : b, 0);
        }
        ten.look(0, 0, 0);
        ten.look(1, 0, 1);
        Due.row("a ring of two of ten", Due.of(0, Due.NONE, Due.NONE, 0), ten.orders(), ten.order(0), ten.order(9),
                ten.surely(9, 8));
        BillWall four = Due.walled("size 3 3;kind 0 3 1;kind 0 1 3;");
        four.show(0, 0, 0);
        four.show(1, 2, 0);
        four.show(0, 0, 2);
        four.show(1, 0, 0);
        four.look(2, 0, 0);
        four.look(2, 2, 1);
        four.look(0, 2, 2);
        Due.row("not yet a ring", Due.of(1, 3, 2, 1, 0, 1), four.orders(), four.order(0), four.order(1),
                four.order(2), four.order(3), four.surely(0, 3));
        four.look(0, 0, 3);
        Due.row("a ring of four", Due.of(0, Due.NONE, Due.NONE, 0, 0), four.orders(), four.order(0), four.order(3),
                four.surely(0, 3), four.surely(3, 0));
    }

    private static void surelyByOrders() {
        BillWall wall = tenInARow();
        for (int b = 0; b < 9; b++) {
            wall.look(b + 1, 0, b);
        }
        Due.row("through nine others", Due.of(1, 0, 1, 0), wall.surely(0, 9), wall.surely(9, 0), wall.surely(8, 9),
                wall.surely(9, 8));
        wall.look(5, 0, 5);
        Due.row("turned in the middle", Due.of(0, 0, 1, 1, 1), wall.surely(0, 9), wall.surely(9, 0),
                wall.surely(0, 4), wall.surely(5, 9), wall.surely(5, 4));
        wall.look(0, 0, 9);
        Due.row("there is no ORDER", Due.of(0, 0, 0), wall.orders(), wall.surely(0, 1), wall.surely(1, 0));
    }

    private static void leastFirst() {
        BillWall wall = Due.walled("size 16 1;kind 0 1 1;kind 0 2 1;");
        wall.show(1, 0, 0);
        for (int b = 1; b < 9; b++) {
            wall.show(0, b + 1, 0);
        }
        wall.show(1, 1, 0);
        long[] free = {0, 1, 2, 3, 4, 5, 6, 7, 8, 9};
        long[] last = {1, 2, 3, 4, 5, 6, 7, 8, 9, 0};
        ordered("none told", wall, free);
        wall.look(1, 0, 9);
        ordered("the last over the first", wall, Due.of(0, 1, 2, 3, 4, 5, 6, 7, 8, 9));
        wall.look(1, 0, 0);
        ordered("the first over the last", wall, last);
        wall.look(2, 0, 9);
        ordered("and that over the second", wall, last);
        wall.look(2, 0, 1);
        ordered("and the second over that", wall, Due.of(2, 3, 4, 5, 6, 7, 8, 9, 0, 1));
    }

    private static void ordered(String what, BillWall wall, long... want) {
        for (int i = 0; i < want.length; i++) {
            Due.due(what + ": order(" + i + ")", want[i], wall.order(i));
        }
    }

    private static void showAnswer() {
        BillWall wall = Edge.scene();
        Due.row("show", Due.of(2, 3, 4), wall.show(1, 0, 0), wall.show(1, 4, 2), wall.told(10));
        Due.row("also on a 'bare' strip, and all of THE WALL", Due.of(4, 4, 1), wall.show(2, 0, 0), wall.told(7),
                wall.above(1, 0));
    }

    private static void showOutside() {
        for (int k : new int[] {-1, 3, 12, MAX, MIN}) {
            Edge.refused("show(" + k + ", 0, 0)", Due.UNKNOWN, Edge::scene, wall -> wall.show(k, 0, 0));
        }
        for (int x : new int[] {-1, 3, 5, 16, MAX, MAX - 2, MIN}) {
            Edge.refused("show(0, " + x + ", 0)", Due.OUTSIDE, Edge::scene, wall -> wall.show(0, x, 0));
        }
        for (int y : new int[] {-1, 2, 3, 8, MAX, MAX - 1, MIN}) {
            Edge.refused("show(0, 0, " + y + ")", Due.OUTSIDE, Edge::scene, wall -> wall.show(0, 0, y));
        }
        Due.row("the last place", Due.of(2, 0), Edge.scene().show(0, 2, 1), new BillWall().told(10));
    }

    private static void showFull() {
        BillWall wall = Edge.scene();
        for (int b = 2; b < 10; b++) {
            Due.due("show", b, wall.show(1, 0, 0));
        }
        Due.row("an 11th", Due.of(Due.FULL, 10), wall.show(1, 0, 0), wall.told(10));
        Edge.refused("an 11th", Due.FULL, Edge::fullScene, full -> full.show(2, 0, 0));
        Due.row("behind burn there is room", Due.of(10, 0), wall.burn(), wall.show(1, 0, 0));
    }

    private static void newerLook() {
        BillWall wall = Due.walled("size 3 1;kind 0 2 1;");
        wall.show(0, 0, 0);
        wall.show(0, 1, 0);
        Due.row("1", Due.of(1, 1, 1), wall.look(1, 0, 0), wall.surely(0, 1), wall.orders());
        Due.row("another one", Due.of(1, 0, 1, 1), wall.look(1, 0, 1), wall.surely(0, 1), wall.surely(1, 0),
                wall.orders());
        Due.row("the same again", Due.of(1, 1), wall.look(1, 0, 1), wall.orders());
        Due.row("none", Due.of(1, 0), wall.look(1, 0, Due.NONE), wall.orders());
        Due.row("one again", Due.of(1, 1), wall.look(1, 0, 0), wall.orders());
        BillWall early = Due.walled("size 1 1;kind 0 1 1;");
        Due.row("none, without BILLS", Due.of(1, 1, 0, 0), early.look(0, 0, Due.NONE), early.orders(),
                early.show(0, 0, 0), early.orders());
    }

    private static void lookRefused() {
        for (int b : new int[] {2, 9, 10, -2, MAX, MIN}) {
            Edge.refused("look(1, 0, " + b + ")", Due.UNKNOWN, Edge::scene, wall -> wall.look(1, 0, b));
        }
        for (int x : new int[] {-1, 5, 16, MAX, MIN}) {
            Edge.refused("look(" + x + ", 0, 0)", Due.OUTSIDE, Edge::scene, wall -> wall.look(x, 0, 0));
            Edge.refused("look(" + x + ", 0, NONE)", Due.OUTSIDE, Edge::scene, wall -> wall.look(x, 0, -1));
        }
        for (int y : new int[] {-1, 3, 8, MAX, MIN}) {
            Edge.refused("look(0, " + y + ", 0)", Due.OUTSIDE, Edge::scene, wall -> wall.look(0, y, 0));
        }
        BillWall wall = Edge.scene();
        Due.row("the last CELL, the last BILL", Due.of(1, 1), wall.look(4, 2, Due.NONE), wall.look(3, 1, 1));
        Due.due("without BILLS", Due.UNKNOWN, new BillWall().look(0, 0, 0));
    }

    private static void burn() {
        BillWall wall = Edge.fullScene();
        Due.row("burn", Due.of(10, 0, 1, Due.NONE, 0, 20), wall.burn(), wall.told(10), wall.orders(), wall.order(0),
                wall.burn(), wall.told(7));
        Due.row("none", Due.of(0, Due.UNKNOWN, Due.UNKNOWN), new BillWall().burn(), wall.look(0, 0, 0),
                wall.surely(0, 1));
        wall.show(1, 0, 0);
        wall.look(0, 0, Due.NONE);
        Due.row("with what was told of CELLS", Due.of(0, 1, 0, 1, 0), wall.orders(), wall.burn(), wall.show(1, 0, 0),
                wall.orders(), wall.order(0));
        wall.burn();
        wall.show(1, 4, 2);
        wall.look(0, 0, Due.NONE);
        Due.row("with where they hung", Due.of(1, 0), wall.orders(), wall.order(0));
    }

    private static void ordersOfNone() {
        BillWall wall = new BillWall();
        Due.row("1", Due.of(1, 1, 1), wall.orders(), wall.look(0, 0, Due.NONE), wall.orders());
        BillWall burnt = Edge.scene();
        burnt.burn();
        Due.due("burnt", 1, burnt.orders());
    }

    private static void ordersImpossible() {
        BillWall wall = Edge.scene();
        Due.due("not yet", 1, wall.orders());
        wall.look(4, 2, 0);
        Due.due("told where it is not", 0, wall.orders());
        wall.look(4, 2, Due.NONE);
        Due.due("told anew", 1, wall.orders());
        wall.look(0, 0, Due.NONE);
        Due.due("told bare", 0, wall.orders());
    }

    private static void orderNone() {
        BillWall wall = Edge.scene();
        Due.row("behind the last", Due.of(0, 1, Due.NONE, Due.NONE, Due.NONE), wall.order(0), wall.order(1),
                wall.order(2), wall.order(10), wall.order(MAX));
        wall.look(4, 2, 0);
        Due.row("IMPOSSIBLE", Due.of(Due.NONE, Due.NONE), wall.order(0), wall.order(1));
        Due.row("without BILLS", Due.of(Due.NONE, Due.NONE), new BillWall().order(0), new BillWall().order(MAX));
        Due.row("the last of ten", Due.of(9, Due.NONE), Edge.fullScene().order(9), Edge.fullScene().order(10));
    }

    private static void orderOutside() {
        Edge.refused("order(-1)", Due.OUTSIDE, Edge::scene, wall -> wall.order(-1));
        Edge.refused("order(MIN)", Due.OUTSIDE, Edge::scene, wall -> wall.order(MIN));
        Due.due("without BILLS", Due.OUTSIDE, new BillWall().order(-1));
        BillWall wall = Edge.scene();
        wall.look(4, 2, 0);
        Due.due("IMPOSSIBLE", Due.OUTSIDE, wall.order(-1));
    }

    private static void surelyAnswer() {
        BillWall wall = Edge.scene();
        Due.row("surely", Due.of(1, 0), wall.surely(1, 0), wall.surely(0, 1));
        BillWall ten = Edge.fullScene();
        Due.row("not surely", Due.of(0, 0), ten.surely(9, 0), ten.surely(0, 9));
        ten.look(0, 0, 9);
        Due.row("the last of ten", Due.of(1, 1, 0, 0), ten.surely(9, 0), ten.surely(9, 8), ten.surely(0, 9),
                ten.surely(8, 0));
    }

    private static void surelyRefused() {
        Edge.refused("one twice", Due.UNKNOWN, Edge::scene, wall -> wall.surely(0, 0));
        Edge.refused("one twice", Due.UNKNOWN, Edge::scene, wall -> wall.surely(1, 1));
        for (int b : new int[] {2, 10, -1, MAX, MIN}) {
            Edge.refused("surely(" + b + ", 0)", Due.UNKNOWN, Edge::scene, wall -> wall.surely(b, 0));
            Edge.refused("surely(0, " + b + ")", Due.UNKNOWN, Edge::scene, wall -> wall.surely(0, b));
            Edge.refused("surely(" + b + ", " + b + ")", Due.UNKNOWN, Edge::scene, wall -> wall.surely(b, b));
        }
        Due.due("without BILLS", Due.UNKNOWN, new BillWall().surely(0, 1));
    }
}
