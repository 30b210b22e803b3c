/** Edges of section 4 and of promises 26 to 28. */
final class PlaceEdges {
    private static final int MAX = Edge.MAX, MIN = Edge.MIN;
    private static final int[] NO_KINDS = {-1, 3, 12, MAX, MIN};

    private PlaceEdges() {
    }

    static void all() {
        Edge.of("======== 4", "at which it would hang on THE WALL and on no 'bare' strip", PlaceEdges::places);
        Edge.of("======== 4", "WORTH of its OWNER then less now, less FINES due", PlaceEdges::gain);
        Edge.of("======== 4", "less FINES due; of like ones the first.", PlaceEdges::firstOfLikeOnes);
        Edge.of("======== 4", "places of both, the first pasted ahead of the second", PlaceEdges::secondOverFirst);
        Edge.of("======== 4", "greatest GAIN together", PlaceEdges::gainTogether);
        Edge.of("======== 4", "of like ones the first (the first's place, then the second's;",
                PlaceEdges::firstOfLikePairs);
        Edge.of("======== 4", "a KIND may be taken twice)", PlaceEdges::twice);
        Edge.of("======== 4", "pastes its KIND at THE BEST PLACE, if its GAIN is above 0", PlaceEdges::gainAboveNone);
        Edge.of("======== 4", "while there are BILLS left", PlaceEdges::billsLeft);
        Edge.of("======== 4", "THE DAY is one more then", PlaceEdges::dayByDay);
        Edge.of("======== 4", "tried only", PlaceEdges::triedOnly);
        Edge.of(26, "THE BEST PLACE: what = 0 column, 1 row, 2 GAIN.", PlaceEdges::best);
        Edge.of(26, "UNKNOWN, OUTSIDE", PlaceEdges::bestRefused);
        Edge.of(26, "NOT: there are 20 BILLS, or there is no place.", PlaceEdges::bestNot);
        Edge.of(27, "what = 0, 1 column, row of the first, 2, 3 of the second, 4 GAIN.", PlaceEdges::two);
        Edge.of(27, "UNKNOWN, OUTSIDE", PlaceEdges::twoRefused);
        Edge.of(27, "NOT: unlike OWNERS; 19 BILLS or more; no places.", PlaceEdges::twoNot);
        Edge.of(28, "what = 0, 1 WORTH of the OWNERS, 2 how many were pasted.", PlaceEdges::rivals);
        Edge.of(28, "UNKNOWN, OUTSIDE (n 1 .. 12).", PlaceEdges::rivalsRefused);
        Edge.of(28, "RIVALS (one KIND twice, too)", PlaceEdges::rivalsOfOneKind);
    }

    private static void best(String what, BillWall wall, int k, long... want) {
        Due.row(what, want, wall.best(k, 0), wall.best(k, 1), wall.best(k, 2));
    }

    private static void two(String what, BillWall wall, int k, int j, long... want) {
        Due.row(what, want, wall.two(k, j, 0), wall.two(k, j, 1), wall.two(k, j, 2), wall.two(k, j, 3),
                wall.two(k, j, 4));
    }

    private static void rivals(String what, BillWall wall, int k, int j, int n, long... want) {
        Due.row(what, want, wall.rivals(k, j, n, 0), wall.rivals(k, j, n, 1), wall.rivals(k, j, n, 2));
    }

    private static void places() {
        best("the only place", Due.walled("kind 0 16 8;"), 0, 0, 0, 128);
        best("the last place", Due.walled("size 3 2;bare 0 0 3 1;bare 0 1 2 1;kind 0 1 1;"), 0, 2, 1, 1);
        best("the last place of a greater one",
                Due.walled("size 5 4;bare 0 0 3 4;bare 0 0 5 2;pass 4 9;kind 0 2 2;"), 0, 3, 2, 20);
        best("the first place", Due.walled("size 3 2;bare 1 0 2 2;bare 0 1 1 1;kind 0 1 1;"), 0, 0, 0, 1);
        best("the last place is the best", Due.walled("size 3 1;pass 2 2;kind 0 1 1;"), 0, 2, 0, 2);
        best("one CELL of a strip in each place", Due.walled("size 3 3;bare 1 1 1 1;kind 0 2 2;"), 0, Due.NOT,
                Due.NOT, Due.NOT);
    }

    private static void gain() {
        best("none pass", Due.walled("size 2 1;pass 0 0;pass 1 0;kind 0 1 1;"), 0, 0, 0, 0);
        BillWall own = Due.walled("size 3 1;read 100;pass 0 9;pass 1 9;kind 0 3 1;kind 0 1 1;");
        own.paste(0, 0, 0);
        best("one's own cannot be READ then", own, 1, 0, 0, 9 - 19);
        BillWall unread = Due.walled("size 3 1;pass 0 9;kind 0 3 1;kind 0 2 1;kind 0 1 1;");
        unread.paste(0, 0, 0);
        unread.paste(1, 1, 0);
        best("one's own that cannot be READ now either", unread, 2, 0, 0, 9);
        BillWall same = Due.walled("size 1 1;pass 0 7;kind 0 1 1;");
        same.paste(0, 0, 0);
        best("as much as it takes", same, 0, 0, 0, 0);
        BillWall fined = Due.walled("size 2 1;guard 1;fine 5;pass 1 6;kind 0 1 1;kind 1 1 1;kind 1 2 1;");
        fined.paste(0, 0, 0);
        fined.paste(0, 1, 0);
        best("a FINE for one", fined, 1, 1, 0, 6 - 5);
        best("FINES for two", fined, 2, 0, 0, 7 - 10);
        fined.days(1);
        best("no FINES a day later", fined, 2, 0, 0, 7);
    }

    private static void firstOfLikeOnes() {
        best("row by row", Due.walled("size 2 2;bare 0 0 1 1;kind 0 1 1;"), 0, 1, 0, 1);
        best("the very first", Due.walled("kind 0 1 1;"), 0, 0, 0, 1);
        best("the first of the greatest", Due.walled("size 4 2;pass 1 5;pass 3 5;kind 0 1 1;"), 0, 1, 0, 5);
        BillWall low = Due.walled("size 2 1;fine 9;kind 0 1 1;kind 1 1 1;");
        low.paste(0, 0, 0);
        low.paste(0, 1, 0);
        best("below 0", low, 1, 0, 0, 1 - 9);
    }

    private static void secondOverFirst() {
        BillWall wall = Due.walled("size 2 1;pass 1 5;kind 0 2 1;kind 0 1 1;");
        two("the second hides half of the first", wall, 0, 1, 0, 0, 1, 0, 5);
        two("the second hides all of the first", wall, 1, 0, 0, 0, 0, 0, 6);
        BillWall half = Due.walled("size 2 1;read 50;pass 1 5;kind 0 2 1;kind 0 1 1;");
        two("half of the first can be READ", half, 0, 1, 0, 0, 0, 0, 6);
    }

    private static void gainTogether() {
        BillWall wall = Due.walled("size 3 1;fine 4;pass 1 8;kind 0 1 1;kind 1 1 1;kind 1 2 1;");
        wall.paste(0, 1, 0);
        two("a FINE of 4 is worth it", wall, 1, 1, 0, 0, 1, 0, 1 + 8 - 4);
        two("the second need not pay again for what is hidden", wall, 2, 1, 0, 0, 2, 0, 9 - 4 + 1);
        BillWall twice = Due.walled("size 2 1;fine 3;kind 0 2 1;kind 1 1 1;");
        twice.paste(0, 0, 0);
        two("one BILL of another loses twice", twice, 1, 1, 0, 0, 0, 0, 1 - 3);
        BillWall low = Due.walled("size 1 1;fine 9;kind 0 1 1;kind 1 1 1;");
        low.paste(0, 0, 0);
        two("below 0", low, 1, 1, 0, 0, 0, 0, 1 - 9);
    }

    private static void firstOfLikePairs() {
        two("the first's place", Due.walled("size 2 1;kind 0 1 1;"), 0, 0, 0, 0, 1, 0, 2);
        two("then the second's", Due.walled("size 3 2;kind 0 1 1;"), 0, 0, 0, 0, 1, 0, 2);
        two("row by row", Due.walled("size 2 2;bare 1 0 1 1;kind 0 1 1;"), 0, 0, 0, 0, 0, 1, 2);
        two("none pass", Due.walled("size 2 1;pass 0 0;pass 1 0;kind 0 1 1;"), 0, 0, 0, 0, 0, 0, 0);
        two("the greatest stands later", Due.walled("size 4 1;pass 2 5;pass 3 5;kind 0 1 1;"), 0, 0, 2, 0, 3, 0, 10);
    }

    private static void twice() {
        two("one place for both", Due.walled("kind 0 16 8;"), 0, 0, 0, 0, 0, 0, 128);
        two("the last KIND", Due.walled("size 2 1;" + "kind 1 2 1;".repeat(11) + "kind 0 1 1;"), 11, 11, 0, 0, 1, 0, 2);
    }

    private static void gainAboveNone() {
        rivals("0", Due.walled("size 1 1;pass 0 0;kind 0 1 1;kind 1 1 1;"), 0, 1, 12, 0, 0, 0);
        rivals("1", Due.walled("size 1 1;guard 0;kind 0 1 1;kind 1 1 1;"), 0, 1, 1, 0, 1, 2);
        rivals("a FINE as great as WORTH", Due.walled("size 1 1;fine 1;kind 0 1 1;kind 1 1 1;"), 0, 1, 1, 1, 0, 1);
        rivals("a FINE greater than WORTH", Due.walled("size 1 1;fine 999;kind 0 1 1;kind 1 1 1;"), 0, 1, 1, 1, 0, 1);
        rivals("a FINE less than WORTH", Due.walled("size 1 1;fine 1;pass 0 2;kind 0 1 1;kind 1 1 1;"), 0, 1, 1, 0,
                2, 2);
        rivals("no place for the first", Due.walled("size 2 1;bare 0 0 1 1;kind 0 2 1;kind 1 1 1;"), 0, 1, 2, 0, 1,
                1);
        rivals("no place for either", Due.walled("size 2 1;bare 0 0 2 1;kind 0 2 1;kind 1 1 1;"), 0, 1, 12, 0, 0, 0);
    }

    private static void billsLeft() {
        for (int bills = 17; bills <= 20; bills++) {
            BillWall wall = Due.walled("size 1 1;guard 0;kind 0 1 1;kind 1 1 1;kind 2 1 1;");
            for (int b = 0; b < bills; b++) {
                wall.paste(2, 0, 0);
            }
            int left = 20 - bills;
            rivals(left + " left", wall, 0, 1, 12, left % 2, left == 2 ? 1 : 0, left);
        }
        rivals("ten days of 12", Due.walled("size 1 1;guard 0;kind 0 1 1;kind 1 1 1;"), 0, 1, 12, 0, 1, 20);
        BillWall off = Due.walled("size 1 1;guard 0;kind 0 1 1;kind 1 1 1;");
        for (int b = 0; b < 20; b++) {
            off.paste(0, 0, 0);
        }
        off.peel(19);
        rivals("such as are off count", off, 0, 1, 12, 1, 0, 0);
    }

    private static void dayByDay() {
        String text = "size 1 1;guard 2;fine 9;kind 0 1 1;kind 1 1 1;";
        rivals("the first day", Due.walled(text), 0, 1, 1, 1, 0, 1);
        rivals("one day later", Due.walled(text), 0, 1, 2, 1, 0, 1);
        rivals("two days later", Due.walled(text), 0, 1, 3, 0, 1, 2);
        rivals("three days later", Due.walled(text), 0, 1, 4, 0, 1, 2);
        rivals("four days later", Due.walled(text), 0, 1, 5, 1, 0, 3);
        BillWall old = Due.walled(text);
        old.days(999);
        old.paste(0, 0, 0);
        old.days(1);
        rivals("pasted yesterday", old, 1, 0, 1, 0, 1, 0);
        rivals("the day before yesterday, on the second day", old, 1, 0, 2, 1, 0, 1);
    }

    private static void triedOnly() {
        Edge.changesNothing("best", 0, Edge::scene, wall -> wall.best(0, 1));
        Edge.changesNothing("two", 1, Edge::scene, wall -> wall.two(0, 0, 0) >= 0 ? 1 : 0);
        Edge.changesNothing("rivals", 1, Edge::scene, wall -> wall.rivals(0, 1, 12, 2) > 0 ? 1 : 0);
        Edge.changesNothing("rivals in the full", 0, Edge::fullScene, wall -> wall.rivals(0, 1, 12, 2));
    }

    private static void best() {
        BillWall wall = Due.walled("size 5 3;pass 1 4;pass 4 7;kind 0 3 2;kind 1 1 1;");
        best("on an empty one", wall, 0, 2, 0, 2 * (1 + 1 + 7));
        best("of one CELL", wall, 1, 4, 0, 7);
        wall.paste(1, 4, 0);
        best("lower down", wall, 0, 2, 1, 18);
        best("lower down, of one CELL", wall, 1, 4, 1, 7);
        BillWall last = Due.walled("pass 15 2;bare 0 0 16 7;" + "kind 0 1 1;".repeat(12));
        best("the last KIND at the last place", last, 11, 15, 7, 2);
    }

    private static void bestRefused() {
        for (int k : NO_KINDS) {
            Edge.refused("best(" + k + ", 0)", Due.UNKNOWN, Edge::scene, wall -> wall.best(k, 0));
            Edge.refused("best(" + k + ", 3)", Due.UNKNOWN, Edge::scene, wall -> wall.best(k, 3));
        }
        for (int what : new int[] {-1, 3, MAX, MIN}) {
            Edge.refused("best(0, " + what + ")", Due.OUTSIDE, Edge::scene, wall -> wall.best(0, what));
            Edge.refused("best(2, " + what + "), no place", Due.OUTSIDE, Edge::scene, wall -> wall.best(2, what));
            Edge.refused("best(0, " + what + "), full", Due.OUTSIDE, Edge::fullScene, wall -> wall.best(0, what));
        }
    }

    private static void bestNot() {
        for (int what = 0; what <= 2; what++) {
            int asked = what;
            Edge.refused("no place", Due.NOT, Edge::scene, wall -> wall.best(2, asked));
            Edge.refused("20 BILLS", Due.NOT, Edge::fullScene, wall -> wall.best(0, asked));
        }
        BillWall wall = Due.walled("size 2 1;kind 0 1 1;");
        for (int b = 0; b < 19; b++) {
            wall.paste(0, 0, 0);
        }
        best("19 BILLS", wall, 0, 1, 0, 1);
        wall.paste(0, 0, 0);
        best("20 BILLS", wall, 0, Due.NOT, Due.NOT, Due.NOT);
    }

    private static void two() {
        BillWall wall = Due.walled("size 4 3;pass 0 3;pass 3 9;kind 2 1 2;kind 2 3 1;");
        two("the first, the second", wall, 0, 1, 3, 0, 1, 2, 18 + 11);
        two("the other way", wall, 1, 0, 1, 0, 3, 1, 11 + 18);
        two("the first behind the second", Due.walled("size 4 1;pass 0 5;pass 1 5;pass 3 9;kind 0 1 1;kind 0 2 1;"),
                0, 1, 3, 0, 0, 0, 9 + 10);
        two("the first in a lower row",
                Due.walled("size 2 3;bare 0 0 2 1;bare 0 2 1 1;pass 1 4;kind 0 2 1;kind 0 1 1;"), 0, 1, 0, 1, 1, 2,
                5 + 4);
    }

    private static void twoRefused() {
        for (int k : NO_KINDS) {
            Edge.refused("two(" + k + ", 0, 0)", Due.UNKNOWN, Edge::scene, wall -> wall.two(k, 0, 0));
            Edge.refused("two(0, " + k + ", 5)", Due.UNKNOWN, Edge::scene, wall -> wall.two(0, k, 5));
            Edge.refused("two(1, " + k + ", 0), full", Due.UNKNOWN, Edge::fullScene, wall -> wall.two(1, k, 0));
        }
        for (int what : new int[] {-1, 5, MAX, MIN}) {
            Edge.refused("two(0, 0, " + what + ")", Due.OUTSIDE, Edge::scene, wall -> wall.two(0, 0, what));
            Edge.refused("two(0, 1, " + what + "), unlike", Due.OUTSIDE, Edge::scene, wall -> wall.two(0, 1, what));
            Edge.refused("two(0, 0, " + what + "), full", Due.OUTSIDE, Edge::fullScene, wall -> wall.two(0, 0, what));
        }
    }

    private static void twoNot() {
        for (int what = 0; what <= 4; what++) {
            int asked = what;
            Edge.refused("unlike OWNERS", Due.NOT, Edge::scene, wall -> wall.two(0, 1, asked));
            Edge.refused("no place for the first", Due.NOT, Edge::scene, wall -> wall.two(2, 0, asked));
            Edge.refused("no place for the second", Due.NOT, Edge::scene, wall -> wall.two(0, 2, asked));
            Edge.refused("no places", Due.NOT, Edge::scene, wall -> wall.two(2, 2, asked));
            Edge.refused("20 BILLS", Due.NOT, Edge::fullScene, wall -> wall.two(1, 1, asked));
        }
        BillWall wall = Due.walled("size 3 1;pass 2 9;kind 0 1 1;");
        for (int b = 0; b < 18; b++) {
            wall.paste(0, 0, 0);
        }
        two("18 BILLS", wall, 0, 0, 1, 0, 2, 0, 1 + 9);
        wall.paste(0, 0, 0);
        two("19 BILLS", wall, 0, 0, Due.NOT, Due.NOT, Due.NOT, Due.NOT, Due.NOT);
        best("of which one more can be pasted", wall, 0, 2, 0, 9);
    }

    private static void rivals() {
        BillWall wall = Due.walled("size 2 1;pass 0 5;pass 1 3;kind 4 1 1;kind 5 1 1;");
        rivals("the first takes the better one", wall, 0, 1, 1, 5, 3, 2);
        rivals("the other way", wall, 1, 0, 1, 5, 3, 2);
        wall.paste(0, 1, 0);
        rivals("what hangs already is counted", wall, 0, 1, 1, 8, 0, 1);
        BillWall own = Due.walled("size 3 1;kind 4 1 1;kind 4 2 1;");
        rivals("two KINDS of one OWNER", own, 0, 1, 1, 3, 3, 2);
    }

    private static void rivalsRefused() {
        for (int k : NO_KINDS) {
            Edge.refused("rivals(" + k + ", 0, 1, 0)", Due.UNKNOWN, Edge::scene, wall -> wall.rivals(k, 0, 1, 0));
            Edge.refused("rivals(0, " + k + ", 0, 3)", Due.UNKNOWN, Edge::scene, wall -> wall.rivals(0, k, 0, 3));
        }
        for (int n : new int[] {0, -1, 13, MAX, MIN}) {
            Edge.refused("rivals(0, 1, " + n + ", 0)", Due.OUTSIDE, Edge::scene, wall -> wall.rivals(0, 1, n, 0));
        }
        for (int what : new int[] {-1, 3, MAX, MIN}) {
            Edge.refused("rivals(0, 1, 1, " + what + ")", Due.OUTSIDE, Edge::scene,
                    wall -> wall.rivals(0, 1, 1, what));
        }
        BillWall free = Due.walled("size 12 2;kind 0 1 1;kind 0 12 2;");
        rivals("one day, two BILLS", free, 0, 0, 1, 2, 2, 2);
        rivals("12 days, 20 BILLS", free, 0, 0, 12, 20, 20, 20);
        BillWall slow = Due.walled("size 12 1;guard 0;kind 0 12 1;kind 1 1 1;bare 0 0 1 1;");
        rivals("12 days, 11 places", slow, 0, 1, 12, 0, 11, 11);
        rivals("11 days", slow, 0, 1, 11, 0, 11, 11);
        rivals("ten days", slow, 0, 1, 10, 0, 10, 10);
    }

    private static void rivalsOfOneKind() {
        rivals("one place", Due.walled("size 1 1;kind 3 1 1;"), 0, 0, 12, 1, 1, 1);
        rivals("two places", Due.walled("size 2 1;kind 3 1 1;"), 0, 0, 1, 2, 2, 2);
        rivals("three places", Due.walled("size 3 1;kind 3 1 1;"), 0, 0, 1, 2, 2, 2);
        rivals("three places, two days", Due.walled("size 3 1;kind 3 1 1;"), 0, 0, 2, 3, 3, 3);
    }
}
