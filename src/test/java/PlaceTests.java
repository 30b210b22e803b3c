/** Promises 26 to 28: THE BEST PLACE, THE BEST TWO, RIVALS. */
final class PlaceTests {
    private PlaceTests() {
    }

    public static void main(String[] args) {
        best();
        bestWithFines();
        bestOverOwn();
        bestOverUnlikeColumns();
        bestRefused();
        two();
        twoOverlap();
        twoRefused();
        rivals();
        rivalsLeaveAll();
        rivalsDays();
        Due.end("PlaceTests");
    }

    private static void found(BillWall wall, int k, int x, int y, int gain) {
        Due.row("best of " + k, Due.of(x, y, gain), wall.best(k, 0), wall.best(k, 1), wall.best(k, 2));
    }

    private static void foundTwo(BillWall wall, int k, int j, long... want) {
        Due.row("two of " + k + ", " + j, want, wall.two(k, j, 0), wall.two(k, j, 1), wall.two(k, j, 2),
                wall.two(k, j, 3), wall.two(k, j, 4));
    }

    private static void best() {
        BillWall wall = Due.walled("size 6 3;bare 3 0 1 2;pass 3 9;pass 4 5;kind 0 2 1;kind 0 6 3;kind 1 1 1;");
        found(wall, 0, 3, 2, 14);
        found(wall, 2, 3, 2, 9);
        Due.due("no place", Due.NOT, wall.best(1, 2));
        BillWall like = Due.walled("size 4 3;bare 0 0 1 1;kind 0 2 2;");
        found(like, 0, 1, 0, 4);
        like.paste(0, 1, 0);
        found(like, 0, 0, 1, 3);
        Due.due("tried only", 1, like.told(7));
    }

    private static void bestWithFines() {
        BillWall wall = Due.walled("size 4 1;guard 2;fine 3;pass 0 9;pass 1 7;kind 0 1 1;kind 1 1 1;kind 2 4 1;");
        wall.paste(0, 0, 0);
        found(wall, 1, 1, 0, 7);
        wall.paste(1, 1, 0);
        found(wall, 1, 0, 0, 6);
        found(wall, 2, 0, 0, 18 - 6);
        wall.days(1);
        found(wall, 2, 0, 0, 18 - 6);
        wall.days(1);
        found(wall, 2, 0, 0, 18);
        found(wall, 1, 0, 0, 9);
        BillWall dear = Due.walled("size 1 1;fine 999;kind 0 1 1;kind 1 1 1;");
        dear.paste(0, 0, 0);
        found(dear, 1, 0, 0, 1 - 999);
    }

    private static void bestOverOwn() {
        BillWall wall = Due.walled("size 5 1;read 60;pass 0 9;kind 0 3 1;kind 0 1 1;");
        wall.paste(0, 0, 0);
        found(wall, 1, 3, 0, 1);
        found(wall, 0, 2, 0, 2);
        BillWall lost = Due.walled("size 3 1;read 100;pass 0 9;kind 0 3 1;kind 0 1 1;");
        lost.paste(0, 0, 0);
        found(lost, 1, 0, 0, 9 - 11);
    }

    /** What passes the columns that it loses is taken from its WORTH, each of them once. */
    private static void bestOverUnlikeColumns() {
        BillWall wall = Due.walled("size 4 1;read 50;pass 0 5;pass 1 6;pass 2 7;pass 3 8;kind 0 4 1;kind 0 2 1;");
        wall.paste(0, 0, 0);
        found(wall, 1, 0, 0, 0);
        found(wall, 0, 0, 0, 0);
        wall.tear(1, 0);
        found(wall, 1, 0, 0, 11 - 5);
    }

    private static void bestRefused() {
        BillWall wall = Due.walled("kind 0 1 1;kind 0 16 8;bare 3 3 1 1;");
        Due.row("best refused", Due.of(Due.UNKNOWN, Due.UNKNOWN, Due.UNKNOWN, Due.OUTSIDE, Due.OUTSIDE, Due.OUTSIDE,
                Due.NOT), wall.best(2, 0), wall.best(-1, 0), wall.best(2, 3), wall.best(0, 3), wall.best(0, -1),
                wall.best(1, 3), wall.best(1, 0));
        for (int i = 0; i < 19; i++) {
            wall.paste(0, 0, 0);
        }
        found(wall, 0, 1, 0, 1);
        wall.paste(0, 0, 0);
        Due.row("20 BILLS", Due.of(Due.NOT, Due.OUTSIDE, Due.UNKNOWN), wall.best(0, 2), wall.best(0, 3),
                wall.best(2, 3));
    }

    private static void two() {
        BillWall wall = Due.walled("size 4 2;pass 1 5;pass 3 7;kind 0 2 1;kind 0 1 2;kind 1 1 1;");
        foundTwo(wall, 0, 1, 0, 0, 3, 0, 6 + 14);
        foundTwo(wall, 1, 0, 3, 0, 0, 0, 14 + 6);
        foundTwo(wall, 0, 0, 2, 0, 2, 1, 16);
        foundTwo(wall, 2, 2, 3, 0, 3, 1, 14);
        Due.due("tried only", 0, wall.told(7));
        wall.paste(2, 3, 0);
        foundTwo(wall, 2, 2, 1, 0, 3, 1, 5 + 7);
    }

    private static void twoOverlap() {
        BillWall wall = Due.walled("size 3 1;read 50;pass 0 5;kind 0 2 1;kind 0 3 1;");
        foundTwo(wall, 0, 0, 0, 0, 1, 0, 5 + 2);
        foundTwo(wall, 1, 0, 0, 0, 0, 0, 6);
        foundTwo(wall, 0, 1, 0, 0, 0, 0, 7);
        BillWall fined = Due.walled("size 2 1;read 50;fine 3;pass 0 9;kind 0 2 1;kind 1 1 1;kind 1 2 1;");
        fined.paste(0, 0, 0);
        foundTwo(fined, 1, 1, 0, 0, 0, 0, 9 - 3);
        foundTwo(fined, 2, 1, 0, 0, 0, 0, 10 - 3);
        foundTwo(fined, 1, 2, 0, 0, 0, 0, 10 - 3 - 3);
    }

    private static void twoRefused() {
        BillWall wall = Due.walled("bare 0 0 1 1;kind 0 1 1;kind 1 1 1;kind 0 16 8;");
        Due.row("two refused", Due.of(Due.UNKNOWN, Due.UNKNOWN, Due.UNKNOWN, Due.OUTSIDE, Due.OUTSIDE, Due.NOT,
                Due.NOT, Due.NOT), wall.two(3, 0, 0), wall.two(0, -1, 0), wall.two(3, 1, 5), wall.two(0, 1, 5),
                wall.two(0, 0, -1), wall.two(0, 1, 4), wall.two(0, 2, 4), wall.two(2, 0, 4));
        for (int i = 0; i < 18; i++) {
            wall.paste(0, 1, 0);
        }
        foundTwo(wall, 0, 0, 2, 0, 3, 0, 2);
        wall.paste(1, 1, 0);
        Due.row("19 BILLS", Due.of(Due.NOT, 1), wall.two(0, 0, 4), wall.best(0, 2));
    }

    private static void fought(BillWall wall, int k, int j, int n, long... want) {
        Due.row("rivals " + k + ", " + j + ", " + n, want, wall.rivals(k, j, n, 0), wall.rivals(k, j, n, 1),
                wall.rivals(k, j, n, 2));
    }

    private static void rivals() {
        BillWall wall = Due.walled("size 2 1;guard 1;fine 4;pass 0 5;pass 1 3;kind 0 1 1;kind 1 1 1;");
        fought(wall, 0, 1, 1, 5, 3, 2);
        fought(wall, 1, 0, 1, 5, 3, 2);
        // the second day each takes what the other pasted a day before, at 0 FINES
        fought(wall, 0, 1, 2, 3, 5, 4);
        fought(wall, 0, 0, 3, 8, 8, 2);
        Due.row("rivals refused", Due.of(Due.UNKNOWN, Due.UNKNOWN, Due.UNKNOWN, Due.OUTSIDE, Due.OUTSIDE, Due.OUTSIDE,
                Due.OUTSIDE), wall.rivals(2, 0, 1, 0), wall.rivals(0, -1, 1, 0), wall.rivals(0, 2, 0, 3),
                wall.rivals(0, 1, 0, 0), wall.rivals(0, 1, 13, 0), wall.rivals(0, 1, 1, 3), wall.rivals(0, 1, 1, -1));
        BillWall none = Due.walled("bare 0 0 1 1;kind 0 16 8;kind 1 1 1;");
        fought(none, 0, 1, 12, 0, 12, 12);
    }

    private static void rivalsLeaveAll() {
        BillWall wall = Due.walled("size 2 1;kind 0 1 1;kind 1 1 1;");
        wall.paste(0, 0, 0);
        wall.days(2);
        wall.rivals(0, 1, 5, 0);
        Due.row("tried only", Due.of(1, 2, 0, Due.NONE, 0, 0), wall.told(7), wall.told(8), wall.above(0, 0),
                wall.above(1, 0), wall.owner(0, 1), wall.owner(1, 1));
    }

    private static void rivalsDays() {
        BillWall wall = Due.walled("size 1 1;guard 2;fine 99;kind 0 1 1;kind 1 1 1;");
        fought(wall, 0, 1, 2, 1, 0, 1);
        fought(wall, 0, 1, 3, 0, 1, 2);
        fought(wall, 0, 1, 5, 1, 0, 3);
        BillWall full = Due.walled("size 1 1;guard 0;kind 0 1 1;kind 1 1 1;");
        fought(full, 0, 1, 12, 0, 1, 20);
        for (int i = 0; i < 19; i++) {
            full.paste(0, 0, 0);
        }
        fought(full, 1, 0, 12, 1, 0, 1);
        full.paste(0, 0, 0);
        fought(full, 1, 0, 12, 0, 1, 0);
    }
}
