/** Edges of section 1: the text of THE WALL and its FAULTS. */
final class TextEdges {
    private static final String WHOLE = "size 16 8;guard 99;fine 999;read 100;bare 0 0 16 8;pass 15 99;kind 5 16 8;";

    private TextEdges() {
    }

    static void all() {
        Edge.of("======== 1", "THE WALL is told in a text (300 bytes at most)", TextEdges::mostBytes);
        Edge.of("======== 1", "columns 1 .. 16", TextEdges::columns);
        Edge.of("======== 1", "rows 1 .. 8; 16 8 untold", TextEdges::rows);
        Edge.of("======== 1", "16 8 untold; once", TextEdges::size);
        Edge.of("======== 1", "0 .. 99 days; 3 untold; once", TextEdges::guard);
        Edge.of("======== 1", "0 .. 999; 10 untold; once", TextEdges::fine);
        Edge.of("======== 1", "1 .. 100; 60 untold; once", TextEdges::read);
        Edge.of("======== 1", "CELLS from column X, row Y, W columns, H rows; 8 at most", TextEdges::strips);
        Edge.of("======== 1", "so many, 0 .. 99, pass column X each day; 1 untold", TextEdges::passers);
        Edge.of("======== 1", "a column once", TextEdges::columnOnce);
        Edge.of("======== 1", "12 KINDS of bills at most", TextEdges::mostKinds);
        Edge.of("======== 1", "OWNER 0 .. 5, columns 1 .. 16, rows 1 .. 8", TextEdges::kinds);
        Edge.of("======== 1", "'size' ahead of all 'bare', 'pass', 'kind'", TextEdges::sizeAhead);
        Edge.of("======== 1", "all within THE WALL", TextEdges::withinTheWall);
        Edge.of("======== 1", "NUMBERS have one to three figures", TextEdges::figures);
        Edge.of("======== 1", "words are letters a .. z side by side", TextEdges::letters);
        Edge.of("======== 1", "blanks (32) may stand anywhere", TextEdges::blanks);
        Edge.of("======== 1", "but within words and NUMBERS", TextEdges::blanksWithin);
        Edge.of("======== 1", "two words, two NUMBERS side by side need one", TextEdges::sideBySide);
        Edge.of("======== 1", "FAULTS, at the first byte that has one", TextEdges::firstFault);
        Edge.of("======== 1", "(the end at the text's length)", TextEdges::theEnd);
        Edge.of("======== 1", "of these the least", TextEdges::leastFault);
        Edge.of("======== 1", "1 it cannot stand there (a word that cannot: at its first letter;",
                TextEdges::wrongHere);
        Edge.of("======== 1", "a 'size' behind such as it must be ahead of, too", TextEdges::sizeBehind);
        Edge.of("======== 1", "2 a NUMBER of four figures or more", TextEdges::fourFigures);
        Edge.of("======== 1", "or out of its bounds, or leading beyond THE WALL (at its first)",
                TextEdges::atItsFirst);
        Edge.of("======== 1", "3 a clause that was told already", TextEdges::toldAlready);
        Edge.of("======== 1", "a ninth 'bare', a 13th KIND (at its first letter)", TextEdges::oneTooMany);
        Edge.of("======== 1", "4 a column that was told already by 'pass' (at it)", TextEdges::columnToldAlready);
        Edge.of("======== 1", "An empty text (or one of blanks alone) has no FAULT: THE WALL as untold, no KINDS.",
                TextEdges::emptyText);
        Edge.of("======== 1", "CELL of column x, row y.", TextEdges::cells);
    }

    /** The lowest and the highest NUMBER are taken, those next to them are FAULT 2. */
    private static void bounds(String ahead, String behind, int low, int high) {
        Due.walled(ahead + low + behind);
        Due.walled(ahead + high + behind);
        if (low > 0) {
            Due.faulty(ahead + (low - 1) + behind, 2, ahead.length());
        }
        Due.faulty(ahead + (high + 1) + behind, 2, ahead.length());
    }

    private static void mostBytes() {
        BillWall wall = new BillWall();
        Due.feed(wall, " ".repeat(293) + "fine 7;");
        Due.row("300", Due.of(300, Due.FULL, 300, 0, 7), wall.told(9), wall.feed(1, ';'), wall.told(9), wall.wall(),
                wall.told(3));
        String kinds = "kind 0 1 1;".repeat(12);
        Due.feed(wall, kinds + " ".repeat(289 - kinds.length()) + "pass 15 99;");
        Due.row("300, filled", Due.of(300, 12, 99), wall.told(9), wall.wall(), wall.passes(15));
    }

    private static void columns() {
        bounds("size ", " 8;", 1, 16);
        BillWall wall = Due.walled("size 1 8;");
        Due.row("one column", Due.of(1, 8, 1, Due.OUTSIDE), wall.told(0), wall.told(1), wall.passes(0),
                wall.passes(1));
        wall = Due.walled("size 16 8;");
        Due.row("16 columns", Due.of(16, 1, Due.OUTSIDE), wall.told(0), wall.passes(15), wall.passes(16));
    }

    private static void rows() {
        bounds("size 16 ", ";", 1, 8);
        BillWall wall = Due.walled("size 16 1;");
        Due.row("one row", Due.of(1, 0, Due.OUTSIDE), wall.told(1), wall.bare(15, 0), wall.bare(15, 1));
        wall = Due.walled("size 1 8;");
        Due.row("eight rows", Due.of(8, 0, Due.OUTSIDE), wall.told(1), wall.bare(0, 7), wall.bare(0, 8));
    }

    private static void size() {
        BillWall wall = Due.walled("size 2 3;");
        Due.feed(wall, "guard 1;");
        Due.row("untold", Due.of(0, 16, 8), wall.wall(), wall.told(0), wall.told(1));
        Due.faulty("size 2 3;size 2 3;", 3, 9);
    }

    private static void guard() {
        bounds("guard ", ";", 0, 99);
        BillWall wall = Due.walled("guard 99;");
        Due.due("99", 99, wall.told(2));
        Due.feed(wall, "guard 0;");
        Due.row("0", Due.of(0, 0), wall.wall(), wall.told(2));
        Due.feed(wall, "fine 1;");
        Due.row("untold", Due.of(0, 3), wall.wall(), wall.told(2));
        Due.faulty("guard 3;fine 1;guard 3;", 3, 15);
    }

    private static void fine() {
        Due.due("999", 999, Due.walled("fine 999;").told(3));
        Due.faulty("fine 1000;", 2, 5);
        BillWall wall = Due.walled("fine 0;");
        Due.due("0", 0, wall.told(3));
        Due.feed(wall, "guard 1;");
        Due.row("untold", Due.of(0, 10), wall.wall(), wall.told(3));
        Due.faulty("fine 10;guard 1;fine 10;", 3, 16);
    }

    private static void read() {
        bounds("read ", ";", 1, 100);
        BillWall wall = Due.walled("read 100;");
        Due.due("100", 100, wall.told(4));
        Due.feed(wall, "read 1;");
        Due.row("1", Due.of(0, 1), wall.wall(), wall.told(4));
        Due.feed(wall, "guard 1;");
        Due.row("untold", Due.of(0, 60), wall.wall(), wall.told(4));
        Due.faulty("read 60;guard 1;read 60;", 3, 16);
    }

    private static void strips() {
        BillWall wall = Due.walled("size 3 2;bare 0 0 1 1;bare 2 1 1 1;");
        Due.row("one CELL in each of two corners", Due.of(2, 1, 0, 0, 0, 0, 1), wall.told(5), wall.bare(0, 0),
                wall.bare(1, 0), wall.bare(2, 0), wall.bare(0, 1), wall.bare(1, 1), wall.bare(2, 1));
        wall = Due.walled("bare 0 0 16 8;kind 0 1 1;");
        Due.row("all of it", Due.of(1, 1, 1, 1, Due.NOT, Due.NOT), wall.told(5), wall.bare(0, 0), wall.bare(15, 0),
                wall.bare(15, 7), wall.paste(0, 0, 0), wall.paste(0, 15, 7));
        Due.due("eight, one over another", 8, Due.walled("bare 0 0 1 1;".repeat(8)).told(5));
        Due.due("none", 0, Due.walled("kind 0 1 1;").told(5));
        Due.faulty("bare 0 0 1 1;".repeat(9), 3, 104);
        bounds("bare 0 0 ", " 1;", 1, 16);
        bounds("bare 0 0 1 ", ";", 1, 8);
        bounds("bare ", " 0 1 1;", 0, 15);
        bounds("bare 0 ", " 1 1;", 0, 7);
    }

    private static void passers() {
        bounds("pass 3 ", ";", 0, 99);
        bounds("pass ", " 5;", 0, 15);
        BillWall wall = Due.walled("pass 0 0;pass 15 99;");
        Due.row("passes", Due.of(0, 1, 1, 99), wall.passes(0), wall.passes(1), wall.passes(14), wall.passes(15));
        Due.feed(wall, "guard 1;");
        Due.row("untold", Due.of(0, 1, 1), wall.wall(), wall.passes(0), wall.passes(15));
    }

    private static void columnOnce() {
        StringBuilder text = new StringBuilder();
        for (int x = 15; x >= 0; x--) {
            text.append("pass ").append(x).append(" 7;");
        }
        Due.due("each column", 7, Due.walled(text.toString()).passes(0));
        for (int x : new int[] {0, 9, 15}) {
            String once = "pass " + x + " 7;";
            Due.faulty(once + once, 4, once.length() + 5);
        }
    }

    private static void mostKinds() {
        BillWall wall = Due.walled("kind 1 1 1;".repeat(11) + "kind 2 3 4;");
        Due.row("12", Due.of(12, 2, 3, 4, Due.UNKNOWN), wall.told(6), wall.kind(11, 0), wall.kind(11, 1),
                wall.kind(11, 2), wall.kind(12, 0));
        Due.faulty("kind 1 1 1;".repeat(13), 3, 132);
        Due.due("none", 0, Due.walled("guard 1;").told(6));
    }

    private static void kinds() {
        bounds("kind ", " 1 1;", 0, 5);
        bounds("kind 0 ", " 1;", 1, 16);
        bounds("kind 0 1 ", ";", 1, 8);
        BillWall wall = Due.walled("kind 0 1 1;kind 5 16 8;");
        Due.row("least and greatest", Due.of(0, 1, 1, 5, 16, 8), wall.kind(0, 0), wall.kind(0, 1), wall.kind(0, 2),
                wall.kind(1, 0), wall.kind(1, 1), wall.kind(1, 2));
    }

    private static void sizeAhead() {
        Due.walled("guard 1;fine 1;read 1;size 4 4;bare 0 0 1 1;pass 0 1;kind 0 1 1;");
        Due.faulty("bare 0 0 1 1;size 4 4;", 1, 13);
        Due.faulty("pass 0 1;size 4 4;", 1, 9);
        Due.faulty("kind 0 1 1;size 4 4;", 1, 11);
        Due.faulty("bare 0 0 1 1;bare 1 0 1 1;size 4 4;", 1, 26);
        Due.faulty("pass 0 1;pass 1 1;size 4 4;", 1, 18);
        Due.faulty("kind 0 1 1;kind 0 1 1;size 4 4;", 1, 22);
        Due.faulty("pass 0 1;guard 1;size 4 4;", 1, 17);
        Due.walled("kind 0 1 1;pass 0 1;bare 0 0 1 1;read 1;fine 1;guard 1;");
    }

    private static void withinTheWall() {
        bounds("size 5 3;bare ", " 0 1 1;", 0, 4);
        bounds("size 5 3;bare 0 ", " 1 1;", 0, 2);
        bounds("size 5 3;bare 3 0 ", " 1;", 1, 2);
        bounds("size 5 3;bare 0 1 1 ", ";", 1, 2);
        bounds("size 5 3;pass ", " 1;", 0, 4);
        bounds("size 5 3;kind 0 ", " 1;", 1, 5);
        bounds("size 5 3;kind 0 1 ", ";", 1, 3);
        Due.walled("size 1 1;bare 0 0 1 1;pass 0 1;kind 0 1 1;");
        Due.faulty("size 1 1;bare 1 0 1 1;", 2, 14);
        Due.faulty("size 1 1;pass 1 1;", 2, 14);
        Due.faulty("size 1 1;kind 0 1 2;", 2, 18);
        BillWall wall = Due.walled("size 2 2;");
        Due.feed(wall, "kind 0 16 8;");
        Due.due("an earlier THE WALL does not count", 1, wall.wall());
    }

    private static void figures() {
        Due.due("one", 5, Due.walled("fine 5;").told(3));
        Due.due("two", 55, Due.walled("fine 55;").told(3));
        Due.due("three", 555, Due.walled("fine 555;").told(3));
        Due.due("three with zeros ahead", 5, Due.walled("fine 005;").told(3));
        Due.due("three zeros", 0, Due.walled("guard 000;").told(2));
        Due.faulty("fine 0005;", 2, 5);
        Due.faulty("fine 5555;", 2, 5);
        Due.faulty("fine ;", 1, 5);
        Due.faulty("fine /;", 1, 5);
        Due.faulty("fine :;", 1, 5);
        Due.faulty("fine 5/;", 1, 6);
        Due.faulty("fine 5:;", 1, 6);
        Due.due("0 and 9", 909, Due.walled("fine 909;").told(3));
    }

    private static void letters() {
        for (char sign : new char[] {'`', '{', '@', '[', 'A', 'Z', '0', '_', (char) 225}) {
            Due.faulty(sign + "fine 5;", 1, 0);
            Due.faulty("fi" + sign + "ne 5;", 1, 0);
            if (sign != '0') {
                Due.faulty("fine" + sign + " 5;", 1, 4);
            }
        }
        for (String clause : WHOLE.split("(?<=;)")) {
            int word = clause.indexOf(' ');
            for (int at = 0; at < word; at++) {
                Due.faulty(clause.substring(0, at) + 'x' + clause.substring(at + 1), 1, 0);
                Due.faulty(clause.substring(0, at) + clause.substring(at + 1), 1, 0);
            }
        }
        Due.faulty("afine 5;", 1, 0);
        Due.faulty("finez 5;", 1, 0);
        Due.faulty("fin 5;", 1, 0);
        Due.faulty("FINE 5;", 1, 0);
        Due.faulty("z", 1, 0);
    }

    private static void blanks() {
        BillWall wall = Due.walled("  size  5  4  ;  bare 4 3   1 1 ; pass 0 2;guard   9;kind  5  5  4  ;   ");
        Due.row("many", Due.of(5, 4, 1, 1, 2, 9, 5), wall.told(0), wall.told(1), wall.told(5), wall.bare(4, 3),
                wall.passes(0), wall.told(2), wall.kind(0, 0));
        wall = Due.walled("size5 4;guard9;read7;pass0 2;kind5 5 4;");
        Due.row("none that need not be", Due.of(5, 4, 9, 7, 2, 1), wall.told(0), wall.told(1), wall.told(2),
                wall.told(4), wall.passes(0), wall.told(6));
        for (int sign : new int[] {0, 9, 10, 13, 31, 33, 127, 160, 255}) {
            Due.faulty((char) sign + "fine 5;", 1, 0);
            Due.faulty("fine" + (char) sign + "5;", 1, 4);
            Due.faulty("fine 5" + (char) sign + ";", 1, 6);
            Due.faulty("fine 5;" + (char) sign, 1, 7);
        }
    }

    private static void blanksWithin() {
        Due.faulty("fi ne 5;", 1, 0);
        Due.faulty("fine 5;gua rd 5;", 1, 7);
        Due.faulty("fine 5 5;", 1, 7);
        Due.faulty("size 1 6 8;", 1, 9);
    }

    private static void sideBySide() {
        Due.faulty("guardfine 5;", 1, 0);
        Due.faulty("fine 5;guardguard 5;", 1, 7);
        Due.faulty("size 168;", 2, 5);
        Due.faulty("size 11;", 1, 7);
        Due.faulty("kind 011;", 2, 5);
        Due.walled("size 1 1;");
        Due.faulty("guard fine 5;", 1, 6);
    }

    private static void firstFault() {
        Due.faulty("x;guard 100;", 1, 0);
        Due.faulty("guard 100;x;", 2, 6);
        Due.faulty("read 5;read 0;x", 3, 7);
        Due.faulty("pass 1 1;pass 1 100;x", 4, 14);
        Due.faulty("pass 1 1;pass 16 1;pass 1 1;", 2, 14);
        Due.faulty("size 0 0;", 2, 5);
        Due.faulty("kind 6 0 0", 2, 5);
        Due.faulty("bare 0 0 17 9;", 2, 9);
        Due.faulty("guard", 1, 5);
    }

    private static void theEnd() {
        for (int length = 1; length < WHOLE.length(); length++) {
            int clause = WHOLE.lastIndexOf(';', length - 1) + 1;
            String begun = WHOLE.substring(clause, length);
            boolean isPartOfAWord = begun.matches("[a-z]+") && WHOLE.charAt(length) != ' ';
            if (begun.isEmpty()) {
                Due.walled(WHOLE.substring(0, length));
            } else {
                Due.faulty(WHOLE.substring(0, length), 1, isPartOfAWord ? clause : length);
            }
        }
        Due.faulty("fine 5   ", 1, 9);
        Due.faulty("fine   ", 1, 7);
        Due.faulty("  fine", 1, 6);
        BillWall wall = new BillWall();
        Due.feed(wall, " ".repeat(294) + "fine 5");
        Due.row("at the greatest length", Due.of(-11, 300), wall.wall(), wall.fault());
    }

    private static void leastFault() {
        Due.faulty("fine 5 1000;", 1, 7);
        Due.faulty("1000;", 1, 0);
        Due.faulty("size 16 8;kind 0 1 1;size 16 8;", 1, 21);
        Due.faulty("size 16 8;bare 0 0 1 1;size 0 0;", 1, 23);
        Due.faulty("size 16 8;pass 0 1;size 16 8;", 1, 19);
        Due.faulty("pass 1 1;pass 0001 1;", 2, 14);
    }

    private static void wrongHere() {
        Due.faulty("wall 5;", 1, 0);
        Due.faulty("fine 5;  wall 5;", 1, 9);
        Due.faulty("5;", 1, 0);
        Due.faulty(";", 1, 0);
        Due.faulty("fine 5;;", 1, 7);
        Due.faulty("fine 5;5;", 1, 7);
        Due.faulty("fine x5;", 1, 5);
        Due.faulty("fine fine;", 1, 5);
        Due.faulty("fine 5 guard 1;", 1, 7);
        Due.faulty("fine 5guard 1;", 1, 6);
        Due.faulty("fine -5;", 1, 5);
        Due.faulty("fine +5;", 1, 5);
        Due.faulty("size 5;", 1, 6);
        Due.faulty("size 5 4 3;", 1, 9);
        Due.faulty("bare 0 0 1;", 1, 10);
        Due.faulty("bare 0 0 1 1 1;", 1, 13);
        Due.faulty("pass 0;", 1, 6);
        Due.faulty("pass 0 1 1;", 1, 9);
        Due.faulty("kind 0 1;", 1, 8);
        Due.faulty("kind 0 1 1 1;", 1, 11);
        Due.faulty("read;", 1, 4);
        Due.faulty("guard 1 1;", 1, 8);
    }

    private static void sizeBehind() {
        Due.faulty("bare 0 0 1 1;  size 16 8;", 1, 15);
        Due.faulty("pass 0 1;guard 1;size 16 8;", 1, 17);
        Due.faulty("kind 0 1 1;size", 1, 11);
        Due.walled("guard 1;size 16 8;");
        Due.walled("fine 1;size 16 8;");
        Due.walled("read 1;size 16 8;");
    }

    private static void fourFigures() {
        Due.faulty("guard 0000;", 2, 6);
        Due.faulty("guard 0001;", 2, 6);
        Due.faulty("size 1 0001;", 2, 7);
        Due.faulty("fine 4294967297;", 2, 5);
        Due.faulty("fine 18446744073709551617;", 2, 5);
        Due.faulty("fine " + "1".repeat(200) + ";", 2, 5);
        Due.faulty("fine " + "0".repeat(200) + ";", 2, 5);
        Due.faulty("fine 1000", 2, 5);
        Due.faulty("fine 1000x", 2, 5);
        BillWall wall = new BillWall();
        Due.feed(wall, "fine" + "1".repeat(296));
        Due.row("296 figures", Due.of(-12, 4), wall.wall(), wall.fault());
    }

    private static void atItsFirst() {
        Due.faulty("guard   100;", 2, 8);
        Due.faulty("size 16 009;", 2, 8);
        Due.faulty("bare 15 0   2 1;", 2, 12);
        Due.faulty("bare 0 7 1  2;", 2, 12);
        Due.faulty("size 5 3;kind 0 05 04;", 2, 19);
        Due.faulty("read 000;", 2, 5);
    }

    private static void toldAlready() {
        Due.faulty("size 5 3;  size 5 3;", 3, 11);
        Due.faulty("guard 5; guard x", 3, 9);
        Due.faulty("fine 5;fine", 3, 7);
        Due.faulty("read 5;guard 1;fine 1;read 1000;", 3, 22);
        Due.walled("bare 0 0 1 1;bare 0 0 1 1;kind 0 1 1;kind 0 1 1;pass 0 1;pass 1 1;");
        BillWall wall = Due.walled("guard 5;fine 5;read 5;size 5 5;");
        Due.feed(wall, "guard 6;fine 6;read 6;size 6 6;");
        Due.row("what an earlier text told does not count", Due.of(0, 6, 6, 6, 6), wall.wall(), wall.told(2),
                wall.told(3), wall.told(4), wall.told(0));
        Due.feed(wall, "guard 7;x");
        Due.due("a text with a FAULT", -11, wall.wall());
        Due.feed(wall, "guard 8;");
        Due.row("nor does one with a FAULT", Due.of(0, 8), wall.wall(), wall.told(2));
    }

    private static void oneTooMany() {
        String eight = "bare 0 0 1 1;".repeat(8);
        String twelve = "kind 0 1 1;".repeat(12);
        Due.walled(eight + twelve);
        Due.faulty(eight + " bare 0 0 1 1;", 3, 105);
        Due.faulty(eight + "bare", 3, 104);
        Due.faulty(eight + "bare 16 x", 3, 104);
        Due.faulty(twelve + " kind 0 1 1;", 3, 133);
        Due.faulty(twelve + "kind;", 3, 132);
        Due.faulty(twelve + eight + "kind 0 1 1;", 3, 236);
        BillWall wall = Due.walled(eight + twelve);
        Due.feed(wall, eight + twelve);
        Due.due("those of an earlier text do not count", 12, wall.wall());
    }

    private static void columnToldAlready() {
        Due.faulty("pass 0 1;pass 0 1;", 4, 14);
        Due.faulty("pass 15 1;pass   15 2;", 4, 17);
        Due.faulty("pass 7 1;pass 8 1;pass 007 1;", 4, 23);
        Due.faulty("pass 7 1;pass 7", 4, 14);
        Due.faulty("pass 7 1;pass 7x", 4, 14);
        Due.walled("pass 1 7;pass 7 1;pass 11 7;");
        BillWall wall = Due.walled("pass 3 5;");
        Due.feed(wall, "pass 3 6;");
        Due.row("an earlier text does not count", Due.of(0, 6), wall.wall(), wall.passes(3));
    }

    private static void emptyText() {
        for (String text : new String[] {"", " ", " ".repeat(300)}) {
            BillWall wall = Due.walled("size 5 3;guard 1;fine 1;read 1;bare 0 0 1 1;pass 0 5;kind 0 1 1;");
            Due.feed(wall, text);
            Due.row("as untold", Due.of(0, Due.NONE, 16, 8, 3, 10, 60, 0, 0, 1, 0, Due.UNKNOWN), wall.wall(),
                    wall.fault(), wall.told(0), wall.told(1), wall.told(2), wall.told(3), wall.told(4), wall.told(5),
                    wall.told(6), wall.passes(0), wall.bare(0, 0), wall.kind(0, 0));
        }
    }

    private static void cells() {
        BillWall wall = Due.walled("size 3 2;kind 0 1 1;");
        wall.paste(0, 2, 0);
        wall.paste(0, 0, 1);
        Due.row("column, then row", Due.of(0, 1, Due.NONE, Due.NONE, Due.OUTSIDE), wall.above(2, 0),
                wall.above(0, 1), wall.above(0, 0), wall.above(2, 1), wall.above(1, 2));
    }
}
