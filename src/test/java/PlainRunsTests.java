import java.util.Random;

/** Random runs, the same ones each time: BillWall answers as the plain one does. */
final class PlainRunsTests {
    private static final int RUNS = 1600, TEXTS = 4000;
    /** What an object answers behind so many calls is free. */
    private static final int MOST_CALLS = 512;

    private final Random random;
    private final BillWall wall = new BillWall();
    private final PlainWall plain = new PlainWall();
    private final int run;
    private final boolean small;
    private int columns = 16, rows = 8;
    private int calls = 0;

    private PlainRunsTests(int run) {
        this.run = run;
        random = new Random(run);
        small = run % 4 != 0;
    }

    public static void main(String[] args) {
        for (int run = 0; run < RUNS; run++) {
            new PlainRunsTests(run).go();
        }
        for (int run = 0; run < TEXTS; run++) {
            new PlainRunsTests(run).texts();
        }
        Due.end("PlainRunsTests");
    }

    private void go() {
        tell(text());
        for (int n = pick(3) == 0 ? pick(24) : 0; n > 0; n--) {
            paste(about(plain.told(6)), about(columns), about(rows));
        }
        while (calls < MOST_CALLS) {
            oneCall();
            if (pick(90) == 0) {
                tell(text());
            }
        }
    }

    private void texts() {
        while (calls < MOST_CALLS) {
            tell(spoiled(text()));
        }
    }

    private int pick(int bound) {
        return random.nextInt(bound);
    }

    /** Mostly within the bound, at times just beyond or far. */
    private int about(int bound) {
        int[] beyond = {-1, bound, bound + 1, -2, Integer.MAX_VALUE, Integer.MIN_VALUE};
        return pick(25) == 0 || bound <= 0 ? beyond[pick(beyond.length)] : pick(bound);
    }

    private void same(String call, int want, int got) {
        calls++;
        if (calls <= MOST_CALLS) {
            Due.due("run " + run + ": " + call, want, got);
        }
    }

    private void paste(int k, int x, int y) {
        same("paste " + k + " " + x + " " + y, plain.paste(k, x, y), wall.paste(k, x, y));
    }

    private String text() {
        StringBuilder text = new StringBuilder();
        columns = small ? 1 + pick(5) : 1 + pick(16);
        rows = small ? 1 + pick(4) : 1 + pick(8);
        if (pick(2) == 0) {
            text.append("guard ").append(pick(4)).append(';');
        }
        text.append("size ").append(columns).append(' ').append(rows).append(';');
        if (pick(2) == 0) {
            text.append("fine ").append(pick(12)).append(';');
        }
        if (pick(4) != 0) {
            text.append("read ").append(1 + pick(100)).append(';');
        }
        for (int n = pick(3); n > 0; n--) {
            int x = pick(columns);
            int y = pick(rows);
            text.append("bare ").append(x).append(' ').append(y).append(' ').append(1 + pick(Math.min(2, columns - x)))
                    .append(' ').append(1 + pick(Math.min(2, rows - y))).append("; ");
        }
        for (int x = pick(3); x < columns && text.length() < 200; x += 1 + pick(4)) {
            text.append("pass ").append(x).append(' ').append(pick(30)).append(';');
        }
        for (int n = 1 + pick(5); n > 0; n--) {
            text.append("kind ").append(pick(3)).append(' ').append(1 + pick(Math.min(4, columns))).append(' ')
                    .append(1 + pick(Math.min(3, rows))).append(';');
        }
        return text.toString();
    }

    /** The text with some signs put in, taken out or changed, or with a clause of it told once more. */
    private String spoiled(String good) {
        StringBuilder text = new StringBuilder(good);
        String signs = "   ;;0123456789aekindsizepassbareABC-\t" + (char) 128 + (char) 255 + (char) 0;
        for (int n = pick(3); n > 0; n--) {
            int at = pick(text.length());
            switch (pick(6)) {
                case 0 -> text.deleteCharAt(at);
                case 1 -> text.insert(at, signs.charAt(pick(signs.length())));
                case 2 -> text.setCharAt(at, signs.charAt(pick(signs.length())));
                case 3 -> text.setLength(at + 1);
                default -> {
                    String[] clauses = good.split("(?<=;)");
                    String clause = clauses[pick(clauses.length)];
                    int from = good.indexOf(clauses[pick(clauses.length)]);
                    for (int times = pick(5) == 0 ? 9 : 1; times > 0; times--) {
                        text.insert(Math.min(from, text.length()), clause);
                    }
                }
            }
        }
        text.setLength(Math.min(300, text.length()));
        return text.toString();
    }

    private void tell(String text) {
        for (int at = 0; at < text.length();) {
            int n = Math.min(1 + pick(8), text.length() - at);
            long bytes = random.nextLong();
            for (int i = 0; i < n; i++) {
                bytes = bytes << 8 | text.charAt(at + i);
            }
            same("feed of '" + text + "'", plain.feed(n, bytes), wall.feed(n, bytes));
            at += n;
        }
        same("wall of '" + text + "'", plain.wall(), wall.wall());
        same("fault of '" + text + "'", plain.fault(), wall.fault());
        columns = plain.told(0);
        rows = plain.told(1);
    }

    private void oneCall() {
        int kinds = plain.told(6);
        int bills = plain.told(7);
        int k = about(kinds);
        int x = about(columns);
        int y = about(rows);
        int b = about(bills);
        switch (pick(24)) {
            case 0, 1, 2, 3, 4, 5 -> paste(k, x, y);
            case 6 -> {
                int n = about(5);
                same("days " + n, plain.days(n), wall.days(n));
            }
            case 7 -> same("peel " + b, plain.peel(b), wall.peel(b));
            case 8, 9, 10 -> same("tear " + x + " " + y, plain.tear(x, y), wall.tear(x, y));
            case 11 -> {
                int n = pick(3) == 0 ? about(101) : pick(30);
                same("rain " + n, plain.rain(n), wall.rain(n));
            }
            case 12 -> image(about(2));
            case 13 -> {
                int v = about(Integer.MAX_VALUE - 2);
                same("seed " + v, plain.seed(v), wall.seed(v));
            }
            case 14, 15 -> places(k);
            case 16, 17, 18 -> photograph(k, x, y);
            case 19 -> {
                if (pick(8) == 0) {
                    everything();
                }
            }
            default -> bill(b);
        }
    }

    private void image(int i) {
        if (pick(2) == 0) {
            same("keep " + i, plain.keep(i), wall.keep(i));
        } else {
            same("goBack " + i, plain.goBack(i), wall.goBack(i));
        }
    }

    private void places(int k) {
        int j = about(plain.told(6));
        int what = about(5);
        same("best " + k, plain.best(k, what), wall.best(k, what));
        if (small) {
            same("two " + k + " " + j + " " + what, plain.two(k, j, what), wall.two(k, j, what));
            int n = pick(6) == 0 ? about(13) : pick(4);
            int which = about(3);
            same("rivals " + k + " " + j + " " + n, plain.rivals(k, j, n, which), wall.rivals(k, j, n, which));
        }
    }

    private void photograph(int k, int x, int y) {
        int shown = plain.told(10);
        int a = about(shown);
        int b = about(shown);
        // the plain one walks through all ORDERS
        if (shown > 6 || pick(12) == 0) {
            same("burn", plain.burn(), wall.burn());
        }
        same("show " + k + " " + x + " " + y, plain.show(k, x, y), wall.show(k, x, y));
        same("look " + x + " " + y + " " + a, plain.look(x, y, a), wall.look(x, y, a));
        same("orders", plain.orders(), wall.orders());
        for (int i = -1; i <= shown + 1; i++) {
            same("order " + i, plain.order(i), wall.order(i));
        }
        same("surely " + a + " " + b, plain.surely(a, b), wall.surely(a, b));
    }

    private void bill(int b) {
        for (int what = -1; what < 10; what++) {
            same("bill " + b + " " + what, plain.bill(b, what), wall.bill(b, what));
        }
        same("over " + b, plain.over(b), wall.over(b));
        same("free " + b, plain.free(b), wall.free(b));
        int toFree = plain.free(b);
        if (toFree < 0 || Integer.bitCount(toFree) <= 6 || Integer.bitCount(toFree) > 12) {
            same("reveal " + b, plain.reveal(b), wall.reveal(b));
        }
    }

    private void everything() {
        for (int what = -1; what < 12; what++) {
            same("told " + what, plain.told(what), wall.told(what));
        }
        for (int k = -1; k <= plain.told(6); k++) {
            int what = about(3);
            same("kind " + k, plain.kind(k, what), wall.kind(k, what));
        }
        for (int x = -1; x <= columns; x++) {
            same("passes " + x, plain.passes(x), wall.passes(x));
            for (int y = -1; y <= rows; y++) {
                same("bare " + x + " " + y, plain.bare(x, y), wall.bare(x, y));
                same("above " + x + " " + y, plain.above(x, y), wall.above(x, y));
            }
        }
        for (int o = -1; o <= 6; o++) {
            for (int what = -1; what <= 3; what++) {
                same("owner " + o + " " + what, plain.owner(o, what), wall.owner(o, what));
            }
        }
    }
}
