/** Two books that have nothing alike, and what can be seen of them. */
final class Sight {
    private Sight() {
    }

    /** Tells a new book all that one of both (0, 1) has. */
    static void tell(MatchBook x, int which) {
        for (int h = 0; h < 4; h++) {
            x.house((h + which) % 6, (h + which) % 5, 1000 + 100 * which + h);
        }
        for (int p = 0; p < 8; p++) {
            x.person((p + which) % 4, (p / 2 + which) % 2, (p + which) % 8, -40 + p + which);
        }
        Given.text(x, 3, "if elder:gift 1;if widow:gift 2;if feud:gift 4;");
        if (which == 0) {
            tellFirst(x);
        } else {
            tellSecond(x);
        }
    }

    private static void tellFirst(MatchBook x) {
        Given.text(x, 0, "gift 10;back 20;if bride=40 and kin<9:bar;");
        Given.text(x, 5, "more 3;");
        Given.wedding(x, 0, 2);
        Given.wedding(x, 4, 6);
        x.die(6);
        x.ask(1, 3);
        x.feud(0, 1, true);
        x.road(0, 1, 3);
        x.parent(2, 0, 0);
        x.parent(5, 1, 3);
        Given.text(x, 1, "?");
        Check.write(x, "gift 1;bar;");
    }

    private static void tellSecond(MatchBook x) {
        x.year();
        Given.text(x, 2, "gift 21;if age=40 and kin<9:bar;");
        Given.text(x, 1, "back 30;");
        Given.text(x, 6, "less 4;");
        Given.wedding(x, 3, 0);
        x.ask(2, 1);
        x.promise(1);
        x.ask(6, 4);
        x.year();
        x.breaks(1, false);
        x.die(5);
        x.feud(1, 3, true);
        x.road(0, 2, 4);
        x.parent(3, 0, 2);
        x.parent(5, 2, 3);
        Given.text(x, 1, "bar;back 101;");
        Check.write(x, "bar;");
    }

    static int[] of(MatchBook x) {
        int[] row = new int[200];
        int n = 0;
        for (int h = 0; h < 4; h++) {
            for (int what = 0; what < 5; what++) row[n++] = x.about(h, what);
        }
        for (int p = 0; p < 7; p++) {
            for (int what = 0; what < 10; what++) row[n++] = x.tell(p, what);
        }
        for (int m = 0; m < 3; m++) {
            for (int what = 0; what < 9; what++) row[n++] = x.match(m, what);
        }
        for (int what = 0; what < 12; what++) row[n++] = x.count(what);
        for (int v = 0; v < 4; v++) {
            row[n++] = x.heard(0, v);
            row[n++] = x.kin(2, 0, v, 300);
            row[n++] = x.kin(3, 0, v, 300);
            row[n++] = x.read(4, 3, v, 2);
            row[n++] = x.read(6, 1, v, 2);
        }
        row[n++] = x.kin(5, 1, 3, 300);
        row[n++] = x.kin(5, 2, 3, 300);
        row[n++] = x.read(5, 3, 3, 2);
        row[n++] = x.liking(0, 2);
        row[n++] = x.liking(2, 0);
        row[n++] = x.fault(0);
        row[n++] = x.fault(1);
        row[n++] = x.late(0);
        row[n++] = x.text(4);
        row[n++] = x.text(4);
        return row;
    }
}
