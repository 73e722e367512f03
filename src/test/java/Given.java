/** Books that tests begin with, and steps that many of them take. */
final class Given {
    private Given() {
    }

    /** Houses 0 .. n-1, of clan and village as their number goes, with 1000 coins each. */
    static MatchBook houses(int n) {
        MatchBook x = new MatchBook();
        for (int h = 0; h < n; h++) {
            x.house(h % 6, h % 5, 1000);
        }
        return x;
    }

    /** Bride 0 of house 0, groom 1 of house 1. */
    static MatchBook couple() {
        MatchBook x = houses(2);
        x.person(0, 0, 0, -20);
        x.person(1, 1, 0, -25);
        return x;
    }

    /** Grandparents 0, 1; their children 2, 3; 4 of 2; 5 of 3; 6 nobody's: but nothing was told of it. */
    static MatchBook family() {
        MatchBook x = houses(3);
        x.person(0, 0, 0, -80);
        x.person(0, 1, 0, -80);
        x.person(0, 0, 0, -60);
        x.person(1, 1, 0, -60);
        x.person(0, 0, 0, -40);
        x.person(1, 1, 0, -40);
        x.person(2, 1, 0, -40);
        return x;
    }

    /** Of each house in turn as many persons of one kind, all alike. */
    static void persons(MatchBook x, int house, int kind, int n) {
        for (int k = 0; k < n; k++) {
            x.person(house, kind, 0, 0);
        }
    }

    static void years(MatchBook x, int n) {
        for (int k = 0; k < n; k++) {
            x.year();
        }
    }

    static int text(MatchBook x, int whose, String text) {
        return Check.text(x, whose, text);
    }

    /** 1 if a custom with that test alone bars bride and groom. */
    static int holds(MatchBook x, int bride, int groom, String test) {
        text(x, 0, "if " + test + ":bar;");
        return x.read(bride, groom, 0, 0);
    }

    /** Asked, promised and wed: the match. */
    static int wedding(MatchBook x, int bride, int groom) {
        int match = x.ask(bride, groom);
        x.promise(match);
        x.wed(match);
        return match;
    }
}
