/** Terms 4, promises 29 to 36 and the constants: best, stable, rings, counts, images. */
final class EdgesOfPairs {
    private final Edge edge;

    private EdgesOfPairs(Edge edge) {
        this.edge = edge;
    }

    static void run(Edge edge) {
        EdgesOfPairs edges = new EdgesOfPairs(edge);
        edges.constants();
        edges.terms();
        edges.bests();
        edges.rings();
        edges.counts();
        edges.images();
        edges.lastCall();
    }

    private void constants() {
        edge.says("The constants", "`NONE = -1`: There is none.");
        edge.due("NONE", MatchBook.NONE, -1);
    }

    private void terms() {
        firstEight();
        firstEightOfFree();
        bestWay();
        stableAsking();
        stableTies();
        ringSizes();
        ringCouples();
        theRing();
    }

    private void firstEight() {
        edge.says("Terms 4", "Of FREE brides and FREE grooms, the first 8 of each by numbers (in all of 4.), those that MAY wed.");
        for (int n = 7; n <= 9; n++) {
            MatchBook x = Given.houses(2);
            Given.persons(x, 0, 0, n);
            Given.persons(x, 1, 1, n);
            int most = Math.min(n, 8);
            edge.due(n + " of each: weddings", x.best(0), most);
            edge.due(n + " of each: the eighth bride by best", x.bestFor(7), n < 8 ? 0 : n + 7);
            edge.due(n + " of each: the last bride by best", x.bestFor(n - 1), n <= 8 ? 2 * n - 1 : -1);
            edge.due(n + " of each: the last groom by best", x.bestFor(2 * n - 1), n <= 8 ? n - 1 : -1);
            edge.due(n + " of each: the last bride, stable", x.stable(n - 1), n <= 8 ? 2 * n - 1 : -1);
            edge.due(n + " of each: the last groom, stable", x.stable(2 * n - 1), n <= 8 ? n - 1 : -1);
        }
        ringOfFirstEight();
        lastOfAll();
    }

    private void ringOfFirstEight() {
        for (int ahead = 7; ahead <= 8; ahead++) {
            MatchBook x = Given.houses(2);
            Given.persons(x, 0, 0, ahead);
            Given.persons(x, 1, 0, 1);
            Given.persons(x, 0, 1, 1);
            Given.persons(x, 1, 1, 1);
            edge.due("a bride behind " + ahead + ": ring", x.ring(0), ahead < 8 ? 2 : -1);
            MatchBook y = Given.houses(2);
            Given.persons(y, 0, 1, ahead);
            Given.persons(y, 1, 1, 1);
            Given.persons(y, 0, 0, 1);
            Given.persons(y, 1, 0, 1);
            edge.due("a groom behind " + ahead + ": ring", y.ring(0), ahead < 8 ? 2 : -1);
        }
    }

    /** As many houses and persons as there may be, of whom the last alone are free. */
    private void lastOfAll() {
        MatchBook x = Given.houses(8);
        Given.persons(x, 6, 0, 9);
        Given.persons(x, 7, 0, 1);
        Given.persons(x, 7, 1, 9);
        Given.persons(x, 6, 1, 1);
        for (int p = 0; p < 8; p++) {
            x.die(p);
            x.die(p + 10);
        }
        edge.due("weddings of the last", x.best(0), 2);
        edge.due("best for the last", x.bestFor(19), 9);
        edge.due("stable for the last", x.stable(19), 9);
        edge.due("houses of the last ring", x.ring(0), 2);
        edge.due("its first house", x.ringed(0, 0), 6);
        edge.due("its last house", x.ringed(1, 0), 7);
        edge.due("the last bride", x.ringed(1, 1), 9);
        edge.due("the last groom", x.ringed(1, 2), 19);
    }

    private void firstEightOfFree() {
        edge.says("Terms 4", "the first 8 of each by numbers");
        MatchBook x = Given.houses(2);
        Given.persons(x, 0, 0, 10);
        Given.persons(x, 1, 1, 10);
        edge.due("the ninth bride", x.bestFor(8), -1);
        x.die(2);
        edge.due("one died: the ninth", x.bestFor(8), 17);
        edge.due("one died: the tenth", x.bestFor(9), -1);
        x.ask(0, 19);
        edge.due("one is asked: the tenth", x.bestFor(9), 17);
        edge.due("one is asked: stable", x.stable(9), 17);
        edge.due("who is not free", x.bestFor(0), -1);
        edge.due("who is not free, stable", x.stable(19), -1);
        x.breaks(0, true);
        edge.due("free again", x.bestFor(0), 10);
        edge.due("the tenth again", x.bestFor(9), -1);
        Given.text(x, 0, "if star=0:bar;");
        edge.due("none may wed", x.best(0), 0);
        edge.due("none may wed, stable", x.stable(0), -1);
    }

    /** Brides 0 and 1, grooms 2 and 3, of four houses; stars 0, 1 and 0, 1. */
    private static MatchBook four() {
        MatchBook x = Given.houses(4);
        x.person(0, 0, 0, 0);
        x.person(1, 0, 1, 0);
        x.person(2, 1, 0, 0);
        x.person(3, 1, 1, 0);
        return x;
    }

    private void bestIs(String when, MatchBook x, int weddings, int feuds, int gifts) {
        edge.due(when + ": weddings", x.best(0), weddings);
        edge.due(when + ": feuds", x.best(1), feuds);
        edge.due(when + ": gifts", x.best(2), gifts);
    }

    private void bestWay() {
        edge.says("Terms 4", "BEST: of all ways to wed each at most once that with the most weddings; then the most of them between"
                + " HOUSES with a FEUD; then the least GIFTS together; then the least row (bride by bride the groom; 99 for none).");
        MatchBook x = four();
        bestIs("all alike", x, 2, 0, 0);
        edge.due("the least row", x.bestFor(0), 2);
        Given.text(x, 0, "if star=0:gift 1;");
        bestIs("one coin less", x, 2, 0, 0);
        edge.due("the least gifts", x.bestFor(0), 3);
        Given.text(x, 0, "gift 1;");
        edge.due("gifts alike: the least row", x.bestFor(0), 2);
        Given.text(x, 0, "if star=0:gift 9999;".repeat(16));
        x.feud(0, 2, true);
        bestIs("a feud ahead of the greatest gift", x, 2, 1, 159984);
        Given.text(x, 1, "if star=0:bar;");
        bestIs("still two weddings", x, 2, 0, 0);
        Given.text(x, 1, "if star<2:bar;");
        bestIs("one wedding: the feud", x, 1, 1, 159984);
        edge.due("none for her", x.bestFor(1), -1);
        x.feud(0, 2, false);
        bestIs("one wedding: the least gift", x, 1, 0, 0);
        edge.due("with the other groom", x.bestFor(0), 3);
        noneIsLast();
        oneInBetween();
        fewerThanBefore();
        feudsOfOnePair();
        mostOfAll();
        oneOutweighsAll();
    }

    private void noneIsLast() {
        MatchBook x = Given.houses(3);
        x.person(0, 0, 0, 0);
        x.person(1, 0, 0, 0);
        x.person(2, 1, 0, 0);
        edge.due("a groom is less than none", x.bestFor(0), 2);
        edge.due("none for the second", x.bestFor(1), -1);
        Given.text(x, 0, "gift 1;");
        edge.due("but gifts go ahead of the row", x.bestFor(1), 2);
        MatchBook y = Given.houses(3);
        y.person(0, 0, 0, 0);
        y.person(1, 1, 0, 0);
        y.person(2, 1, 0, 0);
        edge.due("the least groom", y.bestFor(0), 1);
        edge.due("none for the second groom", y.bestFor(2), -1);
    }

    /** Of three brides the second may wed none. */
    private void oneInBetween() {
        MatchBook x = Given.houses(5);
        x.person(0, 0, 0, 0);
        x.person(1, 0, 0, 0);
        x.person(2, 0, 1, 0);
        x.person(3, 1, 0, 0);
        x.person(4, 1, 1, 0);
        Given.text(x, 0, "gift 5;");
        Given.text(x, 1, "bar;");
        Given.text(x, 2, "if star>0:bar;");
        bestIs("one in between has none", x, 2, 0, 5);
        edge.due("the first", x.bestFor(0), 3);
        edge.due("the second", x.bestFor(1), -1);
        edge.due("the third", x.bestFor(2), 4);
    }

    private void fewerThanBefore() {
        MatchBook x = four();
        Given.text(x, 1, "if star=1:gift 1;");
        bestIs("two brides", x, 2, 0, 0);
        x.die(0);
        bestIs("one bride", x, 1, 0, 0);
        edge.due("the least gift", x.bestFor(1), 3);
        MatchBook y = Given.houses(2);
        Given.persons(y, 0, 0, 3);
        Given.persons(y, 1, 1, 3);
        bestIs("three", y, 3, 0, 0);
        y.die(0);
        y.die(1);
        bestIs("one of three", y, 1, 0, 0);
        edge.due("she has the least", y.bestFor(2), 3);
        y.die(2);
        bestIs("none of three", y, 0, 0, 0);
    }

    /** Two weddings between the same two houses are both between houses with a feud. */
    private void feudsOfOnePair() {
        MatchBook x = Given.houses(2);
        Given.persons(x, 0, 0, 2);
        Given.persons(x, 1, 1, 2);
        x.feud(0, 1, true);
        bestIs("two of one feud", x, 2, 2, 0);
    }

    private void mostOfAll() {
        MatchBook x = Given.houses(2);
        Given.persons(x, 0, 0, 8);
        Given.persons(x, 1, 1, 8);
        x.feud(0, 1, true);
        Given.text(x, 0, "gift 9999;".repeat(16));
        bestIs("eight with the greatest gifts", x, 8, 8, 8 * 159984);
        edge.due("the last of the least row", x.bestFor(7), 15);
        // Bride k may wed grooms of a star up to hers: one way alone weds all.
        MatchBook y = Given.houses(2);
        for (int k = 7; k >= 0; k--) {
            y.person(0, 0, 0, -k);
        }
        for (int k = 0; k < 8; k++) {
            y.person(1, 1, 0, -10 * k);
        }
        Given.text(y, 0, "if bride<1 and age>0:bar;if bride<2 and age>10:bar;if bride<3 and age>20:bar;if bride<4 and age>30:bar;"
                + "if bride<5 and age>40:bar;if bride<6 and age>50:bar;if bride<7 and age>60:bar;");
        bestIs("one way alone", y, 8, 0, 0);
        for (int k = 0; k < 8; k++) {
            edge.due("bride " + k, y.bestFor(k), 15 - k);
        }
    }

    private void oneOutweighsAll() {
        MatchBook x = neighbours("if gap>1:bar;");
        x.feud(1, 2, true);
        x.feud(0, 3, true);
        bestIs("a wedding more ahead of seven feuds and all gifts", x, 8, 0, 8 * 159984);
        x.die(0);
        bestIs("none more without her", x, 7, 7, 0);
        MatchBook y = neighbours("if gap>1 and not gap=15:bar;");
        bestIs("in a ring, without a feud", y, 8, 0, 0);
        edge.due("the first with the last", y.bestFor(0), 15);
        y.feud(4, 2, true);
        bestIs("a feud ahead of all gifts", y, 8, 1, 8 * 159984);
        edge.due("the first with the first", y.bestFor(0), 8);
    }

    /** Bride k may wed groom 8 + k, of her clan, for the greatest gift, and the one ahead of him, of another clan, for none. */
    private static MatchBook neighbours(String bar) {
        MatchBook x = new MatchBook();
        for (int h = 0; h < 4; h++) {
            x.house(h % 2, h / 2, 0);
        }
        x.house(0, 0, 0);
        for (int k = 0; k < 8; k++) {
            x.person(k == 0 ? 4 : k % 2, 0, 0, -2 * k);
        }
        for (int k = 0; k < 8; k++) {
            x.person(2 + k % 2, 1, 0, -2 * k - 1);
        }
        Given.text(x, 0, bar);
        Given.text(x, 1, "if clan:gift 9999;".repeat(16));
        return x;
    }

    private void stableAsking() {
        edge.says("Terms 4", "STABLE: grooms ask in turn, each the brides that MAY wed him by his LIKING (the greatest first, of"
                + " several the least), she keeps the one that she likes most (of several the least) of those who asked: what"
                + " stands when none has whom to ask.");
        MatchBook x = four();
        Given.text(x, 6, "if star=0:more 1;");
        Given.text(x, 5, "if star=1:more 1;");
        edge.due("grooms ask first whom they like", x.stable(0), 2);
        edge.due("grooms ask first whom they like", x.stable(1), 3);
        Given.text(x, 6, "if bride=0:more 1;if star=1:more 1;");
        edge.due("grooms like the others", x.stable(0), 3);
        edge.due("grooms like the others", x.stable(1), 2);
        Given.text(x, 6, "less 9;if star=0:less 1;");
        edge.due("whom he dislikes least", x.stable(0), 3);
        Given.text(x, 0, "bar;");
        edge.due("who may not is not asked", x.stable(0), -1);
        // Both ask 1: she keeps whom she likes, the other has none left.
        Given.text(x, 5, "if star=1:more 1;");
        edge.due("she keeps whom she likes", x.stable(1), 2);
        edge.due("none is left for the other", x.stable(3), -1);
        Given.text(x, 5, "if star=1:less 1;");
        edge.due("now the other one", x.stable(1), 3);
        edge.due("none is left for the first", x.stable(2), -1);
    }

    private void stableTies() {
        edge.says("Terms 4", "(the greatest first, of several the least)");
        MatchBook x = four();
        edge.due("he asks the least", x.stable(2), 0);
        edge.due("the second asks the second", x.stable(3), 1);
        Given.text(x, 6, "if star=1:more 1;");
        edge.due("by one more", x.stable(2), 1);
        edge.says("Terms 4", "she keeps the one that she likes most (of several the least)");
        MatchBook y = Given.houses(4);
        y.person(0, 0, 0, 0);
        y.person(1, 1, 0, 0);
        y.person(2, 1, 0, 0);
        y.person(3, 1, 1, 0);
        edge.due("the least", y.stable(0), 1);
        edge.due("the second has none", y.stable(2), -1);
        edge.due("the third has none", y.stable(3), -1);
        Given.text(y, 5, "if star=1:more 1;");
        edge.due("the greatest number, but more liked", y.stable(0), 3);
        sentAway();
        longAsking();
        // Grooms are sent away one after the other: a later one takes her from an earlier one.
        MatchBook z = four();
        Given.text(z, 6, "if bride=0:more 1;");
        Given.text(z, 5, "if star=1:more 5;");
        Given.text(z, 1, "if star=1:bar;");
        edge.due("3 takes 0", z.stable(0), 3);
        edge.due("2 was sent away, and may not wed 1", z.stable(2), -1);
    }

    /** 2 and 3 ask 0, who keeps 3; then 2 asks 1, who has kept 4 till then. */
    private void sentAway() {
        MatchBook x = Given.houses(5);
        x.person(0, 0, 0, 0);
        x.person(1, 0, 4, 0);
        x.person(2, 1, 1, 0);
        x.person(3, 1, 0, -5);
        x.person(4, 1, 4, 0);
        Given.text(x, 6, "if star<2:more 1;");
        Given.text(x, 5, "if age=5:more 1;");
        edge.due("0 keeps 3", x.stable(0), 3);
        edge.due("1 likes both as much: the least", x.stable(1), 2);
        edge.due("4 has none", x.stable(4), -1);
        Given.text(x, 5, "if age=5:more 2;if star=0:more 1;");
        edge.due("1 likes 4 more by one", x.stable(1), 4);
        edge.due("2 has none", x.stable(2), -1);
        Given.text(x, 5, "if age=5:more 2;if star=3:more 1;");
        edge.due("1 likes 2 more by one", x.stable(1), 2);
    }

    /** Wishes by which most grooms are sent away again and again: 47 rounds of asking. */
    private void longAsking() {
        edge.says("Terms 4", "what stands when none has whom to ask.");
        MatchBook x = Given.houses(2);
        for (int k = 0; k < 8; k++) {
            x.person(0, 0, 0, -k);
        }
        for (int k = 0; k < 8; k++) {
            x.person(1, 1, 0, -k);
        }
        edge.due("wish of brides", Given.text(x, 5, ""
                + "if bride=7and age<6:more 9;if bride>0and age=3:less 2;if bride=5and age=0:more 8;if bride>5and age=1:more 4;"
                + "if bride=2and age=1:more 9;if bride>2and age>1:more 6;if bride<2and age>2:more 5;if bride=0and age=4:less 4;"
                + "if bride=6and age<4:more 8;if bride<7and age=4:less 9;if bride<1and age<6:less 4;if bride>5and age>2:more 4;"
                + "if bride>0and age>6:less 1;if bride>7and age>7:more 6;if bride>2and age>7:less 2;if bride<2and age=7:more 4;"),
                16);
        edge.due("wish of grooms", Given.text(x, 6, ""
                + "if bride=4and age>0:less 5;if bride=4and age=0:less 8;if bride>5and age<2:more 7;if bride>7and age>6:more 8;"
                + "if bride>2and age=5:more 8;if bride<1and age>5:less 3;if bride<0and age<5:less 3;if bride>6and age=3:more 3;"
                + "if bride<4and age=2:less 6;if bride=0and age>7:less 5;if bride<3and age<1:more 8;if bride<2and age>6:less 4;"
                + "if bride<2and age<1:less 4;if bride=4and age>3:less 7;if bride>3and age=2:less 1;if bride>2and age=1:more 1;"),
                16);
        int[] grooms = {6, 7, 1, 2, 5, 0, 3, 4};
        for (int bride = 0; bride < 8; bride++) {
            edge.due("with bride " + bride, x.stable(bride), 8 + grooms[bride]);
            edge.due("with groom " + (8 + grooms[bride]), x.stable(8 + grooms[bride]), bride);
        }
    }

    /** House h has a bride of star h and a groom whose star is that of the house ahead; all others are barred. */
    private static MatchBook ringOf(int n) {
        MatchBook x = Given.houses(n);
        for (int h = 0; h < n; h++) {
            x.person(h, 0, h, 0);
            x.person(h, 1, h == 0 ? n - 1 : h - 1, 0);
        }
        for (int v = 0; v < 5; v++) {
            Given.text(x, v, "if star>0:bar;");
        }
        return x;
    }

    private void ringSizes() {
        edge.says("Terms 4", "A RING: 2 .. 4 HOUSES, from the least of them on, each of which gives a FREE bride to a FREE groom of"
                + " the next one (the last to the first);");
        for (int n = 1; n <= 6; n++) {
            MatchBook x = ringOf(n);
            boolean is = n >= 2 && n <= 4;
            edge.due("of " + n + ": houses", x.ring(0), is ? n : -1);
            edge.due("of " + n + ": gifts", x.ring(1), is ? 0 : -1);
            for (int k = 0; k <= n; k++) {
                boolean place = is && k < n;
                edge.due("of " + n + ": house at " + k, x.ringed(k, 0), place ? k : -1);
                edge.due("of " + n + ": bride at " + k, x.ringed(k, 1), place ? 2 * k : -1);
                edge.due("of " + n + ": groom at " + k, x.ringed(k, 2), place ? 2 * ((k + 1) % n) + 1 : -1);
            }
        }
        MatchBook y = ringOf(4);
        y.die(6);
        edge.due("the last gives none", y.ring(0), -1);
        MatchBook z = Given.houses(4);
        Given.persons(z, 3, 0, 1);
        Given.persons(z, 3, 1, 1);
        Given.persons(z, 1, 0, 1);
        Given.persons(z, 1, 1, 1);
        edge.due("from the least house on", z.ringed(0, 0), 1);
        edge.due("then the other", z.ringed(1, 0), 3);
        z.ask(0, 3);
        edge.due("not with those who are not free", z.ring(0), -1);
    }

    private void ringCouples() {
        edge.says("Terms 4", "from HOUSE to HOUSE that couple that MAY wed with the greatest GIFT, of several the least bride, then"
                + " groom.");
        MatchBook x = new MatchBook();
        x.house(0, 0, 0);
        x.house(0, 1, 0);
        x.person(0, 0, 0, 0);
        x.person(0, 0, 1, 0);
        x.person(1, 1, 0, 0);
        x.person(1, 1, 1, 0);
        x.person(1, 0, 0, 0);
        x.person(0, 1, 0, 0);
        edge.due("the least bride", x.ringed(0, 1), 0);
        edge.due("the least groom", x.ringed(0, 2), 2);
        Given.text(x, 0, "if star=1:gift 1;");
        edge.due("the greatest gift, the least bride", x.ringed(0, 1), 0);
        edge.due("her groom", x.ringed(0, 2), 3);
        Given.text(x, 0, "if star=0:gift 1;if star=1:gift 2;");
        edge.due("the greater of two", x.ringed(0, 2), 3);
        edge.due("gifts", x.ring(1), 3);
        Given.text(x, 0, "if star=0 and bride=0:gift 1;");
        edge.due("the least couple again", x.ringed(0, 2), 2);
        Given.text(x, 0, "gift 1;if star=0:bar;");
        edge.due("barred: no way back", x.ring(0), -1);
        x.person(0, 1, 1, 0);
        edge.due("a way back", x.ringed(1, 2), 6);
        edge.due("and there", x.ringed(0, 2), 3);
    }

    private void theRing() {
        edge.says("Terms 4", "THE RING: with the most GIFTS together; of several the fewest HOUSES; then the least row.");
        MatchBook x = Given.houses(4);
        for (int h = 0; h < 4; h++) {
            x.person(h, 0, 0, 0);
            x.person(h, 1, 0, 0);
        }
        ringIs(x, "all alike", 0, 0, 1);
        Given.text(x, 3, "gift 1;");
        ringIs(x, "the most gifts, the fewest houses, the least row", 2, 0, 3);
        Given.text(x, 2, "gift 1;");
        ringIs(x, "by three and one more", 4, 0, 2, 1, 3);
        Given.text(x, 3, "gift 2;");
        ringIs(x, "four still", 6, 0, 2, 1, 3);
        x.die(0);
        ringIs(x, "without a bride of 0", 5, 1, 2, 3);
        x.die(2);
        ringIs(x, "two alone", 4, 2, 3);
        x.die(4);
        edge.due("one alone", x.ring(0), -1);
    }

    private void ringIs(MatchBook x, String when, int gifts, int... row) {
        edge.due(when + ": houses", x.ring(0), row.length);
        edge.due(when + ": gifts", x.ring(1), gifts);
        for (int k = 0; k < row.length; k++) {
            edge.due(when + ": house at " + k, x.ringed(k, 0), row[k]);
        }
        edge.due(when + ": behind", x.ringed(row.length, 0), -1);
    }

    private void bests() {
        best();
        bestOther();
        bestFor();
        bestForNone();
        stable();
        stableNone();
    }

    private void best() {
        edge.says("Promise 29", "BEST, what 0: weddings, 1: of them between HOUSES with a FEUD, 2: GIFTS together.");
        bestIs("of nothing", new MatchBook(), 0, 0, 0);
        MatchBook x = Given.couple();
        bestIs("one", x, 1, 0, 0);
        x.feud(0, 1, true);
        Given.text(x, 0, "gift 7;");
        bestIs("one with a feud and a gift", x, 1, 1, 7);
        x.ask(0, 1);
        bestIs("none is free", x, 0, 0, 0);
    }

    private void bestOther() {
        edge.says("Promise 29", "NONE for another what.");
        MatchBook x = Given.couple();
        edge.due("-1", x.best(-1), -1);
        edge.due("0", x.best(0), 1);
        edge.due("2", x.best(2), 0);
        edge.due("3", x.best(3), -1);
        edge.due("MIN", x.best(Integer.MIN_VALUE), -1);
        edge.due("MAX", x.best(Integer.MAX_VALUE), -1);
    }

    private void bestFor() {
        edge.says("Promise 30", "The groom of a bride by BEST, or the bride of a groom.");
        MatchBook x = four();
        Given.text(x, 0, "if star=0:gift 1;");
        edge.due("of bride 0", x.bestFor(0), 3);
        edge.due("of bride 1", x.bestFor(1), 2);
        edge.due("of groom 2", x.bestFor(2), 1);
        edge.due("of groom 3", x.bestFor(3), 0);
    }

    private void bestForNone() {
        edge.says("Promise 30", "NONE: none, or there is none such.");
        MatchBook x = Given.couple();
        edge.due("person -1", x.bestFor(-1), -1);
        edge.due("person 2", x.bestFor(2), -1);
        edge.due("MAX", x.bestFor(Integer.MAX_VALUE), -1);
        edge.due("MIN", x.bestFor(Integer.MIN_VALUE), -1);
        edge.due("one that is", x.bestFor(1), 0);
        Given.text(x, 1, "bar;");
        edge.due("none", x.bestFor(1), -1);
        Given.text(x, 1, "");
        x.die(0);
        edge.due("of the dead", x.bestFor(0), -1);
        edge.due("none is left", x.bestFor(1), -1);
    }

    private void stable() {
        edge.says("Promise 31", "Who is with a PERSON in STABLE.");
        MatchBook x = four();
        Given.text(x, 6, "if star=1:more 1;");
        edge.due("of bride 0", x.stable(0), 3);
        edge.due("of bride 1", x.stable(1), 2);
        edge.due("of groom 2", x.stable(2), 1);
        edge.due("of groom 3", x.stable(3), 0);
    }

    private void stableNone() {
        edge.says("Promise 31", "NONE: none, or there is none such.");
        MatchBook x = Given.couple();
        edge.due("person -1", x.stable(-1), -1);
        edge.due("person 2", x.stable(2), -1);
        edge.due("MAX", x.stable(Integer.MAX_VALUE), -1);
        edge.due("MIN", x.stable(Integer.MIN_VALUE), -1);
        edge.due("one that is", x.stable(1), 0);
        Given.text(x, 0, "bar;");
        edge.due("none", x.stable(1), -1);
        Given.text(x, 0, "");
        x.ask(0, 1);
        edge.due("not free", x.stable(0), -1);
    }

    private void rings() {
        ring();
        ringNone();
        ringed();
        ringedNone();
    }

    private void ring() {
        edge.says("Promise 32", "THE RING, what 0: how many HOUSES, 1: GIFTS together.");
        for (int n = 2; n <= 4; n++) {
            MatchBook x = ringOf(n);
            for (int v = 0; v < 5; v++) {
                Given.text(x, v, "gift 9999;".repeat(15) + "if star>0:bar;");
            }
            edge.due("houses of " + n, x.ring(0), n);
            edge.due("the greatest gifts of " + n, x.ring(1), n * 149985);
        }
    }

    private void ringNone() {
        edge.says("Promise 32", "NONE: there is none, or for another what.");
        edge.due("of nothing", new MatchBook().ring(0), -1);
        edge.due("gifts of nothing", new MatchBook().ring(1), -1);
        MatchBook x = ringOf(2);
        edge.due("-1", x.ring(-1), -1);
        edge.due("0", x.ring(0), 2);
        edge.due("1", x.ring(1), 0);
        edge.due("2", x.ring(2), -1);
        edge.due("MAX", x.ring(Integer.MAX_VALUE), -1);
        x.die(3);
        edge.due("none any more", x.ring(0), -1);
        edge.due("no gifts any more", x.ring(1), -1);
    }

    private void ringed() {
        edge.says("Promise 33", "Of place k of THE RING, from 0 on, what 0: the HOUSE, 1: the bride that it gives, 2: her groom.");
        MatchBook x = ringOf(3);
        int[][] want = {{0, 0, 3}, {1, 2, 5}, {2, 4, 1}};
        for (int k = 0; k < 3; k++) {
            for (int what = 0; what < 3; what++) {
                edge.due("ringed(" + k + ", " + what + ")", x.ringed(k, what), want[k][what]);
            }
        }
    }

    private void ringedNone() {
        edge.says("Promise 33", "NONE: there is none such, or for another what.");
        for (int n = 2; n <= 4; n++) {
            MatchBook x = ringOf(n);
            edge.due("of " + n + ": place -1", x.ringed(-1, 0), -1);
            edge.due("of " + n + ": the last place", x.ringed(n - 1, 0), n - 1);
            edge.due("of " + n + ": behind it", x.ringed(n, 0), -1);
            edge.due("of " + n + ": place MAX", x.ringed(Integer.MAX_VALUE, 0), -1);
            edge.due("of " + n + ": place MIN", x.ringed(Integer.MIN_VALUE, 0), -1);
            edge.due("of " + n + ": what -1", x.ringed(0, -1), -1);
            edge.due("of " + n + ": what 2", x.ringed(0, 2), 3);
            edge.due("of " + n + ": what 3", x.ringed(0, 3), -1);
            edge.due("of " + n + ": what MAX", x.ringed(0, Integer.MAX_VALUE), -1);
        }
        MatchBook y = ringOf(4);
        edge.due("the fourth place", y.ringed(3, 0), 3);
        y.die(1);
        for (int k = 0; k < 4; k++) {
            edge.due("no ring: place " + k, y.ringed(k, 0), -1);
        }
    }

    private void counts() {
        count();
        countOther();
    }

    private void count() {
        edge.says("Promise 34", "How many: 0 HOUSES, 1 PERSONS, 2 NEWS, 3 the YEAR, 4 MATCHES, 5 open ones, 6 weddings, 7 FEUDS,"
                + " 8 COINS of all HOUSES, 9 FREE brides, 10 FREE grooms, 11 LATE weddings.");
        MatchBook x = new MatchBook();
        countsAre(x, 0, 0, 0, 0, 0, 0, 0, 0, 0, 0, 0, 0);
        x.house(0, 0, 100000);
        x.house(1, 1, 100000);
        x.house(2, 2, 7);
        x.feud(0, 2, true);
        x.feud(0, 1, true);
        x.person(0, 0, 0, -80);
        x.person(0, 0, 0, -30);
        x.person(0, 0, 0, -30);
        x.person(1, 1, 0, -30);
        x.person(1, 1, 0, -30);
        Given.text(x, 0, "gift 9;if kin=1:bar;");
        x.year();
        countsAre(x, 3, 5, 0, 1, 0, 0, 0, 2, 200007, 3, 2, 0);
        x.ask(0, 3);
        x.ask(1, 4);
        x.promise(1);
        countsAre(x, 3, 5, 0, 1, 2, 2, 0, 2, 200007, 1, 0, 0);
        x.promise(0);
        x.wed(0);
        countsAre(x, 3, 5, 0, 1, 2, 1, 1, 1, 200007, 1, 0, 0);
        x.parent(3, 0, 0);
        countsAre(x, 3, 5, 1, 1, 2, 1, 1, 1, 200007, 1, 0, 1);
        x.breaks(1, false);
        x.die(3);
        countsAre(x, 3, 5, 1, 1, 2, 0, 1, 1, 200007, 3, 1, 1);
        x.die(2);
        countsAre(x, 3, 5, 1, 1, 2, 0, 1, 1, 200007, 2, 1, 1);
    }

    private void countsAre(MatchBook x, int... row) {
        for (int what = 0; what < row.length; what++) {
            edge.due("count(" + what + ")", x.count(what), row[what]);
        }
    }

    private void countOther() {
        edge.says("Promise 34", "-100 for another what.");
        MatchBook x = new MatchBook();
        edge.due("-1", x.count(-1), -100);
        edge.due("0", x.count(0), 0);
        edge.due("11", x.count(11), 0);
        edge.due("12", x.count(12), -100);
        edge.due("MIN", x.count(Integer.MIN_VALUE), -100);
        edge.due("MAX", x.count(Integer.MAX_VALUE), -100);
    }

    private void images() {
        image();
        imageFalse();
        again();
        againFalse();
    }

    private void image() {
        edge.says("Promise 35", "Image k (0 .. 2) is all that is told (the tape, the FAULT, too), as it is now: true;");
        MatchBook x = new MatchBook();
        for (int k = 0; k < 3; k++) {
            edge.due("image " + k, x.image(k), true);
            x.house(0, 0, 0);
        }
        for (int k = 0; k < 3; k++) {
            x.again(k);
            edge.due("houses of " + k, x.count(0), k);
        }
        x.again(2);
        edge.due("image 1 anew", x.image(1), true);
        x.again(0);
        edge.due("0 is as it was", x.count(0), 0);
        x.again(1);
        edge.due("1 is the new one", x.count(0), 2);
        MatchBook y = Given.couple();
        Given.text(y, 0, "gift 5;bar");
        y.feed(0x6261723b, 0x20202020, 0x20202020, 0x20202020, 0x6261723b);
        y.image(0);
        y.end(4);
        y.feed(0x3f3f3f3f, 0x3f3f3f3f, 0x3f3f3f3f, 0x3f3f3f3f, 0x3f3f3f3f);
        y.text(0);
        edge.due("another fault", y.fault(1), 4);
        y.again(0);
        edge.due("the fault", y.fault(0), 1);
        edge.due("its place", y.fault(1), 10);
        edge.due("the tape's length", y.end(21), -1);
        edge.due("the tape", y.text(0), 2);
        fullImage();
    }

    /** A book that has as many of all things as it may have. */
    private void fullImage() {
        MatchBook x = Given.houses(8);
        x.person(0, 0, 0, -80);
        for (int p = 1; p < 20; p++) {
            x.person(p % 8, p % 2, p % 8, p - 60);
        }
        for (int k = 0; k < 60; k++) {
            x.parent(19, 0, k % 5);
        }
        for (int m = 0; m < 30; m++) {
            x.ask(0, 1);
            if (m < 29) {
                x.breaks(m, true);
            }
        }
        for (int k = 0; k < 25; k++) {
            x.feed(0x20202020, 0x20202020, 0x20202020, 0x20202020, 0x20202020);
        }
        x.image(2);
        x.end(0);
        x.breaks(29, true);
        x.die(19);
        x.again(2);
        countsAre(x, 8, 20, 60, 0, 30, 1, 0, 0, 8000, 9, 9, 0);
        edge.due("the last match", x.match(29, 2), 0);
        edge.due("the last person", x.tell(19, 5), 1);
        edge.due("the last news", x.heard(59, 4), 0);
        edge.due("the tape", x.end(500), 500);
        edge.due("no more houses", x.house(0, 0, 0), -1);
        edge.due("no more persons", x.person(0, 0, 0, 0), -1);
        edge.due("no more news", x.parent(19, 0, 0), -1);
        edge.due("no more bytes", x.feed(0, 0, 0, 0, 0), -1);
        edge.due("no more matches", x.ask(4, 3), -1);
    }

    private void imageFalse() {
        edge.says("Promise 35", "false for another k.");
        MatchBook x = Given.houses(1);
        edge.due("-1", x.image(-1), false);
        edge.due("3", x.image(3), false);
        edge.due("MIN", x.image(Integer.MIN_VALUE), false);
        edge.due("MAX", x.image(Integer.MAX_VALUE), false);
        for (int k = 0; k < 3; k++) {
            edge.due("none came at " + k, x.again(k), false);
        }
        edge.due("0", x.image(0), true);
        edge.due("2", x.image(2), true);
    }

    private void again() {
        edge.says("Promise 36", "All that is as image k has it: true;");
        MatchBook x = Given.couple();
        x.image(0);
        Given.wedding(x, 0, 1);
        x.year();
        x.image(1);
        edge.due("again 0", x.again(0), true);
        edge.due("no wedding", x.count(6), 0);
        edge.due("free", x.tell(0, 9), 1);
        x.die(0);
        edge.due("again 0 once more", x.again(0), true);
        edge.due("alive", x.tell(0, 5), 1);
        edge.due("again 1", x.again(1), true);
        edge.due("wed", x.tell(0, 6), 1);
        edge.due("year", x.count(3), 1);
        x.again(0);
        x.image(1);
        x.year();
        edge.due("image 1 was made anew", x.again(1), true);
        edge.due("year of it", x.count(3), 0);
        edge.due("and weddings", x.count(6), 0);
        MatchBook y = Given.family();
        y.image(0);
        y.parent(2, 0, 0);
        edge.due("kin", y.kin(2, 0, 0, 0), 1);
        y.again(0);
        edge.due("nothing was told", y.kin(2, 0, 0, 0), 99);
        allThatIs();
        newBehindAgain();
    }

    private void allThatIs() {
        int[][] want = new int[2][];
        for (int which = 0; which < 2; which++) {
            MatchBook x = new MatchBook();
            Sight.tell(x, which);
            want[which] = Sight.of(x);
        }
        MatchBook x = new MatchBook();
        x.image(2);
        for (int which = 0; which < 2; which++) {
            Sight.tell(x, which);
            x.image(which);
            x.again(2);
            edge.due("nothing", x.count(0), 0);
        }
        // A wedding that is not late, so that nothing of the others' days is left where it stands.
        x.house(0, 0, 0);
        x.house(0, 0, 0);
        Given.persons(x, 1, 1, 1);
        Given.persons(x, 0, 0, 1);
        Given.wedding(x, 1, 0);
        for (int which = 0; which < 2; which++) {
            x.again(which);
            int[] got = Sight.of(x);
            for (int k = 0; k < got.length; k++) {
                edge.due("book " + which + ", number " + k, got[k], want[which][k]);
            }
        }
    }

    /** What comes new has nothing of what stood in its place. */
    private void newBehindAgain() {
        MatchBook x = new MatchBook();
        x.image(0);
        Sight.tell(x, 0);
        x.again(0);
        for (int h = 0; h < 3; h++) {
            x.house(h, h, 50);
        }
        Given.persons(x, 0, 0, 5);
        Given.persons(x, 1, 1, 3);
        edge.due("no feud", x.about(0, 3), 0);
        edge.due("no widow", x.tell(4, 7), 0);
        edge.due("alive", x.tell(6, 5), 1);
        edge.due("no spouse", x.tell(0, 6), -1);
        edge.due("no open match", x.tell(1, 8), -1);
        edge.due("free", x.count(9), 5);
        edge.due("no custom", x.read(0, 6, 0, 2), 0);
        edge.due("no wish", x.liking(0, 6), 0);
        Given.text(x, 2, "if elder:gift 1;");
        edge.due("never wed: an elder", x.read(1, 6, 2, 2), 1);
        edge.due("the first match", x.ask(0, 6), 0);
        edge.due("stands", x.match(0, 2), 0);
        edge.due("nothing is paid", x.match(0, 5), 0);
        edge.due("not late", x.match(0, 8), 0);
    }

    private void againFalse() {
        edge.says("Promise 36", "false if there is none such.");
        MatchBook x = Given.houses(1);
        for (int k = -1; k <= 3; k++) {
            edge.due("none at first: " + k, x.again(k), false);
        }
        x.image(1);
        x.year();
        edge.due("-1", x.again(-1), false);
        edge.due("0", x.again(0), false);
        edge.due("2", x.again(2), false);
        edge.due("3", x.again(3), false);
        edge.due("MIN", x.again(Integer.MIN_VALUE), false);
        edge.due("MAX", x.again(Integer.MAX_VALUE), false);
        edge.due("nothing changed", x.count(3), 1);
        edge.due("1", x.again(1), true);
        edge.due("now it did", x.count(3), 0);
        edge.due("images stay", x.again(0), false);
        edge.due("of another object", new MatchBook().again(1), false);
    }

    /** What later calls answer is free, but they may not throw (LANGUAGE 7). */
    private void lastCall() {
        edge.says("What it is", "An object is used for at most 512 calls after it has been made; what later calls answer is free.");
        MatchBook x = new MatchBook();
        x.house(0, 0, 0);
        for (int k = 1; k < 511; k++) {
            x.harvest(0, 100000);
        }
        edge.due("the 512th call", x.about(0, 2), 51000000);
        for (int k = 0; k < 30000; k++) {
            x.harvest(0, 100000);
        }
        x.count(8);
        x.best(2);
    }
}
