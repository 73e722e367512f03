/** Terms 3 and promises 22 to 28: matches, late weddings, couples that would part. */
final class EdgesOfMatches {
    private final Edge edge;

    private EdgesOfMatches(Edge edge) {
        this.edge = edge;
    }

    static void run(Edge edge) {
        EdgesOfMatches edges = new EdgesOfMatches(edge);
        edges.stands();
        edges.lateTerms();
        edges.partTerms();
        edges.steps();
        edges.tales();
    }

    /** Bride 0 of house 0 with her coins, groom 1 of house 1 with his; the custom of her village. */
    private static MatchBook rich(int hers, int his, String custom) {
        MatchBook x = new MatchBook();
        x.house(0, 0, hers);
        x.house(1, 1, his);
        x.person(0, 0, 0, -20);
        x.person(1, 1, 0, -25);
        Given.text(x, 0, custom);
        return x;
    }

    private void stands() {
        free();
        matchesAtMost();
        giftsOfThen();
        promised();
        wedded();
        feudEnds();
        openOnes();
        brokenOnes();
        endedOnes();
    }

    private void free() {
        edge.says("Terms 3", "A PERSON is FREE, if it is alive, not WED, and in no open MATCH.");
        MatchBook x = Given.couple();
        freeAre(x, "at first", 1, 1);
        x.ask(0, 1);
        freeAre(x, "asked", 0, 0);
        x.breaks(0, true);
        freeAre(x, "broken", 1, 1);
        x.ask(0, 1);
        x.promise(1);
        freeAre(x, "promised", 0, 0);
        x.breaks(1, false);
        freeAre(x, "broken by him", 1, 1);
        Given.wedding(x, 0, 1);
        freeAre(x, "wed", 0, 0);
        x.die(1);
        freeAre(x, "he died", 1, 0);
        Given.persons(x, 1, 1, 1);
        x.ask(0, 2);
        x.die(0);
        freeAre(x, "she died", 0, 0);
        edge.due("who was asked is free again", x.tell(2, 9), 1);
    }

    private void freeAre(MatchBook x, String when, int hers, int his) {
        edge.due(when + ": the bride", x.tell(0, 9), hers);
        edge.due(when + ": the groom", x.tell(1, 9), his);
    }

    private void matchesAtMost() {
        edge.says("Terms 3", "A MATCH, at most 30, from 0 on, of a FREE bride and a FREE groom that MAY wed, is asked (0)");
        MatchBook x = Given.couple();
        edge.due("none yet", x.match(0, 2), -1);
        for (int m = 0; m < 30; m++) {
            edge.due("number " + m, x.ask(0, 1), m);
            edge.due("it stands", x.match(m, 2), 0);
            edge.due("they are not free", x.ask(0, 1), -1);
            x.breaks(m, true);
        }
        edge.due("a 31st", x.ask(0, 1), -1);
        edge.due("how many", x.count(4), 30);
        edge.due("none is open", x.count(5), 0);
        edge.due("they are free still", x.tell(0, 9), 1);
        edge.due("match 30", x.match(30, 2), -1);
    }

    private void giftsOfThen() {
        edge.says("Terms 3", "with the GIFT and BACK of then;");
        MatchBook x = rich(100, 100, "gift 20;back 30;if bride>20:gift 5;");
        x.ask(0, 1);
        x.year();
        Given.text(x, 0, "gift 90;back 90;");
        edge.due("gift", x.match(0, 3), 20);
        edge.due("back", x.match(0, 4), 30);
        x.promise(0);
        edge.due("half of then", x.match(0, 5), 10);
        x.wed(0);
        edge.due("all of then", x.match(0, 5), 20);
        edge.due("coins of hers", x.about(0, 2), 120);
    }

    private void promised() {
        edge.says("Terms 3", "promised (1): his HOUSE pays half the GIFT, cut, to hers;");
        int[][] halves = {{0, 0}, {1, 0}, {2, 1}, {3, 1}, {4, 2}, {9999, 4999}};
        for (int[] h : halves) {
            MatchBook x = rich(0, h[1], "gift " + h[0] + ";");
            x.ask(0, 1);
            edge.due("gift " + h[0], x.promise(0), true);
            edge.due("stands", x.match(0, 2), 1);
            edge.due("paid", x.match(0, 5), h[1]);
            edge.due("hers", x.about(0, 2), h[1]);
            edge.due("his", x.about(1, 2), 0);
        }
    }

    private void wedded() {
        edge.says("Terms 3", "wed (2): they still MAY, he pays the rest;");
        int[][] gifts = {{0, 0}, {1, 1}, {2, 2}, {3, 3}, {9999, 9999}};
        for (int[] g : gifts) {
            MatchBook x = rich(0, g[1], "gift " + g[0] + ";");
            x.ask(0, 1);
            x.promise(0);
            edge.due("gift " + g[0], x.wed(0), true);
            edge.due("stands", x.match(0, 2), 2);
            edge.due("paid", x.match(0, 5), g[1]);
            edge.due("hers", x.about(0, 2), g[1]);
            edge.due("his", x.about(1, 2), 0);
        }
        MatchBook y = rich(0, 100, "gift 10;if age>25:bar;");
        y.ask(0, 1);
        y.promise(0);
        y.year();
        edge.due("they may no more", y.wed(0), false);
        edge.due("it is promised still", y.match(0, 2), 1);
        edge.due("and half is paid", y.about(1, 2), 95);
        Given.text(y, 0, "");
        edge.due("they may again", y.wed(0), true);
    }

    private void feudEnds() {
        edge.says("Terms 3", "a FEUD between both HOUSES ends.");
        MatchBook x = Given.couple();
        x.house(2, 2, 0);
        x.feud(0, 1, true);
        x.feud(0, 2, true);
        x.feud(1, 2, true);
        x.ask(0, 1);
        edge.due("asked", x.count(7), 3);
        x.promise(0);
        edge.due("promised", x.count(7), 3);
        x.wed(0);
        edge.due("wed", x.count(7), 2);
        edge.due("of hers", x.about(0, 3), 4);
        edge.due("of his", x.about(1, 3), 4);
        edge.due("of the third", x.about(2, 3), 3);
        MatchBook y = Given.couple();
        Given.wedding(y, 0, 1);
        edge.due("without a feud", y.count(7), 0);
        edge.due("one may begin again", y.feud(0, 1, true), true);
    }

    private void openOnes() {
        edge.says("Terms 3", "Asked and promised ones are open;");
        MatchBook x = Given.couple();
        edge.due("none", x.count(5), 0);
        x.ask(0, 1);
        edge.due("asked", x.count(5), 1);
        edge.due("asked, of the bride", x.tell(0, 8), 0);
        x.promise(0);
        edge.due("promised", x.count(5), 1);
        edge.due("promised, of the groom", x.tell(1, 8), 0);
        x.wed(0);
        edge.due("wed", x.count(5), 0);
        edge.due("wed, of the bride", x.tell(0, 8), -1);
        edge.due("wed ones break no more", x.breaks(0, true), false);
        x.die(1);
        Given.persons(x, 1, 1, 1);
        x.ask(0, 2);
        x.breaks(1, true);
        edge.due("broken", x.count(5), 0);
        edge.due("broken ones break no more", x.breaks(1, false), false);
        x.ask(0, 2);
        x.die(2);
        edge.due("ended", x.count(5), 0);
        edge.due("ended ones break no more", x.breaks(2, true), false);
    }

    private void brokenOnes() {
        edge.says("Terms 3", "broken (3): if her side breaks a promised one, her HOUSE sends back what was paid, and BACK"
                + " percent of it, cut, more; if his does, nothing.");
        // gift, back, paid, sent back
        int[][] rows = {{0, 100, 0, 0}, {1, 100, 0, 0}, {2, 0, 1, 1}, {2, 99, 1, 1}, {2, 100, 1, 2}, {4, 49, 2, 2}, {4, 50, 2, 3},
            {200, 1, 100, 101}, {198, 1, 99, 99}, {9999, 100, 4999, 9998}, {9999, 33, 4999, 6648}};
        for (int[] r : rows) {
            MatchBook x = rich(r[3], 20000, "gift " + r[0] + ";back " + r[1] + ";");
            x.ask(0, 1);
            x.promise(0);
            String what = "gift " + r[0] + ", back " + r[1];
            edge.due(what + ": her side", x.breaks(0, true), true);
            edge.due(what + ": stands", x.match(0, 2), 3);
            edge.due(what + ": hers", x.about(0, 2), r[2]);
            edge.due(what + ": his", x.about(1, 2), 20000 - r[2] + r[3]);
            edge.due(what + ": not sent back", x.match(0, 5), 0);
            MatchBook y = rich(0, 20000, "gift " + r[0] + ";back " + r[1] + ";");
            y.ask(0, 1);
            y.promise(0);
            edge.due(what + ": his side", y.breaks(0, false), true);
            edge.due(what + ": stands", y.match(0, 2), 3);
            edge.due(what + ": hers", y.about(0, 2), r[2]);
            edge.due(what + ": his", y.about(1, 2), 20000 - r[2]);
            edge.due(what + ": paid stays", y.match(0, 5), r[2]);
        }
        MatchBook z = rich(0, 0, "gift 50;back 100;");
        z.ask(0, 1);
        edge.due("an asked one, her side", z.breaks(0, true), true);
        edge.due("hers", z.about(0, 2), 0);
        z.ask(0, 1);
        edge.due("an asked one, his side", z.breaks(1, false), true);
        edge.due("his", z.about(1, 2), 0);
    }

    private void endedOnes() {
        edge.says("Terms 3", "If one of both dies, an open one is ended (4), no COINS move.");
        for (int who = 0; who < 2; who++) {
            MatchBook x = rich(100, 100, "gift 50;back 100;");
            x.ask(0, 1);
            x.die(who);
            edge.due("asked, " + who + " dies", x.match(0, 2), 4);
            edge.due("asked: hers", x.about(0, 2), 100);
            edge.due("the other is free", x.tell(1 - who, 9), 1);
            MatchBook y = rich(100, 100, "gift 50;back 100;");
            y.ask(0, 1);
            y.promise(0);
            y.die(who);
            edge.due("promised, " + who + " dies", y.match(0, 2), 4);
            edge.due("promised: hers", y.about(0, 2), 125);
            edge.due("promised: his", y.about(1, 2), 75);
            edge.due("promised: paid", y.match(0, 5), 25);
            MatchBook z = rich(100, 100, "gift 50;");
            Given.wedding(z, 0, 1);
            z.die(who);
            edge.due("wed, " + who + " dies", z.match(0, 2), 2);
            MatchBook u = rich(100, 100, "gift 50;");
            u.ask(0, 1);
            u.breaks(0, true);
            u.die(who);
            edge.due("broken, " + who + " dies", u.match(0, 2), 3);
        }
    }

    private void lateTerms() {
        lateWeddings();
        lateOfItsDay();
    }

    /** 0 and 1 are wed; 2 is the mother of both, told in a village. */
    private static MatchBook lateBook(int custom, String text) {
        MatchBook x = Given.houses(3);
        x.person(0, 0, 0, -20);
        x.person(1, 1, 0, -20);
        x.person(2, 0, 0, -60);
        Given.text(x, custom, text);
        return x;
    }

    private static void tellMother(MatchBook x, int village) {
        x.parent(0, 2, village);
        x.parent(1, 2, village);
    }

    private void lateWeddings() {
        edge.says("Terms 3", "LATE is a wedding (2; spouses dead or not) that would be BARRED by one of the two texts of its day");
        for (int custom = 0; custom < 3; custom++) {
            MatchBook x = lateBook(custom, "if kin<3:bar;");
            x.ask(0, 1);
            edge.due("asked", x.match(0, 8), 0);
            x.promise(0);
            x.wed(0);
            edge.due("wed, nothing heard", x.match(0, 8), 0);
            tellMother(x, custom);
            int want = custom < 2 ? 1 : 0;
            edge.due("custom " + custom, x.match(0, 8), want);
            x.die(0);
            edge.due("she is dead", x.match(0, 8), want);
            x.die(1);
            edge.due("he is dead", x.match(0, 8), want);
            edge.due("how many", x.count(11), want);
        }
        MatchBook y = lateBook(0, "if kin<3:bar;");
        y.ask(0, 1);
        y.promise(0);
        tellMother(y, 0);
        edge.due("a promised one is none", y.match(0, 8), 0);
        y.breaks(0, false);
        edge.due("nor is a broken one", y.match(0, 8), 0);
        edge.due("none", y.late(0), -1);
    }

    private void lateOfItsDay() {
        edge.says("Terms 3", "with all FLAGS and FACTS of its day, but KIN as HEARD now.");
        MatchBook x = lateBook(0, "if age>20:bar;");
        Given.wedding(x, 0, 1);
        x.year();
        edge.due("his age of its day", x.match(0, 8), 0);
        MatchBook y = lateBook(0, "if kin<3 and age<21 and feud and rich=1000:bar;");
        y.feud(0, 1, true);
        Given.wedding(y, 0, 1);
        y.harvest(1, 5);
        y.year();
        y.road(3, 0, 2);
        tellMother(y, 3);
        edge.due("told in 1, heard in 3: not by 1", y.match(0, 8), 0);
        y.year();
        edge.due("nor by 2", y.match(0, 8), 0);
        y.year();
        edge.due("another couple is read in between", y.read(2, 1, 0, 0), 0);
        edge.due("by 3", y.match(0, 8), 1);
        y.road(3, 0, 3);
        edge.due("by the roads of now not yet", y.match(0, 8), 0);
        y.road(3, 0, 0);
        Given.text(y, 0, "");
        edge.due("the text of its day", y.match(0, 8), 1);
        y.person(2, 0, 0, -70);
        y.parent(1, 3, 0);
        edge.due("another mother now", y.match(0, 8), 0);
        MatchBook z = lateBook(0, "if kin<3:bar;");
        tellMother(z, 1);
        Given.wedding(z, 0, 1);
        edge.due("her text with what is heard in her village", z.match(0, 8), 0);
        MatchBook u = lateBook(1, "if kin<3:bar;");
        Given.wedding(u, 0, 1);
        Given.text(u, 0, "if kin<3:bar;");
        tellMother(u, 0);
        edge.due("his text with what is heard in his village", u.match(0, 8), 0);
    }

    /** Brides 0 and 2, grooms 1 and 3, each of a house; 0 with 1 and 2 with 3, stars the other way about. */
    private static MatchBook partBook() {
        MatchBook x = Given.houses(4);
        x.person(0, 0, 0, -20);
        x.person(1, 1, 1, -20);
        x.person(2, 0, 1, -20);
        x.person(3, 1, 0, -20);
        Given.text(x, 5, "if star=0:more 1;");
        Given.text(x, 6, "if star=0:more 1;");
        x.ask(0, 1);
        return x;
    }

    private void partsAre(String when, MatchBook x, int... row) {
        for (int k = 0; k < row.length; k++) {
            edge.due(when + ", parts(" + k + ")", x.parts(k), row[k]);
        }
        edge.due(when + ", behind", x.parts(row.length), -1);
    }

    private void partTerms() {
        edge.says("Terms 3", "WOULD PART: a bride and a groom in two open MATCHES, of two HOUSES, not BARRED by either CUSTOM now,"
                + " each of whom has more LIKING for the other than for the one it is matched with; in order by bride, then groom.");
        MatchBook x = partBook();
        partsAre("one match", x);
        x.ask(2, 3);
        partsAre("two matches", x, 3, 201);
        x.promise(0);
        partsAre("one promised", x, 3, 201);
        x.promise(1);
        partsAre("both promised", x, 3, 201);
        Given.text(x, 0, "bar;");
        partsAre("one barred by hers", x, 201);
        Given.text(x, 0, "");
        Given.text(x, 3, "bar;");
        partsAre("one barred by his", x, 201);
        Given.text(x, 3, "");
        Given.text(x, 5, "if star=0:more 1;if star>0:more 1;");
        partsAre("as much liking of hers", x);
        Given.text(x, 5, "if star=0:more 1;if star>0:more 2;");
        partsAre("less liking of hers", x);
        Given.text(x, 5, "if star=0:more 2;if star>0:more 1;");
        partsAre("more liking of hers by one", x, 3, 201);
        Given.text(x, 6, "if star=0:more 1;if star>0:more 1;");
        partsAre("as much liking of his", x);
        Given.text(x, 6, "if star=0:more 1;if star>0:more 2;");
        partsAre("less liking of his", x);
        Given.text(x, 6, "if star>0:less 1;");
        partsAre("less is more than still less", x, 3, 201);
        x.breaks(0, false);
        partsAre("one broken", x);
        MatchBook y = partBook();
        y.ask(2, 3);
        y.promise(0);
        y.promise(1);
        y.wed(0);
        partsAre("one wed", y);
        oneHouse();
        threeMatches();
    }

    private void oneHouse() {
        MatchBook x = Given.houses(2);
        x.person(0, 0, 0, 0);
        x.person(1, 1, 1, 0);
        x.person(1, 0, 1, 0);
        x.person(0, 1, 0, 0);
        Given.text(x, 5, "if star=0:more 1;");
        Given.text(x, 6, "if star=0:more 1;");
        x.ask(0, 1);
        x.ask(2, 3);
        partsAre("of one house", x);
    }

    /** Each groom is a star beyond his bride's, so that all would rather have the nearer ones. */
    private void threeMatches() {
        MatchBook x = Given.houses(6);
        x.person(0, 1, 0, 0);
        x.person(1, 0, 4, 0);
        x.person(2, 1, 0, 0);
        x.person(3, 0, 4, 0);
        x.person(4, 1, 4, 0);
        x.person(5, 0, 0, 0);
        Given.text(x, 5, "if star=0:more 1;");
        Given.text(x, 6, "if star=0:more 1;");
        x.ask(1, 0);
        x.ask(3, 2);
        x.ask(5, 4);
        partsAre("by bride, then groom", x, 104, 304, 500, 502);
        edge.due("k -1", x.parts(-1), -1);
    }

    private void steps() {
        ask();
        askNone();
        promise();
        promiseFalse();
        wed();
        wedFalse();
        breaks();
        breaksFalse();
    }

    private void ask() {
        edge.says("Promise 22", "A MATCH is asked: its number.");
        MatchBook x = rich(0, 0, "gift 9999;back 100;");
        edge.due("the first, without any coins", x.ask(0, 1), 0);
        edge.due("bride", x.match(0, 0), 0);
        edge.due("groom", x.match(0, 1), 1);
        edge.due("asked", x.match(0, 2), 0);
        edge.due("open", x.count(5), 1);
        edge.due("nothing is paid", x.match(0, 5), 0);
        x.breaks(0, true);
        edge.due("the second", x.ask(0, 1), 1);
    }

    private void askNone() {
        edge.says("Promise 22", "NONE: there are 30, there are none such, one is not FREE, or they MAY not wed.");
        MatchBook x = Given.couple();
        Given.persons(x, 0, 1, 1);
        Given.persons(x, 1, 1, 1);
        Given.persons(x, 0, 0, 2);
        int[][] others = {{-1, 1}, {0, -1}, {6, 1}, {0, 6}, {1, 0}, {0, 4}, {1, 3}, {Integer.MAX_VALUE, 1}, {0, Integer.MIN_VALUE}};
        for (int[] o : others) {
            edge.due("ask(" + o[0] + ", " + o[1] + ")", x.ask(o[0], o[1]), -1);
        }
        edge.due("of one house", x.ask(0, 2), -1);
        Given.text(x, 0, "if age=25:bar;");
        edge.due("barred by hers", x.ask(0, 1), -1);
        Given.text(x, 0, "");
        Given.text(x, 1, "if age=25:bar;");
        edge.due("barred by his", x.ask(0, 1), -1);
        edge.due("none came", x.count(4), 0);
        Given.text(x, 1, "");
        edge.due("they may", x.ask(0, 1), 0);
        edge.due("she is not free", x.ask(0, 3), -1);
        edge.due("he is not free", x.ask(4, 1), -1);
        x.promise(0);
        edge.due("promised: she is not free", x.ask(0, 3), -1);
        x.wed(0);
        edge.due("wed: he is not free", x.ask(4, 1), -1);
        x.die(5);
        edge.due("dead", x.ask(5, 3), -1);
        for (int m = 1; m < 30; m++) {
            edge.due("number " + m, x.ask(4, 3), m);
            x.breaks(m, false);
        }
        edge.due("a 31st", x.ask(4, 3), -1);
        edge.due("30 of them", x.count(4), 30);
    }

    private void promise() {
        edge.says("Promise 23", "A MATCH is promised: true;");
        MatchBook x = rich(3, 5, "gift 11;");
        x.ask(0, 1);
        x.year();
        Given.text(x, 0, "bar;");
        edge.due("with just half, and though they may no more", x.promise(0), true);
        edge.due("stands", x.match(0, 2), 1);
        edge.due("since", x.match(0, 7), 1);
        edge.due("his", x.about(1, 2), 0);
        edge.due("hers", x.about(0, 2), 8);
    }

    private void promiseFalse() {
        edge.says("Promise 23", "false: it is none that is asked, or his HOUSE has too few COINS.");
        MatchBook x = rich(0, 4, "gift 10;");
        edge.due("no match", x.promise(0), false);
        x.ask(0, 1);
        edge.due("match -1", x.promise(-1), false);
        edge.due("match 1", x.promise(1), false);
        edge.due("match MAX", x.promise(Integer.MAX_VALUE), false);
        edge.due("match MIN", x.promise(Integer.MIN_VALUE), false);
        edge.due("one coin too few", x.promise(0), false);
        edge.due("asked still", x.match(0, 2), 0);
        edge.due("nothing moved", x.about(1, 2), 4);
        x.harvest(1, 1);
        edge.due("just enough", x.promise(0), true);
        edge.due("promised before", x.promise(0), false);
        edge.due("nothing more moved", x.match(0, 5), 5);
        x.harvest(1, 5);
        x.wed(0);
        edge.due("wed", x.promise(0), false);
        x.die(1);
        Given.persons(x, 1, 1, 1);
        x.harvest(1, 100);
        x.ask(0, 2);
        x.breaks(1, false);
        edge.due("broken", x.promise(1), false);
        x.ask(0, 2);
        x.die(2);
        edge.due("ended", x.promise(2), false);
        edge.due("his coins stay", x.about(1, 2), 100);
    }

    private void wed() {
        edge.says("Promise 24", "A MATCH is wed: true;");
        MatchBook x = rich(0, 11, "gift 11;");
        x.ask(0, 1);
        x.promise(0);
        x.year();
        edge.due("with just the rest", x.wed(0), true);
        edge.due("stands", x.match(0, 2), 2);
        edge.due("since", x.match(0, 7), 1);
        edge.due("asked in", x.match(0, 6), 0);
        edge.due("her spouse", x.tell(0, 6), 1);
        edge.due("his spouse", x.tell(1, 6), 0);
        edge.due("his coins", x.about(1, 2), 0);
        edge.due("her coins", x.about(0, 2), 11);
        edge.due("weddings", x.count(6), 1);
    }

    private void wedFalse() {
        edge.says("Promise 24", "false: it is none that is promised, they MAY not wed now, or his HOUSE has too few COINS.");
        MatchBook x = rich(0, 10, "gift 11;");
        x.feud(0, 1, true);
        edge.due("no match", x.wed(0), false);
        x.ask(0, 1);
        edge.due("asked", x.wed(0), false);
        x.promise(0);
        edge.due("match -1", x.wed(-1), false);
        edge.due("match 1", x.wed(1), false);
        edge.due("match MAX", x.wed(Integer.MAX_VALUE), false);
        edge.due("one coin too few", x.wed(0), false);
        nothingWed(x);
        x.harvest(1, 1);
        Given.text(x, 0, "if rich=6:bar;");
        edge.due("barred by hers", x.wed(0), false);
        Given.text(x, 0, "");
        Given.text(x, 1, "if feud:bar;");
        edge.due("barred by his", x.wed(0), false);
        edge.due("his coins stay", x.about(1, 2), 6);
        Given.text(x, 1, "if rich=5:bar;");
        edge.due("just enough", x.wed(0), true);
        edge.due("wed before", x.wed(0), false);
        x.die(1);
        Given.persons(x, 1, 1, 1);
        x.ask(0, 2);
        x.promise(1);
        x.breaks(1, false);
        edge.due("broken", x.wed(1), false);
        x.ask(0, 2);
        x.promise(2);
        x.die(0);
        edge.due("ended", x.wed(2), false);
        edge.due("one wedding", x.count(6), 1);
    }

    private void nothingWed(MatchBook x) {
        edge.due("promised still", x.match(0, 2), 1);
        edge.due("half paid still", x.match(0, 5), 5);
        edge.due("his coins still", x.about(1, 2), 5);
        edge.due("her coins still", x.about(0, 2), 5);
        edge.due("no spouse", x.tell(0, 6), -1);
        edge.due("the feud still", x.count(7), 1);
    }

    private void breaks() {
        edge.says("Promise 25", "A MATCH is broken by her side, or (bride false) by his: true;");
        MatchBook x = rich(0, 20, "gift 20;back 50;");
        x.ask(0, 1);
        edge.due("asked, by hers", x.breaks(0, true), true);
        x.ask(0, 1);
        edge.due("asked, by his", x.breaks(1, false), true);
        edge.due("nothing moved", x.about(1, 2), 20);
        x.ask(0, 1);
        x.promise(2);
        x.year();
        edge.due("promised, by his", x.breaks(2, false), true);
        edge.due("since", x.match(2, 7), 1);
        edge.due("nothing is sent back", x.about(0, 2), 10);
        x.ask(0, 1);
        x.promise(3);
        edge.due("promised, by hers", x.breaks(3, true), true);
        edge.due("hers", x.about(0, 2), 5);
        edge.due("his", x.about(1, 2), 15);
        edge.due("stands", x.match(3, 2), 3);
        edge.due("free", x.tell(0, 9), 1);
    }

    private void breaksFalse() {
        edge.says("Promise 25", "false: it is no open one, or her HOUSE has too few COINS.");
        MatchBook x = rich(0, 20, "gift 20;back 50;");
        edge.due("no match", x.breaks(0, true), false);
        edge.due("no match, by his", x.breaks(0, false), false);
        x.ask(0, 1);
        x.promise(0);
        edge.due("match -1", x.breaks(-1, false), false);
        edge.due("match 1", x.breaks(1, false), false);
        edge.due("match MAX", x.breaks(Integer.MAX_VALUE, true), false);
        edge.due("five coins too few", x.breaks(0, true), false);
        x.harvest(0, 4);
        edge.due("one coin too few", x.breaks(0, true), false);
        edge.due("promised still", x.match(0, 2), 1);
        edge.due("paid still", x.match(0, 5), 10);
        edge.due("hers still", x.about(0, 2), 14);
        edge.due("not free still", x.tell(0, 9), 0);
        x.harvest(0, 1);
        edge.due("just enough", x.breaks(0, true), true);
        edge.due("broken before", x.breaks(0, true), false);
        edge.due("broken before, by his", x.breaks(0, false), false);
        x.ask(0, 1);
        x.promise(1);
        edge.due("too few", x.breaks(1, true), false);
        edge.due("but his side may", x.breaks(1, false), true);
        x.harvest(1, 5);
        Given.wedding(x, 0, 1);
        edge.due("wed", x.match(2, 2), 2);
        edge.due("a wed one", x.breaks(2, false), false);
        x.die(1);
        Given.persons(x, 1, 1, 1);
        x.ask(0, 2);
        x.die(2);
        edge.due("an ended one", x.breaks(3, false), false);
    }

    private void tales() {
        match();
        matchNone();
        late();
        lateNone();
        parts();
        partsNone();
    }

    private void match() {
        edge.says("Promise 26", "Of a MATCH, what 0: bride, 1: groom, 2: how it stands, 3: GIFT, 4: BACK, 5: COINS paid to her"
                + " HOUSE and not sent back, 6: the YEAR in which it was asked, 7: in which it came to stand as it does,"
                + " 8: 1 if LATE, else 0.");
        MatchBook x = lateBook(0, "gift 21;back 7;if kin<3:bar;");
        x.ask(0, 1);
        matchIs(x, 0, 0, 1, 0, 21, 7, 0, 0, 0, 0);
        x.year();
        matchIs(x, 0, 0, 1, 0, 21, 7, 0, 0, 0, 0);
        x.promise(0);
        matchIs(x, 0, 0, 1, 1, 21, 7, 10, 0, 1, 0);
        x.year();
        x.wed(0);
        matchIs(x, 0, 0, 1, 2, 21, 7, 21, 0, 2, 0);
        x.year();
        tellMother(x, 0);
        matchIs(x, 0, 0, 1, 2, 21, 7, 21, 0, 2, 1);
        x.die(1);
        matchIs(x, 0, 0, 1, 2, 21, 7, 21, 0, 2, 1);
        x.person(1, 1, 0, 3);
        x.ask(0, 3);
        matchIs(x, 1, 0, 3, 0, 21, 7, 0, 3, 3, 0);
        x.promise(1);
        x.breaks(1, true);
        matchIs(x, 1, 0, 3, 3, 21, 7, 0, 3, 3, 0);
        x.ask(0, 3);
        x.promise(2);
        x.year();
        x.die(3);
        matchIs(x, 2, 0, 3, 4, 21, 7, 10, 3, 4, 0);
    }

    private void matchIs(MatchBook x, int match, int... row) {
        for (int what = 0; what < row.length; what++) {
            edge.due("match(" + match + ", " + what + ")", x.match(match, what), row[what]);
        }
    }

    private void matchNone() {
        edge.says("Promise 26", "NONE if there is none such, or for another what.");
        MatchBook x = Given.couple();
        edge.due("no match at all", x.match(0, 0), -1);
        x.ask(0, 1);
        edge.due("match -1", x.match(-1, 2), -1);
        edge.due("match 0", x.match(0, 2), 0);
        edge.due("match 1", x.match(1, 2), -1);
        edge.due("match MAX", x.match(Integer.MAX_VALUE, 2), -1);
        edge.due("match MIN", x.match(Integer.MIN_VALUE, 2), -1);
        edge.due("what -1", x.match(0, -1), -1);
        edge.due("what 0", x.match(0, 0), 0);
        edge.due("what 8", x.match(0, 8), 0);
        edge.due("what 9", x.match(0, 9), -1);
        edge.due("what MAX", x.match(0, Integer.MAX_VALUE), -1);
    }

    /** Weddings 0, 1 and 2; the first and the last are late. */
    private static MatchBook twoLate() {
        MatchBook x = Given.houses(2);
        Given.text(x, 0, "if kin=1:bar;");
        x.person(0, 0, 0, -80);
        x.person(0, 0, 0, -80);
        x.person(0, 0, 0, -80);
        Given.persons(x, 1, 1, 3);
        for (int k = 0; k < 3; k++) {
            Given.wedding(x, k, 3 + k);
        }
        x.parent(3, 0, 0);
        x.parent(5, 2, 0);
        return x;
    }

    private void late() {
        edge.says("Promise 27", "The k-th LATE wedding, from 0 on, by numbers.");
        MatchBook x = twoLate();
        edge.due("0", x.late(0), 0);
        edge.due("1", x.late(1), 2);
        edge.due("how many", x.count(11), 2);
        x.parent(4, 1, 0);
        edge.due("1 of three", x.late(1), 1);
        edge.due("2 of three", x.late(2), 2);
    }

    private void lateNone() {
        edge.says("Promise 27", "NONE: there is none such.");
        MatchBook x = twoLate();
        edge.due("-1", x.late(-1), -1);
        edge.due("1", x.late(1), 2);
        edge.due("2", x.late(2), -1);
        edge.due("MAX", x.late(Integer.MAX_VALUE), -1);
        edge.due("MIN", x.late(Integer.MIN_VALUE), -1);
        edge.due("of nothing", new MatchBook().late(0), -1);
    }

    private void parts() {
        edge.says("Promise 28", "The k-th couple that WOULD PART, from 0 on: 100 times the bride, and the groom.");
        MatchBook x = Given.houses(4);
        for (int p = 0; p < 16; p++) {
            x.person(0, 0, 0, 0);
        }
        x.person(0, 0, 0, 0);
        x.person(1, 1, 1, 0);
        x.person(2, 0, 1, 0);
        x.person(3, 1, 0, 0);
        Given.text(x, 5, "if star=0:more 1;");
        Given.text(x, 6, "if star=0:more 1;");
        x.ask(16, 17);
        x.ask(18, 19);
        edge.due("0", x.parts(0), 1619);
        edge.due("1", x.parts(1), 1817);
        MatchBook y = partBook();
        y.ask(2, 3);
        edge.due("bride 0", y.parts(0), 3);
    }

    private void partsNone() {
        edge.says("Promise 28", "NONE: there is none such.");
        MatchBook x = partBook();
        edge.due("of one match", x.parts(0), -1);
        x.ask(2, 3);
        edge.due("-1", x.parts(-1), -1);
        edge.due("1", x.parts(1), 201);
        edge.due("2", x.parts(2), -1);
        edge.due("MAX", x.parts(Integer.MAX_VALUE), -1);
        edge.due("MIN", x.parts(Integer.MIN_VALUE), -1);
        edge.due("of nothing", new MatchBook().parts(0), -1);
    }
}
