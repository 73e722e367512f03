/** Terms 1 and promises 1 to 14: villages, houses, persons, news, kin. */
final class EdgesOfVillages {
    private final Edge edge;

    private EdgesOfVillages(Edge edge) {
        this.edge = edge;
    }

    static void run(Edge edge) {
        EdgesOfVillages edges = new EdgesOfVillages(edge);
        edges.terms();
        edges.houses();
        edges.persons();
        edges.news();
        edges.kinships();
        edges.tales();
    }

    private void terms() {
        villages();
        roadYears();
        yearsOfAll();
        housesAtMost();
        feudsOfTwo();
        personsAtMost();
        ages();
        widows();
        newsAtMost();
        mothersAndFathers();
        bornAhead();
        shortestWay();
        waysOfNow();
        latestNews();
        kinSteps();
        chainRow();
    }

    private void villages() {
        edge.says("Terms 1", "VILLAGES are 0 .. 4.");
        int[] villages = {Integer.MIN_VALUE, -1, 0, 1, 4, 5, Integer.MAX_VALUE};
        for (int v : villages) {
            boolean is = v >= 0 && v <= 4;
            MatchBook x = Given.family();
            x.parent(2, 0, 3);
            x.road(3, 0, 0);
            x.road(3, 1, 0);
            x.road(3, 4, 0);
            edge.due("house in " + v, x.house(0, v, 0), is ? 3 : -1);
            edge.due("road to " + v, x.road(2, v, 1), is);
            edge.due("road from " + v, x.road(v, 2, 1), is);
            edge.due("parent in " + v, x.parent(3, 0, v), is ? 1 : -1);
            edge.due("heard in " + v, x.heard(0, v), is ? 0 : -1);
            edge.due("kin in " + v, x.kin(2, 0, v, 0), is ? 1 : -1);
            edge.due("chain in " + v, x.chain(2, 0, v, 0, 0), is ? 2 : -1);
            edge.due("read in " + v, x.read(2, 3, v, 2), is ? 0 : -100);
        }
    }

    private void roadYears() {
        edge.says("Terms 1", "A ROAD between two takes 0 .. 9 YEARS for news, or there is none (at first).");
        MatchBook x = Given.family();
        x.parent(2, 0, 0);
        for (int v = 1; v < 5; v++) {
            edge.due("none at first to " + v, x.heard(0, v), -1);
        }
        edge.due("0 years", x.road(0, 1, 0), true);
        edge.due("heard after 0", x.heard(0, 1), 0);
        edge.due("9 years", x.road(0, 1, 9), true);
        edge.due("heard after 9", x.heard(0, 1), 9);
        edge.due("10 years", x.road(0, 1, 10), false);
        edge.due("-2 years", x.road(0, 1, -2), false);
        edge.due("heard after 9 still", x.heard(0, 1), 9);
        edge.due("none", x.road(0, 1, -1), true);
        edge.due("not heard any more", x.heard(0, 1), -1);
    }

    private void yearsOfAll() {
        edge.says("Terms 1", "YEARS go from 0 on, to 300.");
        MatchBook x = Given.family();
        edge.due("the first one", x.count(3), 0);
        Given.years(x, 298);
        x.road(0, 1, 1);
        x.road(0, 2, 9);
        x.parent(2, 0, 0);
        edge.due("299", x.year(), 299);
        edge.due("300", x.year(), 300);
        edge.due("301", x.year(), -1);
        edge.due("still 300", x.count(3), 300);
        edge.due("news of 298 go on to 299", x.heard(0, 1), 299);
        edge.due("and as many years as a way takes", x.heard(0, 2), 307);
        edge.due("kin by -1", x.kin(2, 2, 0, -1), -1);
        edge.due("kin by 0", x.kin(2, 2, 0, 0), 0);
        edge.due("kin by 300", x.kin(2, 0, 1, 300), 1);
        edge.due("not heard in 2 by the last year", x.kin(2, 0, 2, 300), 99);
        edge.due("kin by 301", x.kin(2, 0, 1, 301), -1);
    }

    private void housesAtMost() {
        edge.says("Terms 1", "HOUSES, at most 8, from 0 on, have a CLAN, 0 .. 5, a VILLAGE, COINS.");
        MatchBook x = new MatchBook();
        edge.due("none yet", x.about(0, 0), -1);
        edge.due("clan -1", x.house(-1, 0, 0), -1);
        edge.due("clan 6", x.house(6, 0, 0), -1);
        edge.due("clan 0", x.house(0, 1, 2), 0);
        edge.due("clan 5", x.house(5, 4, 3), 1);
        for (int h = 2; h < 8; h++) {
            edge.due("number " + h, x.house(h % 6, h % 5, h), h);
        }
        edge.due("a ninth", x.house(0, 0, 0), -1);
        edge.due("how many", x.count(0), 8);
        edge.due("clan of 0", x.about(0, 0), 0);
        edge.due("clan of 1", x.about(1, 0), 5);
        edge.due("village of 1", x.about(1, 1), 4);
        edge.due("coins of 1", x.about(1, 2), 3);
        edge.due("coins of 7", x.about(7, 2), 7);
        edge.due("house 8", x.about(8, 2), -1);
    }

    private void feudsOfTwo() {
        edge.says("Terms 1", "FEUDS are between two HOUSES.");
        MatchBook x = Given.houses(8);
        edge.due("with itself", x.feud(7, 7, true), false);
        edge.due("no feud of 7", x.about(7, 3), 0);
        edge.due("of 7 with 0", x.feud(7, 0, true), true);
        edge.due("bits of 7", x.about(7, 3), 1);
        edge.due("bits of 0", x.about(0, 3), 128);
        edge.due("one feud", x.count(7), 1);
        edge.due("it is of 0 with 7, too", x.feud(0, 7, true), false);
        for (int a = 0; a < 8; a++) {
            for (int b = 0; b < a; b++) {
                x.feud(a, b, true);
            }
        }
        edge.due("all that can be", x.count(7), 28);
        edge.due("all bits of 7", x.about(7, 3), 127);
        edge.due("all bits of 0", x.about(0, 3), 254);
    }

    private void personsAtMost() {
        edge.says("Terms 1", "PERSONS, at most 20, from 0 on, are of a HOUSE, brides (0) or grooms (1), have a STAR, 0 .. 7,");
        MatchBook x = Given.houses(2);
        edge.due("house -1", x.person(-1, 0, 0, 0), -1);
        edge.due("house 2", x.person(2, 0, 0, 0), -1);
        edge.due("kind -1", x.person(0, -1, 0, 0), -1);
        edge.due("kind 2", x.person(0, 2, 0, 0), -1);
        edge.due("star -1", x.person(0, 0, -1, 0), -1);
        edge.due("star 8", x.person(0, 0, 8, 0), -1);
        edge.due("a bride", x.person(0, 0, 0, 0), 0);
        edge.due("a groom", x.person(1, 1, 7, 0), 1);
        for (int p = 2; p < 20; p++) {
            edge.due("number " + p, x.person(p % 2, p % 2, p % 8, 0), p);
        }
        edge.due("a 21st", x.person(0, 0, 0, 0), -1);
        edge.due("how many", x.count(1), 20);
        edge.due("house of 1", x.tell(1, 0), 1);
        edge.due("kind of 0", x.tell(0, 1), 0);
        edge.due("kind of 1", x.tell(1, 1), 1);
        edge.due("star of 0", x.tell(0, 2), 0);
        edge.due("star of 1", x.tell(1, 2), 7);
        edge.due("star of 19", x.tell(19, 2), 3);
        edge.due("person 20", x.tell(20, 2), -100);
    }

    private void ages() {
        edge.says("Terms 1", "and were BORN in a YEAR, -80 or later, up to now; AGE: YEARS since then.");
        MatchBook x = Given.houses(1);
        edge.due("-81", x.person(0, 0, 0, -81), -1);
        edge.due("-80", x.person(0, 0, 0, -80), 0);
        edge.due("0, now", x.person(0, 0, 0, 0), 1);
        edge.due("1, not yet", x.person(0, 0, 0, 1), -1);
        edge.due("age of the first", x.tell(0, 4), 80);
        edge.due("age of the second", x.tell(1, 4), 0);
        x.year();
        edge.due("1, now", x.person(0, 0, 0, 1), 2);
        edge.due("2, not yet", x.person(0, 0, 0, 2), -1);
        Given.years(x, 299);
        edge.due("300, now", x.person(0, 0, 0, 300), 3);
        edge.due("301, never", x.person(0, 0, 0, 301), -1);
        edge.due("-80 still", x.person(0, 0, 0, -80), 4);
        edge.due("the greatest age", x.tell(0, 4), 380);
        edge.due("the least age", x.tell(3, 4), 0);
        edge.due("born in 1", x.tell(2, 3), 1);
    }

    private void widows() {
        edge.says("Terms 1", "A PERSON may die; its spouse, if it is WED, is free again then, and if that is a bride, a WIDOW"
                + " until she is WED again (the dead one has no spouse any more).");
        MatchBook x = Given.houses(2);
        Given.persons(x, 0, 0, 2);
        Given.persons(x, 1, 1, 3);
        int asked = x.ask(1, 4);
        x.promise(asked);
        Given.wedding(x, 0, 2);
        edge.due("wed: not free", x.tell(0, 9), 0);
        edge.due("wed: no widow", x.tell(0, 7), 0);
        x.die(2);
        edge.due("free again", x.tell(0, 9), 1);
        edge.due("no spouse", x.tell(0, 6), -1);
        edge.due("a widow", x.tell(0, 7), 1);
        edge.due("the dead one has no spouse", x.tell(2, 6), -1);
        edge.due("the dead one is not free", x.tell(2, 9), 0);
        int match = x.ask(0, 3);
        edge.due("asked: a widow still", x.tell(0, 7), 1);
        x.promise(match);
        edge.due("promised: a widow still", x.tell(0, 7), 1);
        x.wed(match);
        edge.due("wed again: no widow", x.tell(0, 7), 0);
        x.die(0);
        edge.due("his bride died: he is free", x.tell(3, 9), 1);
        edge.due("but no widow", x.tell(3, 7), 0);
        edge.due("nor is she", x.tell(0, 7), 0);
        edge.due("she has no spouse any more", x.tell(0, 6), -1);
        x.die(4);
        edge.due("a promised one died: no widow", x.tell(1, 7), 0);
        edge.due("but free", x.tell(1, 9), 1);
        int third = x.ask(1, 3);
        x.promise(third);
        x.wed(third);
        x.die(3);
        edge.due("a widow by the third", x.tell(1, 7), 1);
        edge.due("one that wed twice is not", x.tell(0, 7), 0);
    }

    private void newsAtMost() {
        edge.says("Terms 1", "NEWS, at most 60, from 0 on: PERSON p is the parent");
        MatchBook x = Given.family();
        edge.due("none yet", x.heard(0, 0), -1);
        for (int k = 0; k < 60; k++) {
            edge.due("number " + k, x.parent(2, k % 2, k % 5), k);
        }
        edge.due("the 60th", x.heard(59, 4), 0);
        edge.due("a 61st", x.parent(2, 0, 0), -1);
        edge.due("how many", x.count(2), 60);
        edge.due("news 60", x.heard(60, 0), -1);
    }

    private void mothersAndFathers() {
        edge.says("Terms 1", "(mother, if a bride, else father) of PERSON c, told in a VILLAGE in the YEAR of now");
        MatchBook x = Given.family();
        Given.years(x, 5);
        x.parent(4, 0, 2);
        edge.due("of now", x.heard(0, 2), 5);
        x.year();
        edge.due("of then", x.heard(0, 2), 5);
        x.parent(4, 1, 2);
        edge.due("a father beside her", x.kin(4, 1, 2, 6), 1);
        edge.due("the mother still", x.kin(4, 0, 2, 6), 1);
        edge.due("the father was not told the year before", x.kin(4, 1, 2, 5), 99);
        x.parent(4, 2, 2);
        edge.due("another mother", x.kin(4, 2, 2, 6), 1);
        edge.due("not the first one any more", x.kin(4, 0, 2, 6), 99);
        edge.due("the father still", x.kin(4, 1, 2, 6), 1);
        x.parent(4, 3, 2);
        edge.due("another father", x.kin(4, 3, 2, 6), 1);
        edge.due("not the first father any more", x.kin(4, 1, 2, 6), 99);
        edge.due("the mother as before", x.kin(4, 2, 2, 6), 1);
    }

    private void bornAhead() {
        edge.says("Terms 1", "(p BORN ahead of c).");
        MatchBook x = Given.houses(1);
        x.person(0, 0, 0, -41);
        x.person(0, 0, 0, -40);
        x.person(0, 1, 0, -40);
        x.person(0, 1, 0, -39);
        edge.due("a year ahead", x.parent(1, 0, 0), 0);
        edge.due("in the same year", x.parent(1, 2, 0), -1);
        edge.due("in the same year, the other way about", x.parent(2, 1, 0), -1);
        edge.due("a year behind", x.parent(1, 3, 0), -1);
        edge.due("itself", x.parent(1, 1, 0), -1);
        edge.due("none of these came", x.count(2), 1);
    }

    private void shortestWay() {
        edge.says("Terms 1", "It is HEARD in a VILLAGE as many YEARS later as the shortest way by ROADS of now takes"
                + " (0 in its own; never, if there is none).");
        MatchBook x = Given.family();
        Given.years(x, 10);
        x.parent(2, 0, 0);
        edge.due("in its own", x.heard(0, 0), 10);
        edge.due("no way", x.heard(0, 1), -1);
        x.road(0, 1, 9);
        x.road(0, 2, 5);
        x.road(2, 1, 5);
        edge.due("a way round that is longer", x.heard(0, 1), 19);
        x.road(2, 1, 4);
        edge.due("a way round as long", x.heard(0, 1), 19);
        x.road(2, 1, 3);
        edge.due("a way round that is shorter", x.heard(0, 1), 18);
        x.road(2, 1, 0);
        x.road(0, 2, 0);
        edge.due("a way of no years", x.heard(0, 1), 10);
        edge.due("in its own still", x.heard(0, 0), 10);
        edge.due("never in 3", x.heard(0, 3), -1);
        x.road(3, 4, 0);
        edge.due("nor by a road that does not lead there", x.heard(0, 4), -1);
        wayFromEach();
        MatchBook y = Given.family();
        y.parent(2, 0, 4);
        y.road(4, 1, 9);
        y.road(1, 3, 9);
        y.road(3, 0, 9);
        y.road(0, 2, 9);
        edge.due("the longest way of all", y.heard(0, 2), 36);
        edge.due("by kin, too: not yet", y.kin(2, 0, 2, 35), 99);
        edge.due("by kin, too", y.kin(2, 0, 2, 36), 1);
    }

    /** Villages in a row, 3 1 0 4 2, with roads of 1, 2, 4 and 8 years. */
    private void wayFromEach() {
        MatchBook x = Given.family();
        x.road(4, 2, 8);
        x.road(3, 1, 1);
        x.road(0, 4, 4);
        x.road(1, 0, 2);
        int[] along = {3, 1, 15, 0, 7};
        for (int v = 0; v < 5; v++) {
            x.parent(2, 0, v);
            for (int w = 0; w < 5; w++) {
                edge.due("from " + v + " to " + w, x.heard(v, w), Math.abs(along[v] - along[w]));
            }
        }
    }

    private void waysOfNow() {
        edge.says("Terms 1", "ROADS of now");
        MatchBook x = Given.family();
        x.parent(2, 0, 0);
        Given.years(x, 100);
        x.road(0, 1, 3);
        edge.due("a road that came later", x.heard(0, 1), 3);
        edge.due("by 2", x.kin(2, 0, 1, 2), 99);
        edge.due("by 3", x.kin(2, 0, 1, 3), 1);
        x.road(0, 1, 9);
        edge.due("a road that takes longer now", x.kin(2, 0, 1, 8), 99);
        edge.due("by 9", x.kin(2, 0, 1, 9), 1);
        x.road(0, 1, -1);
        edge.due("a road that is gone", x.kin(2, 0, 1, 300), 99);
    }

    private void latestNews() {
        edge.says("Terms 1", "As HEARD in a VILLAGE by a YEAR: of a PERSON's mother the latest of the NEWS that was HEARD there"
                + " by then, alike of its father.");
        MatchBook x = Given.family();
        x.road(0, 1, 9);
        x.road(2, 1, 2);
        x.parent(4, 0, 0);
        x.parent(4, 2, 2);
        x.parent(5, 1, 0);
        x.parent(5, 3, 2);
        edge.due("mother by 1", x.kin(4, 2, 1, 1), 99);
        edge.due("mother by 2", x.kin(4, 2, 1, 2), 1);
        edge.due("the earlier news by 9: a later one had come", x.kin(4, 2, 1, 9), 1);
        edge.due("not that of the earlier news", x.kin(4, 0, 1, 9), 99);
        edge.due("in 0 the one alone", x.kin(4, 0, 0, 0), 1);
        edge.due("father by 1", x.kin(5, 3, 1, 1), 99);
        edge.due("father by 2", x.kin(5, 3, 1, 2), 1);
        edge.due("father by 9", x.kin(5, 1, 1, 9), 99);
        MatchBook y = Given.family();
        y.road(0, 1, 1);
        y.parent(4, 2, 1);
        y.parent(4, 0, 0);
        edge.due("until the later news come", y.kin(4, 2, 1, 0), 1);
        edge.due("when they come", y.kin(4, 2, 1, 1), 99);
        edge.due("they are what is heard", y.kin(4, 0, 1, 1), 1);
    }

    private void kinSteps() {
        edge.says("Terms 1", "KIN of two PERSONS, as HEARD: the fewest steps from one up to a common forebear"
                + " (a PERSON itself, too) and down to the other one; 99 without.");
        MatchBook x = Given.houses(1);
        for (int p = 0; p < 20; p++) {
            x.person(0, p % 2, 0, p - 80);
        }
        for (int p = 1; p < 19; p++) {
            x.parent(p, p - 1, 0);
        }
        edge.due("itself", x.kin(7, 7, 0, 0), 0);
        edge.due("its child", x.kin(7, 8, 0, 0), 1);
        edge.due("its parent", x.kin(7, 6, 0, 0), 1);
        edge.due("without", x.kin(0, 19, 0, 0), 99);
        edge.due("eighteen steps down", x.kin(0, 18, 0, 0), 18);
        x.parent(19, 18, 0);
        edge.due("the longest way down", x.kin(0, 19, 0, 0), 19);
        edge.due("the longest way up", x.kin(19, 0, 0, 0), 19);
        edge.due("its end", x.chain(19, 0, 0, 0, 19), 0);
        edge.due("behind its end", x.chain(19, 0, 0, 0, 20), -1);
        MatchBook y = Given.family();
        y.parent(2, 0, 0);
        y.parent(3, 1, 0);
        edge.due("no common forebear", y.kin(2, 3, 0, 0), 99);
        y.parent(3, 0, 0);
        edge.due("half siblings", y.kin(2, 3, 0, 0), 2);
        y.parent(4, 2, 0);
        edge.due("up two, down one", y.kin(4, 3, 0, 0), 3);
        y.parent(4, 3, 0);
        edge.due("the fewest", y.kin(4, 3, 0, 0), 1);
        edge.due("a child of both joins no others", y.kin(2, 6, 0, 0), 99);
        fartherBehindNearer();
    }

    /** Forebear 1 is farther from both than her child 0, and has the greater number. */
    private void fartherBehindNearer() {
        MatchBook x = Given.houses(1);
        x.person(0, 0, 0, -40);
        x.person(0, 0, 0, -60);
        x.person(0, 0, 0, -20);
        x.person(0, 1, 0, -20);
        x.parent(0, 1, 0);
        x.parent(2, 0, 0);
        x.parent(3, 0, 0);
        edge.due("siblings below a grandmother", x.kin(2, 3, 0, 0), 2);
        edge.due("their chain goes by their mother", x.chain(2, 3, 0, 0, 1), 0);
        edge.due("a child and its mother", x.kin(2, 0, 0, 0), 1);
    }

    private void chainRow() {
        edge.says("Terms 1", "CHAIN: PERSON by PERSON from the first to the second one on such a way: of several that with the"
                + " fewest steps up; then the least forebear; then the least row.");
        // From 6 to 7: up one to 3 and down two by 5, or up two by 4 to 0 and down one.
        MatchBook x = chainBook();
        x.parent(6, 4, 0);
        x.parent(4, 0, 0);
        x.parent(7, 0, 0);
        chainIs(x, 6, 7, 6, 4, 0, 7);
        x.parent(6, 3, 0);
        x.parent(5, 3, 0);
        x.parent(7, 5, 0);
        chainIs(x, 6, 7, 6, 3, 5, 7);
        chainIs(x, 7, 6, 7, 0, 4, 6);
        // Siblings by father 3 and mother 2: the least forebear.
        MatchBook y = chainBook();
        y.parent(6, 3, 0);
        y.parent(7, 3, 0);
        chainIs(y, 6, 7, 6, 3, 7);
        y.parent(6, 2, 0);
        y.parent(7, 2, 0);
        chainIs(y, 6, 7, 6, 2, 7);
        // The forebear 1 by 4 or 5 on either side: the least row.
        MatchBook z = chainBook();
        z.parent(5, 1, 0);
        z.parent(4, 1, 0);
        z.parent(6, 5, 0);
        chainIs(z, 6, 1, 6, 5, 1);
        chainIs(z, 1, 6, 1, 5, 6);
        z.parent(6, 4, 0);
        chainIs(z, 6, 1, 6, 4, 1);
        chainIs(z, 1, 6, 1, 4, 6);
        chainIs(z, 6, 6, 6);
        chainIs(z, 6, 7);
        // Person 0 in the middle, on the way up and on the way down.
        MatchBook u = Given.houses(1);
        u.person(0, 0, 0, -60);
        u.person(0, 1, 0, -80);
        u.person(0, 0, 0, -40);
        u.person(0, 1, 0, -60);
        u.parent(2, 0, 0);
        u.parent(0, 1, 0);
        u.parent(3, 1, 0);
        chainIs(u, 2, 3, 2, 0, 1, 3);
        chainIs(u, 3, 2, 3, 1, 0, 2);
        chainIs(u, 1, 0, 1, 0);
        // Kin twice over: by the father 3 of both, and by 1, whose daughters are their mothers.
        MatchBook w = Given.houses(1);
        int[] kinds = {0, 0, 0, 1, 0, 1};
        int[] born = {-60, -80, -60, -60, -40, -40};
        for (int p = 0; p < 6; p++) {
            w.person(0, kinds[p], 0, born[p]);
        }
        w.parent(0, 1, 0);
        w.parent(2, 1, 0);
        w.parent(4, 0, 0);
        w.parent(5, 2, 0);
        chainIs(w, 4, 5, 4, 0, 1, 2, 5);
        w.parent(4, 3, 0);
        w.parent(5, 3, 0);
        chainIs(w, 4, 5, 4, 3, 5);
        chainIs(w, 5, 4, 5, 3, 4);
    }

    /** Brides have even numbers; 0 .. 3 were born first, then 4 and 5, then 6 and 7. */
    private static MatchBook chainBook() {
        MatchBook x = Given.houses(1);
        int[] kinds = {0, 1, 0, 1, 0, 1, 0, 1};
        int[] born = {-80, -80, -80, -80, -60, -60, -40, -40};
        for (int p = 0; p < 8; p++) {
            x.person(0, kinds[p], 0, born[p]);
        }
        return x;
    }

    private void chainIs(MatchBook x, int a, int b, int... row) {
        for (int k = 0; k < row.length; k++) {
            edge.due("place " + k + " from " + a + " to " + b, x.chain(a, b, 0, 0, k), row[k]);
        }
        edge.due("behind the chain from " + a + " to " + b, x.chain(a, b, 0, 0, row.length), -1);
        edge.due("ahead of the chain from " + a + " to " + b, x.chain(a, b, 0, 0, -1), -1);
    }

    private void houses() {
        newObject();
        house();
        houseNone();
        person();
        personNone();
        road();
        roadFalse();
        feud();
        feudFalse();
        harvest();
        harvestNone();
    }

    private void newObject() {
        edge.says("Promise 1", "No HOUSES, PERSONS, NEWS, ROADS, texts; YEAR 0; no images.");
        MatchBook x = new MatchBook();
        for (int what = 0; what <= 11; what++) {
            edge.due("count " + what, x.count(what), 0);
        }
        for (int k = -1; k <= 3; k++) {
            edge.due("image " + k, x.again(k), false);
        }
        edge.due("house 0", x.about(0, 0), -1);
        edge.due("person 0", x.tell(0, 0), -100);
        edge.due("match 0", x.match(0, 0), -1);
        edge.due("the tape", x.end(1), -1);
        edge.due("the tape's end", x.end(0), 0);
        edge.due("fault", x.fault(0), 0);
        edge.due("its place", x.fault(1), -1);
        x.house(0, 0, 10);
        x.house(0, 1, 10);
        x.person(0, 0, 0, -1);
        x.person(1, 1, 0, 0);
        x.parent(1, 0, 2);
        for (int v = 0; v < 5; v++) {
            edge.due("no roads: heard in " + v, x.heard(0, v), v == 2 ? 0 : -1);
            edge.due("no text: barred by " + v, x.read(0, 1, v, 0), 0);
            edge.due("no text: gift of " + v, x.read(0, 1, v, 2), 0);
            edge.due("no text: back of " + v, x.read(0, 1, v, 3), 0);
        }
        edge.due("no wish of brides", x.liking(0, 1), 0);
        edge.due("no wish of grooms", x.liking(1, 0), 0);
        edge.due("another new object has nothing of it", new MatchBook().count(0), 0);
    }

    private void house() {
        edge.says("Promise 2", "A HOUSE with COINS, 0 .. 100000: its number.");
        MatchBook x = new MatchBook();
        edge.due("-1 coins", x.house(0, 0, -1), -1);
        edge.due("0 coins", x.house(0, 0, 0), 0);
        edge.due("1 coin", x.house(0, 0, 1), 1);
        edge.due("99999 coins", x.house(0, 0, 99999), 2);
        edge.due("100000 coins", x.house(0, 0, 100000), 3);
        edge.due("100001 coins", x.house(0, 0, 100001), -1);
        edge.due("how many houses", x.count(0), 4);
        edge.due("coins of all", x.count(8), 200000);
    }

    private void houseNone() {
        edge.says("Promise 2", "NONE: there are 8, or other numbers.");
        MatchBook x = new MatchBook();
        int[][] others = {{-1, 0, 0}, {6, 0, 0}, {0, -1, 0}, {0, 5, 0}, {0, 0, -1}, {0, 0, 100001},
            {Integer.MIN_VALUE, 0, 0}, {0, Integer.MAX_VALUE, 0}, {0, 0, Integer.MIN_VALUE}, {0, 0, Integer.MAX_VALUE}};
        for (int[] o : others) {
            edge.due("house(" + o[0] + ", " + o[1] + ", " + o[2] + ")", x.house(o[0], o[1], o[2]), -1);
        }
        edge.due("none of these came", x.count(0), 0);
        for (int h = 0; h < 7; h++) {
            x.house(0, 0, 1);
        }
        edge.due("the eighth", x.house(0, 0, 1), 7);
        edge.due("a ninth", x.house(0, 0, 1), -1);
        edge.due("there are 8", x.count(0), 8);
        edge.due("nor its coins", x.count(8), 8);
    }

    private void person() {
        edge.says("Promise 3", "A PERSON: its number.");
        MatchBook x = Given.houses(8);
        edge.due("of the first house", x.person(0, 0, 0, 0), 0);
        edge.due("of the last house", x.person(7, 1, 7, -80), 1);
        edge.due("house of it", x.tell(1, 0), 7);
        edge.due("kind of it", x.tell(1, 1), 1);
        edge.due("star of it", x.tell(1, 2), 7);
        edge.due("birth of it", x.tell(1, 3), -80);
    }

    private void personNone() {
        edge.says("Promise 3", "NONE: there are 20, there is no such HOUSE, or other numbers.");
        MatchBook x = Given.houses(2);
        int[][] others = {{-1, 0, 0, 0}, {2, 0, 0, 0}, {0, -1, 0, 0}, {0, 2, 0, 0}, {0, 0, -1, 0}, {0, 0, 8, 0},
            {0, 0, 0, -81}, {0, 0, 0, 1}, {Integer.MAX_VALUE, 0, 0, 0}, {0, Integer.MIN_VALUE, 0, 0},
            {0, 0, Integer.MAX_VALUE, 0}, {0, 0, 0, Integer.MIN_VALUE}, {0, 0, 0, Integer.MAX_VALUE}};
        for (int[] o : others) {
            edge.due("person(" + o[0] + ", " + o[1] + ", " + o[2] + ", " + o[3] + ")",
                    x.person(o[0], o[1], o[2], o[3]), -1);
        }
        edge.due("none of these came", x.count(1), 0);
        Given.persons(x, 1, 0, 19);
        edge.due("the 20th", x.person(1, 1, 0, 0), 19);
        edge.due("a 21st", x.person(1, 1, 0, 0), -1);
        edge.due("there are 20", x.count(1), 20);
        x.die(3);
        edge.due("the dead are counted, too", x.person(1, 1, 0, 0), -1);
    }

    private void road() {
        edge.says("Promise 4", "A ROAD from now on (NONE: there is none any more): true;");
        MatchBook x = Given.family();
        x.parent(2, 0, 0);
        edge.due("none where none is", x.road(0, 4, -1), true);
        edge.due("of 0 years", x.road(0, 4, 0), true);
        edge.due("heard", x.heard(0, 4), 0);
        edge.due("the same again", x.road(4, 0, 0), true);
        edge.due("of 9 years, from the other end", x.road(4, 0, 9), true);
        edge.due("heard then", x.heard(0, 4), 9);
        edge.due("none any more", x.road(4, 0, -1), true);
        edge.due("never", x.heard(0, 4), -1);
    }

    private void roadFalse() {
        edge.says("Promise 4", "false: there are no such VILLAGES, they are one, or others.");
        MatchBook x = Given.family();
        x.parent(2, 0, 0);
        x.road(0, 1, 5);
        int[][] others = {{-1, 1, 1}, {5, 1, 1}, {0, -1, 1}, {0, 5, 1}, {0, 0, 1}, {4, 4, 0}, {2, 2, -1}, {0, 1, 10},
            {0, 1, -2}, {0, 1, Integer.MAX_VALUE}, {0, 1, Integer.MIN_VALUE}, {Integer.MIN_VALUE, 1, 1},
            {0, Integer.MAX_VALUE, 1}};
        for (int[] o : others) {
            edge.due("road(" + o[0] + ", " + o[1] + ", " + o[2] + ")", x.road(o[0], o[1], o[2]), false);
        }
        edge.due("the road is as it was", x.heard(0, 1), 5);
        edge.due("and its own village", x.heard(0, 0), 0);
        for (int v = 2; v < 5; v++) {
            edge.due("no road came to " + v, x.heard(0, v), -1);
        }
    }

    private void feud() {
        edge.says("Promise 5", "A FEUD begins (is true) or ends: true;");
        MatchBook x = Given.houses(8);
        edge.due("begins", x.feud(0, 7, true), true);
        edge.due("is", x.about(0, 3), 128);
        edge.due("ends, from the other end", x.feud(7, 0, false), true);
        edge.due("is no more", x.about(0, 3), 0);
        edge.due("nor of the other", x.about(7, 3), 0);
        edge.due("begins again", x.feud(7, 0, true), true);
        edge.due("one", x.count(7), 1);
    }

    private void feudFalse() {
        edge.says("Promise 5", "false: there are no such HOUSES, they are one, or it is so.");
        MatchBook x = Given.houses(3);
        x.feud(0, 1, true);
        edge.due("house -1", x.feud(-1, 0, true), false);
        edge.due("house 3", x.feud(0, 3, true), false);
        edge.due("house 3, first", x.feud(3, 0, true), false);
        edge.due("house 3, no feud", x.feud(3, 0, false), false);
        edge.due("a bit far off", x.feud(32, 0, true), false);
        edge.due("least int", x.feud(0, Integer.MIN_VALUE, true), false);
        edge.due("one house", x.feud(2, 2, true), false);
        edge.due("one house, no feud", x.feud(2, 2, false), false);
        edge.due("it is so", x.feud(1, 0, true), false);
        edge.due("there is none", x.feud(0, 2, false), false);
        edge.due("one feud still", x.count(7), 1);
        edge.due("of 0", x.about(0, 3), 2);
        edge.due("of 1", x.about(1, 3), 1);
        edge.due("of 2", x.about(2, 3), 0);
    }

    private void harvest() {
        edge.says("Promise 6", "A HOUSE has so many COINS more, 1 .. 100000: how many it has.");
        MatchBook x = new MatchBook();
        x.house(0, 0, 100000);
        edge.due("0", x.harvest(0, 0), -1);
        edge.due("1", x.harvest(0, 1), 100001);
        edge.due("100000", x.harvest(0, 100000), 200001);
        edge.due("100001", x.harvest(0, 100001), -1);
        edge.due("it has", x.about(0, 2), 200001);
        for (int k = 0; k < 400; k++) {
            x.harvest(0, 100000);
        }
        edge.due("no limit to what it has", x.harvest(0, 1), 40200002);
    }

    private void harvestNone() {
        edge.says("Promise 6", "NONE: there is none such, or another number.");
        MatchBook x = Given.houses(1);
        edge.due("house -1", x.harvest(-1, 1), -1);
        edge.due("house 0", x.harvest(0, 1), 1001);
        edge.due("house 1", x.harvest(1, 1), -1);
        edge.due("house MAX", x.harvest(Integer.MAX_VALUE, 1), -1);
        edge.due("-1", x.harvest(0, -1), -1);
        edge.due("0", x.harvest(0, 0), -1);
        edge.due("100001", x.harvest(0, 100001), -1);
        edge.due("MIN", x.harvest(0, Integer.MIN_VALUE), -1);
        edge.due("MAX", x.harvest(0, Integer.MAX_VALUE), -1);
        edge.due("nothing came", x.about(0, 2), 1001);
    }

    private void persons() {
        die();
        dieOnce();
        year();
        yearNone();
    }

    private void die() {
        edge.says("Promise 9", "A PERSON dies: true;");
        MatchBook x = Given.couple();
        x.ask(0, 1);
        edge.due("dies", x.die(1), true);
        edge.due("is dead", x.tell(1, 5), 0);
        edge.due("the other is alive", x.tell(0, 5), 1);
        edge.due("living of its house", x.about(1, 4), 0);
        edge.due("the match is ended", x.match(0, 2), 4);
        edge.due("the last one dies", x.die(0), true);
        edge.due("its match stays ended", x.match(0, 2), 4);
        edge.due("they are persons still", x.count(1), 2);
    }

    private void dieOnce() {
        edge.says("Promise 9", "false: there is none such, or it is dead.");
        MatchBook x = Given.couple();
        edge.due("-1", x.die(-1), false);
        edge.due("2", x.die(2), false);
        edge.due("MAX", x.die(Integer.MAX_VALUE), false);
        edge.due("MIN", x.die(Integer.MIN_VALUE), false);
        edge.due("0 dies", x.die(0), true);
        edge.due("0 is dead", x.die(0), false);
        edge.due("1 is alive", x.tell(1, 5), 1);
        MatchBook y = Given.couple();
        Given.wedding(y, 0, 1);
        y.die(1);
        Given.persons(y, 1, 1, 1);
        Given.wedding(y, 0, 2);
        edge.due("her first spouse again", y.die(1), false);
        edge.due("she keeps the second", y.tell(0, 6), 2);
        edge.due("and is no widow", y.tell(0, 7), 0);
        edge.due("an empty book", new MatchBook().die(0), false);
    }

    private void year() {
        edge.says("Promise 10", "The next YEAR: which one it is.");
        MatchBook x = new MatchBook();
        for (int k = 1; k <= 300; k++) {
            edge.due("year " + k, x.year(), k);
            edge.due("count " + k, k % 100 == 0 ? x.count(3) : k, k);
        }
    }

    private void yearNone() {
        edge.says("Promise 10", "NONE: it is 300.");
        MatchBook x = Given.couple();
        Given.years(x, 299);
        edge.due("at 299", x.year(), 300);
        edge.due("at 300", x.year(), -1);
        edge.due("at 300 again", x.year(), -1);
        edge.due("it is 300", x.count(3), 300);
        edge.due("nobody grew older", x.tell(0, 4), 320);
    }

    private void news() {
        parent();
        parentNone();
        heard();
        heardNone();
    }

    private void parent() {
        edge.says("Promise 7", "NEWS of a parent, told in a VILLAGE: its number.");
        MatchBook x = Given.family();
        edge.due("in 0", x.parent(2, 0, 0), 0);
        edge.due("in 4", x.parent(2, 0, 4), 1);
        edge.due("heard in 4", x.kin(2, 0, 4, 0), 1);
        edge.due("not in 3", x.kin(2, 0, 3, 0), 99);
        x.die(1);
        x.die(2);
        edge.due("of the dead", x.parent(2, 1, 3), 2);
        edge.due("heard of the dead", x.kin(2, 1, 3, 0), 1);
    }

    private void parentNone() {
        edge.says("Promise 7", "NONE: there are 60, there are no such PERSONS, VILLAGE, or the parent was not BORN ahead.");
        MatchBook x = Given.family();
        int[][] others = {{-1, 0, 0}, {7, 0, 0}, {2, -1, 0}, {2, 7, 0}, {2, 0, -1}, {2, 0, 5}, {0, 2, 0}, {0, 1, 0}, {2, 3, 0},
            {2, 2, 0}, {Integer.MAX_VALUE, 0, 0}, {2, Integer.MIN_VALUE, 0}, {2, 0, Integer.MAX_VALUE}};
        for (int[] o : others) {
            edge.due("parent(" + o[0] + ", " + o[1] + ", " + o[2] + ")", x.parent(o[0], o[1], o[2]), -1);
        }
        edge.due("none of these came", x.count(2), 0);
        for (int k = 0; k < 59; k++) {
            x.parent(2, 0, 0);
        }
        edge.due("the 60th", x.parent(3, 0, 0), 59);
        edge.due("a 61st", x.parent(4, 0, 0), -1);
        edge.due("there are 60", x.count(2), 60);
        edge.due("the 60th is heard", x.kin(3, 0, 0, 0), 1);
        edge.due("the 61st is not", x.kin(4, 0, 0, 0), 99);
    }

    private void heard() {
        edge.says("Promise 8", "The YEAR in which NEWS k is HEARD in a VILLAGE.");
        MatchBook x = Given.family();
        x.road(0, 4, 9);
        x.parent(2, 0, 0);
        Given.years(x, 300);
        x.parent(3, 0, 0);
        edge.due("told in 0", x.heard(0, 0), 0);
        edge.due("9 years later", x.heard(0, 4), 9);
        edge.due("told in 300", x.heard(1, 0), 300);
        edge.due("by 299", x.kin(3, 0, 0, 299), 99);
        edge.due("by 300", x.kin(3, 0, 0, 300), 1);
    }

    private void heardNone() {
        edge.says("Promise 8", "NONE: never, or there is none such (of either).");
        MatchBook x = Given.family();
        edge.due("no news at all", x.heard(0, 0), -1);
        x.parent(2, 0, 0);
        edge.due("news 0", x.heard(0, 0), 0);
        edge.due("never", x.heard(0, 1), -1);
        edge.due("news -1", x.heard(-1, 0), -1);
        edge.due("news 1", x.heard(1, 0), -1);
        edge.due("news MAX", x.heard(Integer.MAX_VALUE, 0), -1);
        edge.due("village -1", x.heard(0, -1), -1);
        edge.due("village 4", x.heard(0, 4), -1);
        edge.due("village 5", x.heard(0, 5), -1);
        edge.due("village MIN", x.heard(0, Integer.MIN_VALUE), -1);
    }

    private void kinships() {
        kin();
        kinNone();
        chain();
        chainNone();
    }

    private void kin() {
        edge.says("Promise 11", "KIN of two PERSONS as HEARD in a VILLAGE by a YEAR, 0 .. 300 (0: they are one).");
        MatchBook x = Given.family();
        x.parent(2, 0, 0);
        edge.due("one, by 0", x.kin(2, 2, 0, 0), 0);
        edge.due("one, by 300, where nothing is heard", x.kin(2, 2, 4, 300), 0);
        edge.due("two, by 0", x.kin(2, 0, 0, 0), 1);
        edge.due("two, by 300", x.kin(2, 0, 0, 300), 1);
        edge.due("by -1", x.kin(2, 0, 0, -1), -1);
        edge.due("by 301", x.kin(2, 0, 0, 301), -1);
        edge.due("one, by -1", x.kin(2, 2, 0, -1), -1);
        edge.due("one, by 301", x.kin(2, 2, 0, 301), -1);
        x.road(0, 1, 9);
        for (int turn = 0; turn < 2; turn++) {
            edge.due("in 1, by 9", x.kin(2, 0, 1, 9), 1);
            edge.due("in 0, by " + turn, x.kin(2, 0, 0, turn), 1);
            edge.due("in 1, by 9 again", x.kin(2, 0, 1, 9), 1);
            edge.due("in 1, by 8", x.kin(2, 0, 1, 8), 99);
        }
    }

    private void kinNone() {
        edge.says("Promise 11", "NONE: there are none such.");
        MatchBook x = Given.family();
        edge.due("the last person", x.kin(6, 0, 0, 0), 99);
        edge.due("person 7", x.kin(7, 0, 0, 0), -1);
        edge.due("person 7, second", x.kin(0, 7, 0, 0), -1);
        edge.due("person 7 twice", x.kin(7, 7, 0, 0), -1);
        edge.due("person -1", x.kin(-1, 0, 0, 0), -1);
        edge.due("person -1, second", x.kin(0, -1, 0, 0), -1);
        edge.due("person MAX", x.kin(Integer.MAX_VALUE, 0, 0, 0), -1);
        edge.due("village 4", x.kin(0, 0, 4, 0), 0);
        edge.due("village 5", x.kin(0, 0, 5, 0), -1);
        edge.due("village -1", x.kin(0, 0, -1, 0), -1);
        edge.due("year MIN", x.kin(0, 0, 0, Integer.MIN_VALUE), -1);
        edge.due("year MAX", x.kin(0, 0, 0, Integer.MAX_VALUE), -1);
    }

    private void chain() {
        edge.says("Promise 12", "PERSON k, from 0 on, of the CHAIN from a to b.");
        MatchBook x = Given.family();
        x.road(0, 1, 4);
        x.parent(2, 0, 0);
        x.parent(3, 0, 0);
        chainIs(x, 2, 3, 2, 0, 3);
        chainIs(x, 3, 2, 3, 0, 2);
        chainIs(x, 2, 2, 2);
        edge.due("in 1 by 3", x.chain(2, 3, 1, 3, 0), -1);
        edge.due("in 1 by 4", x.chain(2, 3, 1, 4, 0), 2);
        edge.due("in 1 by 4, the end", x.chain(2, 3, 1, 4, 2), 3);
    }

    private void chainNone() {
        edge.says("Promise 12", "NONE: there is none such; as kin().");
        MatchBook x = Given.family();
        x.parent(2, 0, 0);
        edge.due("place -1", x.chain(2, 0, 0, 0, -1), -1);
        edge.due("place 0", x.chain(2, 0, 0, 0, 0), 2);
        edge.due("place 1", x.chain(2, 0, 0, 0, 1), 0);
        edge.due("place 2", x.chain(2, 0, 0, 0, 2), -1);
        edge.due("place MAX", x.chain(2, 0, 0, 0, Integer.MAX_VALUE), -1);
        edge.due("place MIN", x.chain(2, 0, 0, 0, Integer.MIN_VALUE), -1);
        edge.due("no kin", x.chain(2, 6, 0, 0, 0), -1);
        edge.due("no kin, place 99", x.chain(2, 6, 0, 0, 99), -1);
        edge.due("person 7", x.chain(7, 0, 0, 0, 0), -1);
        edge.due("person -1", x.chain(0, -1, 0, 0, 0), -1);
        edge.due("village 5", x.chain(0, 0, 5, 0, 0), -1);
        edge.due("village -1", x.chain(0, 0, -1, 0, 0), -1);
        edge.due("year -1", x.chain(0, 0, 0, -1, 0), -1);
        edge.due("year 300", x.chain(0, 0, 0, 300, 0), 0);
        edge.due("year 301", x.chain(0, 0, 0, 301, 0), -1);
    }

    private void tales() {
        tell();
        tellNone();
        about();
        aboutNone();
    }

    private void tell() {
        edge.says("Promise 13", "Of a PERSON, what 0: HOUSE, 1: bride 0, groom 1, 2: STAR, 3: YEAR in which it was BORN,"
                + " 4: AGE (now), 5: 1 if alive, else 0, 6: its spouse (NONE), 7: 1 if a WIDOW, else 0, 8: its open MATCH (NONE),"
                + " 9: 1 if FREE, else 0.");
        MatchBook x = Given.houses(3);
        x.person(2, 0, 7, -80);
        x.person(1, 1, 0, 0);
        tellsAre(x, 0, 2, 0, 7, -80, 80, 1, -1, 0, -1, 1);
        tellsAre(x, 1, 1, 1, 0, 0, 0, 1, -1, 0, -1, 1);
        x.ask(0, 1);
        tellsAre(x, 0, 2, 0, 7, -80, 80, 1, -1, 0, 0, 0);
        x.promise(0);
        tellsAre(x, 1, 1, 1, 0, 0, 0, 1, -1, 0, 0, 0);
        x.wed(0);
        x.year();
        tellsAre(x, 0, 2, 0, 7, -80, 81, 1, 1, 0, -1, 0);
        tellsAre(x, 1, 1, 1, 0, 0, 1, 1, 0, 0, -1, 0);
        x.die(1);
        x.year();
        tellsAre(x, 0, 2, 0, 7, -80, 82, 1, -1, 1, -1, 1);
        tellsAre(x, 1, 1, 1, 0, 0, 2, 0, -1, 0, -1, 0);
    }

    private void tellsAre(MatchBook x, int person, int... row) {
        for (int what = 0; what < row.length; what++) {
            edge.due("tell(" + person + ", " + what + ")", x.tell(person, what), row[what]);
        }
    }

    private void tellNone() {
        edge.says("Promise 13", "-100 if there is none such, or for another what.");
        MatchBook x = Given.couple();
        edge.due("what -1", x.tell(0, -1), -100);
        edge.due("what 0", x.tell(0, 0), 0);
        edge.due("what 9", x.tell(0, 9), 1);
        edge.due("what 10", x.tell(0, 10), -100);
        edge.due("what MIN", x.tell(0, Integer.MIN_VALUE), -100);
        edge.due("what MAX", x.tell(0, Integer.MAX_VALUE), -100);
        edge.due("person -1", x.tell(-1, 0), -100);
        edge.due("person 1", x.tell(1, 0), 1);
        edge.due("person 2", x.tell(2, 0), -100);
        edge.due("person MAX", x.tell(Integer.MAX_VALUE, 5), -100);
        edge.due("person MIN", x.tell(Integer.MIN_VALUE, 5), -100);
    }

    private void about() {
        edge.says("Promise 14", "Of a HOUSE, what 0: CLAN, 1: VILLAGE, 2: COINS, 3: HOUSES that it has a FEUD with (bits),"
                + " 4: living PERSONS.");
        MatchBook x = new MatchBook();
        x.house(5, 4, 100000);
        for (int h = 1; h < 8; h++) {
            x.house(0, 0, 0);
        }
        aboutIs(x, 0, 5, 4, 100000, 0, 0);
        aboutIs(x, 7, 0, 0, 0, 0, 0);
        for (int h = 1; h < 8; h++) {
            x.feud(h, 0, true);
        }
        Given.persons(x, 0, 0, 10);
        Given.persons(x, 7, 1, 10);
        aboutIs(x, 0, 5, 4, 100000, 254, 10);
        aboutIs(x, 7, 0, 0, 0, 1, 10);
        for (int p = 0; p < 19; p++) {
            x.die(p);
        }
        aboutIs(x, 0, 5, 4, 100000, 254, 0);
        aboutIs(x, 7, 0, 0, 0, 1, 1);
    }

    private void aboutIs(MatchBook x, int house, int... row) {
        for (int what = 0; what < row.length; what++) {
            edge.due("about(" + house + ", " + what + ")", x.about(house, what), row[what]);
        }
    }

    private void aboutNone() {
        edge.says("Promise 14", "NONE if there is none such, or for another what.");
        MatchBook x = Given.houses(2);
        edge.due("what -1", x.about(1, -1), -1);
        edge.due("what 0", x.about(1, 0), 1);
        edge.due("what 4", x.about(1, 4), 0);
        edge.due("what 5", x.about(1, 5), -1);
        edge.due("what MAX", x.about(1, Integer.MAX_VALUE), -1);
        edge.due("house -1", x.about(-1, 2), -1);
        edge.due("house 1", x.about(1, 2), 1000);
        edge.due("house 2", x.about(2, 2), -1);
        edge.due("house MIN", x.about(Integer.MIN_VALUE, 2), -1);
    }
}
