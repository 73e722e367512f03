/** Each promise by hand: ordinary inputs, the edges that the document names, wrong inputs. */
public final class PromiseTest {
    private static final Check check = new Check("PromiseTest");

    private static void due(String call, long got, long want) {
        check.due(call, got, want);
    }

    private static void due(String call, boolean got, boolean want) {
        check.due(call, got, want);
    }

    public static void main(String[] args) {
        newObject();
        house();
        person();
        road();
        feud();
        harvest();
        parent();
        heard();
        heardByRoadsOfNow();
        longWay();
        die();
        year();
        kin();
        kinByRoadsOfNow();
        customsByRoadsOfNow();
        chain();
        chainTies();
        tell();
        about();
        feed();
        end();
        text();
        fault();
        read();
        readFlags();
        readFacts();
        may();
        liking();
        ask();
        promise();
        wed();
        breaks();
        match();
        late();
        lateOfItsDay();
        parts();
        best();
        bestOrder();
        bestFor();
        stable();
        ring();
        ringed();
        firstEight();
        count();
        image();
        again();
        againToAnother();
        againToHisDay();
        againAndNew();
        check.finish();
    }

    private static void newObject() {
        MatchBook x = new MatchBook();
        for (int what = 0; what <= 11; what++) {
            due("1 count(" + what + ")", x.count(what), 0);
        }
        due("1 fault(0)", x.fault(0), 0);
        due("1 fault(1)", x.fault(1), -1);
        due("1 NONE", MatchBook.NONE, -1);
        for (int k = 0; k < 3; k++) {
            due("1 again", x.again(k), false);
        }
        due("1 end(1)", x.end(1), -1);
        due("1 ring", x.ring(0), -1);
        due("1 best", x.best(0), 0);
        x.house(0, 0, 0);
        x.house(0, 1, 0);
        x.person(0, 0, 0, -1);
        x.person(1, 1, 0, 0);
        x.parent(1, 0, 0);
        due("1 no roads", x.heard(0, 1), -1);
        due("1 no customs", x.may(0, 1), true);
        due("1 no wishes", x.liking(0, 1), 0);
    }

    private static void house() {
        MatchBook x = new MatchBook();
        due("2 first", x.house(0, 0, 0), 0);
        due("2 greatest", x.house(5, 4, 100000), 1);
        due("2 clan 6", x.house(6, 0, 0), -1);
        due("2 clan -1", x.house(-1, 0, 0), -1);
        due("2 village 5", x.house(0, 5, 0), -1);
        due("2 village -1", x.house(0, -1, 0), -1);
        due("2 coins -1", x.house(0, 0, -1), -1);
        due("2 coins 100001", x.house(0, 0, 100001), -1);
        due("2 least int", x.house(Integer.MIN_VALUE, 0, 0), -1);
        due("2 none came", x.count(0), 2);
        for (int k = 2; k < 8; k++) {
            due("2 more", x.house(1, 1, 1), k);
        }
        due("2 a ninth", x.house(1, 1, 1), -1);
        due("2 clan of 1", x.about(1, 0), 5);
        due("2 village of 1", x.about(1, 1), 4);
        due("2 coins of 1", x.about(1, 2), 100000);
    }

    private static void person() {
        MatchBook x = Given.houses(2);
        due("3 first", x.person(0, 0, 0, -80), 0);
        due("3 second", x.person(1, 1, 7, 0), 1);
        due("3 too early", x.person(0, 0, 0, -81), -1);
        due("3 after now", x.person(0, 0, 0, 1), -1);
        due("3 no house", x.person(2, 0, 0, 0), -1);
        due("3 house -1", x.person(-1, 0, 0, 0), -1);
        due("3 kind 2", x.person(0, 2, 0, 0), -1);
        due("3 kind -1", x.person(0, -1, 0, 0), -1);
        due("3 star 8", x.person(0, 0, 8, 0), -1);
        due("3 star -1", x.person(0, 0, -1, 0), -1);
        x.year();
        due("3 of now", x.person(0, 0, 0, 1), 2);
        for (int k = 3; k < 20; k++) {
            due("3 more", x.person(0, 1, 3, 0), k);
        }
        due("3 a 21st", x.person(0, 1, 3, 0), -1);
        due("3 how many", x.count(1), 20);
    }

    private static void road() {
        MatchBook x = Given.couple();
        due("4 road", x.road(0, 1, 9), true);
        due("4 zero years", x.road(1, 2, 0), true);
        due("4 none where none is", x.road(3, 4, -1), true);
        due("4 one village", x.road(2, 2, 3), false);
        due("4 years 10", x.road(0, 1, 10), false);
        due("4 years -2", x.road(0, 1, -2), false);
        due("4 village 5", x.road(0, 5, 1), false);
        due("4 village -1", x.road(-1, 0, 1), false);
        x.parent(0, 1, 1);
        due("4 both ways", x.heard(0, 0), 9);
        due("4 no years", x.heard(0, 2), 0);
        due("4 changed", x.road(1, 0, 4), true);
        x.parent(0, 1, 1);
        due("4 the new years", x.heard(1, 0), 4);
        due("4 of older news, too", x.heard(0, 0), 4);
        due("4 none such changes nothing", x.road(0, 1, 10), false);
        due("4 as before", x.heard(1, 0), 4);
        due("4 gone", x.road(0, 1, -1), true);
        x.parent(0, 1, 1);
        due("4 no road any more", x.heard(2, 0), -1);
        due("4 nor for older news", x.heard(0, 0), -1);
        due("4 the other road stays", x.heard(0, 2), 0);
    }

    private static void feud() {
        MatchBook x = Given.houses(3);
        due("5 begins", x.feud(0, 2, true), true);
        due("5 is so", x.feud(2, 0, true), false);
        due("5 other", x.feud(1, 2, true), true);
        due("5 bits of 2", x.about(2, 3), 3);
        due("5 bits of 0", x.about(0, 3), 4);
        due("5 count", x.count(7), 2);
        due("5 ends", x.feud(2, 0, false), true);
        due("5 has ended", x.feud(0, 2, false), false);
        due("5 bits of 0 then", x.about(0, 3), 0);
        due("5 one house", x.feud(1, 1, true), false);
        due("5 one house, no feud", x.feud(1, 1, false), false);
        due("5 no house", x.feud(0, 3, true), false);
        due("5 house -1", x.feud(-1, 0, true), false);
        due("5 count then", x.count(7), 1);
    }

    private static void harvest() {
        MatchBook x = Given.houses(1);
        due("6 one", x.harvest(0, 1), 1001);
        due("6 most", x.harvest(0, 100000), 101001);
        due("6 zero", x.harvest(0, 0), -1);
        due("6 too much", x.harvest(0, 100001), -1);
        due("6 below", x.harvest(0, -5), -1);
        due("6 no house", x.harvest(1, 5), -1);
        due("6 house -1", x.harvest(-1, 5), -1);
        due("6 about", x.about(0, 2), 101001);
    }

    private static void parent() {
        MatchBook x = Given.houses(1);
        x.person(0, 0, 0, -40);
        x.person(0, 0, 0, -20);
        x.person(0, 1, 0, -20);
        due("7 news", x.parent(1, 0, 0), 0);
        due("7 the same again", x.parent(1, 0, 4), 1);
        due("7 one year", x.parent(1, 2, 0), -1);
        due("7 later born", x.parent(0, 1, 0), -1);
        due("7 itself", x.parent(1, 1, 0), -1);
        due("7 no child", x.parent(3, 0, 0), -1);
        due("7 no parent", x.parent(1, 3, 0), -1);
        due("7 child -1", x.parent(-1, 0, 0), -1);
        due("7 parent -1", x.parent(1, -1, 0), -1);
        due("7 village 5", x.parent(1, 0, 5), -1);
        due("7 village -1", x.parent(1, 0, -1), -1);
        x.die(0);
        due("7 of the dead", x.parent(2, 0, 1), 2);
        for (int k = 3; k < 60; k++) {
            due("7 more", x.parent(1, 0, 0), k);
        }
        due("7 a 61st", x.parent(1, 0, 0), -1);
        due("7 how many", x.count(2), 60);
    }

    private static void heard() {
        MatchBook x = Given.houses(1);
        x.person(0, 0, 0, -40);
        x.person(0, 0, 0, -20);
        x.road(0, 1, 9);
        x.road(0, 2, 3);
        x.road(2, 3, 2);
        x.road(3, 1, 1);
        Given.years(x, 7);
        due("8 news", x.parent(1, 0, 0), 0);
        Given.years(x, 5);
        due("8 its own", x.heard(0, 0), 7);
        due("8 a way round", x.heard(0, 1), 13);
        due("8 one road", x.heard(0, 2), 10);
        due("8 two roads", x.heard(0, 3), 12);
        due("8 never", x.heard(0, 4), -1);
        due("8 no news", x.heard(1, 0), -1);
        due("8 news -1", x.heard(-1, 0), -1);
        due("8 village 5", x.heard(0, 5), -1);
        due("8 village -1", x.heard(0, -1), -1);
    }

    private static void heardByRoadsOfNow() {
        MatchBook x = Given.houses(1);
        x.person(0, 0, 0, -40);
        x.person(0, 0, 0, -20);
        Given.years(x, 3);
        x.parent(1, 0, 2);
        due("8 no road yet", x.heard(0, 3), -1);
        Given.years(x, 4);
        x.parent(1, 0, 2);
        x.road(2, 3, 0);
        due("8 a road came later", x.heard(0, 3), 3);
        due("8 each from its own year on", x.heard(1, 3), 7);
        x.road(3, 4, 9);
        due("8 and a second one", x.heard(0, 4), 12);
        x.road(2, 4, 5);
        due("8 a shorter way came", x.heard(0, 4), 8);
        x.road(2, 4, 9);
        x.road(3, 4, 8);
        due("8 roads changed", x.heard(0, 4), 11);
        x.road(2, 3, -1);
        due("8 a road went: by the other one", x.heard(0, 4), 12);
        due("8 a road went: the long way round", x.heard(0, 3), 20);
        x.road(4, 2, -1);
        due("8 no way any more", x.heard(0, 4), -1);
        due("8 nor there", x.heard(0, 3), -1);
        due("8 in its own still", x.heard(0, 2), 3);
        x.image(0);
        x.road(2, 0, 1);
        due("8 another one", x.heard(0, 0), 4);
        x.again(0);
        due("8 not in the image", x.heard(0, 0), -1);
        x.road(0, 1, 1);
        due("8 nor with a road elsewhere", x.heard(0, 1), -1);
    }

    private static void longWay() {
        MatchBook x = Given.houses(1);
        x.person(0, 0, 0, -40);
        x.person(0, 0, 0, -20);
        x.parent(1, 0, 4);
        x.road(0, 3, 9);
        x.road(2, 4, 9);
        x.road(1, 2, 9);
        x.road(3, 1, 9);
        due("8 four roads", x.heard(0, 0), 36);
        due("8 three roads", x.heard(0, 3), 27);
        due("8 two roads", x.heard(0, 1), 18);
        due("8 one road", x.heard(0, 2), 9);
    }

    private static void die() {
        MatchBook x = Given.couple();
        x.person(0, 0, 0, -30);
        x.person(1, 1, 0, -30);
        due("9 nobody", x.die(4), false);
        due("9 person -1", x.die(-1), false);
        x.ask(0, 1);
        x.promise(0);
        x.wed(0);
        x.ask(2, 3);
        due("9 groom dies", x.die(1), true);
        due("9 again", x.die(1), false);
        due("9 dead", x.tell(1, 5), 0);
        due("9 no spouse any more", x.tell(1, 6), -1);
        due("9 nor hers", x.tell(0, 6), -1);
        due("9 widow", x.tell(0, 7), 1);
        due("9 free", x.tell(0, 9), 1);
        due("9 the dead are not free", x.tell(1, 9), 0);
        due("9 the wedding stands", x.match(0, 2), 2);
        x.year();
        due("9 a bride that was asked for", x.die(2), true);
        due("9 ended", x.match(1, 2), 4);
        due("9 in this year", x.match(1, 7), 1);
        due("9 he is free", x.tell(3, 9), 1);
        due("9 no match open", x.tell(2, 8), -1);
        due("9 no widower", x.tell(3, 7), 0);
        x.ask(0, 3);
        x.promise(2);
        x.wed(2);
        due("9 no widow any more", x.tell(0, 7), 0);
        due("9 bride dies", x.die(0), true);
        due("9 no widow in death", x.tell(0, 7), 0);
        due("9 groom is free", x.tell(3, 9), 1);
        due("9 groom is no widow", x.tell(3, 7), 0);
    }

    private static void year() {
        MatchBook x = new MatchBook();
        for (int k = 1; k <= 300; k++) {
            due("10 year", x.year(), k);
        }
        due("10 no more", x.year(), -1);
        due("10 stays", x.count(3), 300);
    }

    private static void kin() {
        MatchBook x = Given.family();
        x.road(0, 1, 2);
        x.parent(2, 0, 0);
        x.parent(3, 0, 0);
        x.parent(4, 2, 0);
        x.year();
        x.parent(5, 3, 1);
        due("11 itself", x.kin(4, 4, 0, 0), 0);
        due("11 mother", x.kin(2, 0, 0, 0), 1);
        due("11 mother from above", x.kin(0, 2, 0, 0), 1);
        due("11 siblings", x.kin(2, 3, 0, 0), 2);
        due("11 cousins, not heard yet", x.kin(4, 5, 0, 2), 99);
        due("11 cousins", x.kin(4, 5, 0, 3), 4);
        due("11 in 1, not heard yet", x.kin(4, 5, 1, 1), 99);
        due("11 in 1", x.kin(4, 5, 1, 2), 4);
        due("11 never in 2", x.kin(2, 0, 2, 300), 99);
        due("11 no kin", x.kin(4, 6, 0, 300), 99);
        due("11 aunt", x.kin(4, 3, 0, 0), 3);
        due("11 year -1", x.kin(4, 4, 0, -1), -1);
        due("11 year 301", x.kin(4, 4, 0, 301), -1);
        due("11 village 5", x.kin(4, 4, 5, 0), -1);
        due("11 person 7", x.kin(7, 4, 0, 0), -1);
        due("11 person -1", x.kin(4, -1, 0, 0), -1);
        x.parent(4, 0, 0);
        due("11 the latest mother", x.kin(4, 0, 0, 1), 1);
        due("11 no more the one before", x.kin(4, 2, 0, 1), 2);
        due("11 she still was, the year before", x.kin(4, 2, 0, 0), 1);
        x.parent(4, 1, 0);
        due("11 a father beside", x.kin(4, 1, 0, 1), 1);
        due("11 and the mother", x.kin(4, 0, 0, 1), 1);
    }

    private static void kinByRoadsOfNow() {
        MatchBook x = Given.family();
        x.parent(2, 0, 0);
        x.parent(3, 0, 1);
        due("11 no road yet", x.kin(2, 3, 0, 300), 99);
        x.road(0, 1, 4);
        due("11 by the road, not heard yet", x.kin(2, 3, 0, 3), 99);
        due("11 by the road", x.kin(2, 3, 0, 4), 2);
        due("12 by the road", x.chain(2, 3, 0, 4, 1), 0);
        x.road(0, 1, 0);
        due("11 the road is shorter", x.kin(2, 3, 0, 0), 2);
        due("12 the road is shorter", x.chain(2, 3, 0, 0, 2), 3);
        x.road(1, 0, -1);
        due("11 the road is gone", x.kin(2, 3, 0, 0), 99);
        due("12 the road is gone", x.chain(2, 3, 0, 0, 0), -1);
        due("11 nor in 1", x.kin(2, 3, 1, 300), 99);
        due("11 of its own still", x.kin(3, 0, 1, 0), 1);
    }

    private static void customsByRoadsOfNow() {
        MatchBook x = Given.houses(3);
        x.person(0, 0, 0, -20);
        x.person(1, 1, 0, -20);
        x.person(2, 0, 0, -60);
        Given.text(x, 0, "if kin<3:bar;");
        Given.text(x, 5, "if kin=2:more 5;");
        x.parent(0, 2, 3);
        x.parent(1, 2, 3);
        due("20 nothing is heard", x.may(0, 1), true);
        due("21 nothing is heard", x.liking(0, 1), 0);
        x.road(3, 0, 0);
        due("20 by the road", x.may(0, 1), false);
        due("19 by the road", x.read(0, 1, 0, 1), 0);
        due("21 by the road", x.liking(0, 1), 5);
        due("22 by the road", x.ask(0, 1), -1);
        due("30 by the road", x.bestFor(1), 2);
        due("31 by the road", x.stable(1), 2);
        x.road(3, 0, 1);
        due("20 by a longer road", x.may(0, 1), true);
        due("30 by a longer road", x.bestFor(1), 0);
        due("31 by a longer road", x.stable(1), 0);
        due("22 by a longer road", x.ask(0, 1), 0);
        x.promise(0);
        x.road(0, 3, 0);
        due("24 they may no more", x.wed(0), false);
        x.road(0, 3, -1);
        due("24 they may again", x.wed(0), true);
        due("27 not late", x.late(0), -1);
        x.road(0, 3, 0);
        due("27 late by the road of now", x.late(0), 0);
        due("26 late by the road of now", x.match(0, 8), 1);
        due("34 late by the road of now", x.count(11), 1);
        x.road(0, 3, -1);
        due("27 late no more", x.late(0), -1);
        due("26 late no more", x.match(0, 8), 0);
        due("34 late no more", x.count(11), 0);
    }

    private static void chainIs(MatchBook x, int a, int b, int... row) {
        for (int k = 0; k < row.length; k++) {
            due("12 chain(" + a + ", " + b + ", 0, 300, " + k + ")", x.chain(a, b, 0, 300, k), row[k]);
        }
        due("12 chain(" + a + ", " + b + ") behind its end", x.chain(a, b, 0, 300, row.length), -1);
        due("12 chain(" + a + ", " + b + ") ahead", x.chain(a, b, 0, 300, -1), -1);
    }

    private static void chain() {
        MatchBook x = Given.family();
        x.parent(2, 1, 0);
        x.parent(3, 1, 0);
        x.parent(4, 2, 0);
        x.parent(5, 3, 0);
        chainIs(x, 4, 5, 4, 2, 1, 3, 5);
        chainIs(x, 5, 4, 5, 3, 1, 2, 4);
        chainIs(x, 4, 1, 4, 2, 1);
        chainIs(x, 1, 4, 1, 2, 4);
        chainIs(x, 4, 4, 4);
        chainIs(x, 4, 6);
        due("12 in another village", x.chain(4, 5, 1, 300, 0), -1);
        due("12 in another village, itself", x.chain(4, 4, 1, 300, 0), 4);
        due("12 year 301", x.chain(4, 5, 0, 301, 0), -1);
        due("12 village -1", x.chain(4, 5, -1, 0, 0), -1);
        due("12 nobody", x.chain(4, 7, 0, 0, 0), -1);
        due("12 a great k", x.chain(4, 5, 0, 0, Integer.MAX_VALUE), -1);
        x.parent(2, 0, 0);
        x.parent(3, 0, 0);
        chainIs(x, 4, 5, 4, 2, 0, 3, 5);
    }

    private static void chainTies() {
        MatchBook x = Given.houses(1);
        // 0 and 1 the forebears, 2 bride, 3 groom, 4 child of both, 5 another child of them, below 2 or 3.
        x.person(0, 0, 0, -80);
        x.person(0, 1, 0, -80);
        x.person(0, 1, 0, -60);
        x.person(0, 0, 0, -60);
        x.person(0, 0, 0, -40);
        x.person(0, 1, 0, -40);
        x.parent(2, 0, 0);
        x.parent(3, 0, 0);
        x.parent(4, 2, 0);
        x.parent(4, 3, 0);
        chainIs(x, 4, 0, 4, 2, 0);
        chainIs(x, 0, 4, 0, 2, 4);
        x.parent(5, 2, 0);
        x.parent(5, 3, 0);
        chainIs(x, 4, 5, 4, 2, 5);
        // 6: two steps above 7 and one above 8, and 9 the other way about; the fewer steps up go first.
        MatchBook y = Given.houses(1);
        y.person(0, 0, 0, -80);
        y.person(0, 1, 0, -80);
        y.person(0, 0, 0, -60);
        y.person(0, 0, 0, -60);
        y.person(0, 0, 0, -40);
        y.person(0, 1, 0, -40);
        y.parent(4, 2, 0);
        y.parent(2, 0, 0);
        y.parent(5, 0, 0);
        chainIs(y, 4, 5, 4, 2, 0, 5);
        y.parent(4, 1, 0);
        y.parent(3, 1, 0);
        y.parent(5, 3, 0);
        chainIs(y, 4, 5, 4, 1, 3, 5);
        chainIs(y, 5, 4, 5, 3, 1, 4);
    }

    private static void tell() {
        MatchBook x = Given.houses(2);
        x.person(1, 0, 5, -7);
        x.person(0, 1, 2, -1);
        Given.years(x, 3);
        due("13 house", x.tell(0, 0), 1);
        due("13 bride", x.tell(0, 1), 0);
        due("13 groom", x.tell(1, 1), 1);
        due("13 star", x.tell(0, 2), 5);
        due("13 born", x.tell(0, 3), -7);
        due("13 age", x.tell(0, 4), 10);
        due("13 alive", x.tell(0, 5), 1);
        due("13 spouse", x.tell(0, 6), -1);
        due("13 widow", x.tell(0, 7), 0);
        due("13 match", x.tell(0, 8), -1);
        due("13 free", x.tell(0, 9), 1);
        due("13 another what", x.tell(0, 10), -100);
        due("13 what -1", x.tell(0, -1), -100);
        due("13 nobody", x.tell(2, 0), -100);
        due("13 person -1", x.tell(-1, 0), -100);
        x.ask(0, 1);
        due("13 in a match", x.tell(1, 8), 0);
        due("13 not free", x.tell(1, 9), 0);
        x.promise(0);
        due("13 in a promised one", x.tell(0, 8), 0);
        x.wed(0);
        due("13 wed", x.tell(0, 6), 1);
        due("13 wed, he", x.tell(1, 6), 0);
        due("13 no open match", x.tell(0, 8), -1);
        due("13 wed, not free", x.tell(0, 9), 0);
        x.die(1);
        x.year();
        due("13 age of the dead", x.tell(1, 4), 5);
    }

    private static void about() {
        MatchBook x = new MatchBook();
        x.house(3, 2, 77);
        x.house(0, 0, 0);
        x.person(0, 0, 0, 0);
        x.person(0, 1, 0, 0);
        x.person(1, 1, 0, 0);
        x.feud(0, 1, true);
        x.die(1);
        due("14 clan", x.about(0, 0), 3);
        due("14 village", x.about(0, 1), 2);
        due("14 coins", x.about(0, 2), 77);
        due("14 feuds", x.about(0, 3), 2);
        due("14 living", x.about(0, 4), 1);
        due("14 another what", x.about(0, 5), -1);
        due("14 what -1", x.about(0, -1), -1);
        due("14 no house", x.about(2, 0), -1);
        due("14 house -1", x.about(-1, 0), -1);
    }

    private static void feed() {
        MatchBook x = new MatchBook();
        // "bar;" and blanks, the highest byte first
        due("15 feed", x.feed(0x6261723b, 0x20202020, 0x0a0a0a0a, 0x20202020, 0x6261723b), 20);
        due("15 two lines", x.text(0), 2);
        for (int k = 1; k <= 25; k++) {
            due("15 feed", x.feed(0, 0, 0, 0, -1), 20 * k);
        }
        due("15 too many", x.feed(0, 0, 0, 0, 0), -1);
        due("15 nothing came", x.end(501), -1);
        due("15 481", x.end(481), 481);
        due("15 too many again", x.feed(0, 0, 0, 0, 0), -1);
        due("15 480", x.end(480), 480);
        due("15 full", x.feed(0, 0, 0, 0, 0), 500);
    }

    private static void end() {
        MatchBook x = new MatchBook();
        due("16 nothing there", x.end(0), 0);
        due("16 not so many", x.end(1), -1);
        due("16 below 0", x.end(-1), -1);
        x.feed(0x6261723b, 0x6261723b, 0x6261723b, 0, 0);
        due("16 all", x.end(20), 20);
        due("16 more", x.end(21), -1);
        due("16 eight", x.end(8), 8);
        due("16 no way back", x.end(9), -1);
        due("16 two lines", x.text(0), 2);
    }

    private static void text() {
        MatchBook x = Given.couple();
        due("17 a line", Given.text(x, 0, "bar;"), 1);
        due("17 the tape is empty", x.end(1), -1);
        due("17 it is read", x.may(0, 1), false);
        due("17 nothing", Given.text(x, 0, ""), 0);
        due("17 the new one is read", x.may(0, 1), true);
        due("17 blanks", Given.text(x, 4, " \n\n "), 0);
        due("17 no blanks", Given.text(x, 1, "if not clan and star<1 and kin>3:gift 7;bar;back 100;"), 3);
        due("17 many blanks", Given.text(x, 1, "\nif \n not clan  and star < 1 : gift 7 ; "), 1);
        due("17 words end at digits", Given.text(x, 1, "gift7;back8;"), 2);
        due("17 more", Given.text(x, 5, "more 3;if widow:less 0004;"), 2);
        due("17 of grooms", Given.text(x, 6, "less 9999;"), 1);
        due("17 all subjects", Given.text(x, 0, "if clan and home and feud and widow:bar;if elder and star=1 and kin=1 and age=1:bar;"
                + "if bride=1 and gap=1 and rich=1:bar;"), 3);
        due("17 a fault", Given.text(x, 0, "bar"), -1);
        due("17 the tape is taken", x.end(1), -1);
        due("17 the old one stays", x.read(0, 1, 0, 0), 0);
        Check.write(x, "bar;");
        due("17 for another one", x.text(7), -2);
        due("17 fault 0", x.fault(0), 0);
        due("17 its place", x.fault(1), -1);
        due("17 the tape is taken for another one, too", x.end(1), -1);
        Check.write(x, "bar");
        due("17 for -1", x.text(-1), -2);
        due("17 no text is read: fault 0", x.fault(0), 0);
        due("17 it begins anew", x.feed(0, 0, 0, 0, 0), 20);
        x.end(0);
        due("17 an empty one for another one", x.text(-1), -2);
        due("17 then for 2", Given.text(x, 2, "bar;"), 1);
        due("17 for the greatest number", x.text(Integer.MAX_VALUE), -2);
        due("17 the text of 2 stays", x.read(0, 1, 2, 0), 1);
        due("17 sixteen", Given.text(x, 3, "bar;".repeat(16)), 16);
        due("17 four tests", Given.text(x, 3, "if clan and clan and not clan and clan:bar;"), 1);
        due("17 a long one", Given.text(x, 3, " ".repeat(496) + "bar;"), 1);
    }

    private static void faultIs(int whose, String text, int fault, int place) {
        MatchBook x = new MatchBook();
        due("18 text " + text, Given.text(x, whose, text), -1);
        due("18 fault " + text, x.fault(0), fault);
        due("18 place " + text, x.fault(1), place);
        due("18 what 2", x.fault(2), -1);
        due("18 what -1", x.fault(-1), -1);
        Given.text(x, whose, "");
        due("18 none then", x.fault(0), 0);
        due("18 no place then", x.fault(1), -1);
    }

    private static void fault() {
        faultIs(0, "bar", 1, 3);
        faultIs(0, "bar  ", 1, 5);
        faultIs(0, "  barn;", 1, 2);
        faultIs(0, "gift;", 1, 4);
        faultIs(0, "gift 12345;", 1, 5);
        faultIs(0, "gift 1234", 1, 9);
        faultIs(0, "gift 1 2;", 1, 7);
        faultIs(0, "bar;;", 1, 4);
        faultIs(0, "Bar;", 1, 0);
        faultIs(0, "bar\t;", 1, 3);
        faultIs(0, "bar;" + (char) 226, 1, 4);
        faultIs(0, "12345", 1, 0);
        faultIs(0, "more 5;", 1, 0);
        faultIs(5, "bar;", 1, 0);
        faultIs(6, "gift 3;", 1, 0);
        faultIs(6, "back 3;", 1, 0);
        faultIs(6, "more;", 1, 4);
        faultIs(0, "if clan=1:bar;", 1, 7);
        faultIs(0, "if star:bar;", 1, 7);
        faultIs(0, "if star<:bar;", 1, 8);
        faultIs(0, "if star<>1:bar;", 1, 8);
        faultIs(0, "if not not clan:bar;", 1, 7);
        faultIs(0, "if :bar;", 1, 3);
        faultIs(0, "if", 1, 2);
        faultIs(0, "if clan and:bar;", 1, 11);
        faultIs(0, "if clan clan:bar;", 1, 8);
        faultIs(0, "if clan bar;", 1, 8);
        faultIs(0, "if clan:if home:bar;", 1, 8);
        faultIs(0, "if moon:bar;", 1, 3);
        faultIs(0, "barz;", 1, 0);
        faultIs(0, "abar;", 1, 0);
        faultIs(0, "car;", 1, 0);
        faultIs(0, "if bar;?", 1, 3);
        faultIs(0, "gift 90000;", 1, 5);
        faultIs(0, "back 101;", 2, 5);
        faultIs(0, "bar;back 0101;back 999;", 2, 9);
        faultIs(0, "back 101;bar", 1, 12);
        faultIs(0, "bar;".repeat(17), 3, 64);
        faultIs(0, "bar;".repeat(16) + " if clan:bar;", 3, 65);
        faultIs(0, "bar;".repeat(17) + "back 101;", 3, 64);
        faultIs(0, "back 101;" + "bar;".repeat(17), 2, 5);
        faultIs(0, "bar;".repeat(20) + "?", 1, 80);
        faultIs(0, "if clan and clan and clan and clan and clan:bar;", 3, 39);
        faultIs(0, "if clan and clan and clan and clan and not clan:back 101;", 3, 39);
        faultIs(0, "if clan and clan and clan and clan and clan and clan:bar", 1, 56);
        MatchBook x = new MatchBook();
        due("18 back 100", Given.text(x, 0, "back 100;"), 1);
        due("18 a back above 100 is for back alone", Given.text(x, 0, "gift 101;if rich>101:bar;"), 2);
    }

    private static void read() {
        MatchBook x = Given.couple();
        Given.text(x, 0, "gift 5;back 10;bar;if clan:bar;if not clan:bar;gift 9999;back 20;");
        due("19 barred", x.read(0, 1, 0, 0), 1);
        due("19 why", x.read(0, 1, 0, 1), 2);
        due("19 gift", x.read(0, 1, 0, 2), 10004);
        due("19 back", x.read(0, 1, 0, 3), 20);
        due("19 another what", x.read(0, 1, 0, 4), -100);
        due("19 what -1", x.read(0, 1, 0, -1), -100);
        due("19 no text", x.read(0, 1, 3, 0), 0);
        due("19 no text, why", x.read(0, 1, 3, 1), -1);
        due("19 no text, gift", x.read(0, 1, 3, 2), 0);
        due("19 no text, back", x.read(0, 1, 3, 3), 0);
        due("19 the other way about", x.read(1, 0, 0, 0), -100);
        due("19 nobody", x.read(0, 2, 0, 0), -100);
        due("19 bride -1", x.read(-1, 1, 0, 0), -100);
        due("19 village 5", x.read(0, 1, 5, 0), -100);
        due("19 village -1", x.read(0, 1, -1, 0), -100);
        x.person(0, 1, 0, 0);
        due("19 of one house", x.read(0, 2, 0, 1), 2);
        x.die(0);
        due("19 of the dead", x.read(0, 1, 0, 2), 10004);
        Given.text(x, 1, "if clan:bar;if not clan:bar;");
        due("19 why behind one that does not hold", x.read(0, 1, 1, 1), 1);
    }

    private static void readFlags() {
        MatchBook x = new MatchBook();
        x.house(1, 0, 10);
        x.house(1, 2, 20);
        x.house(2, 0, 30);
        x.person(0, 0, 0, -30);
        x.person(0, 0, 0, -30);
        x.person(0, 0, 0, -31);
        x.person(1, 1, 0, -30);
        x.person(2, 1, 0, -30);
        due("19 clan", Given.holds(x, 0, 3, "clan"), 1);
        due("19 other clan", Given.holds(x, 0, 4, "clan"), 0);
        due("19 home", Given.holds(x, 0, 4, "home"), 1);
        due("19 other home", Given.holds(x, 0, 3, "home"), 0);
        due("19 not home", Given.holds(x, 0, 3, "not home"), 1);
        due("19 no feud", Given.holds(x, 0, 3, "feud"), 0);
        x.feud(0, 1, true);
        due("19 feud", Given.holds(x, 0, 3, "feud"), 1);
        due("19 feud with another", Given.holds(x, 0, 4, "feud"), 0);
        due("19 elder by birth", Given.holds(x, 0, 3, "elder"), 1);
        due("19 none elder", Given.holds(x, 2, 3, "elder"), 0);
        x.die(2);
        due("19 the elder died", Given.holds(x, 0, 3, "elder"), 0);
        due("19 elder by number", Given.holds(x, 1, 3, "elder"), 1);
        Given.text(x, 0, "");
        x.ask(0, 4);
        x.promise(0);
        x.wed(0);
        due("19 the elder is wed", Given.holds(x, 1, 3, "elder"), 0);
        due("19 no widow", Given.holds(x, 0, 3, "widow"), 0);
        x.die(4);
        due("19 the elder was wed", Given.holds(x, 1, 3, "elder"), 0);
        due("19 widow", Given.holds(x, 0, 3, "widow"), 1);
        due("19 all tests must hold", Given.holds(x, 0, 3, "widow and clan and not home and feud"), 1);
        due("19 one does not", Given.holds(x, 0, 3, "widow and clan and home and feud"), 0);
    }

    private static void readFacts() {
        MatchBook x = new MatchBook();
        x.house(1, 0, 10);
        x.house(1, 2, 20);
        x.person(0, 0, 1, -20);
        x.person(1, 1, 6, -50);
        x.person(1, 1, 5, 0);
        x.person(0, 0, 1, -80);
        Given.years(x, 2);
        due("19 star", Given.holds(x, 0, 1, "star=3"), 1);
        due("19 star, half round", Given.holds(x, 0, 2, "star=4"), 1);
        due("19 star of one", Given.holds(x, 0, 1, "not star=3"), 0);
        due("19 age", Given.holds(x, 0, 1, "age=52"), 1);
        due("19 age <", Given.holds(x, 0, 1, "age<52"), 0);
        due("19 age <", Given.holds(x, 0, 1, "age<53"), 1);
        due("19 age >", Given.holds(x, 0, 1, "age>52"), 0);
        due("19 age >", Given.holds(x, 0, 1, "age>51"), 1);
        due("19 bride", Given.holds(x, 0, 1, "bride=22"), 1);
        due("19 gap", Given.holds(x, 0, 1, "gap=30"), 1);
        due("19 gap, she is older", Given.holds(x, 0, 2, "gap=20"), 1);
        due("19 rich", Given.holds(x, 0, 1, "rich=20"), 1);
        x.harvest(1, 9979);
        due("19 rich then", Given.holds(x, 0, 1, "rich=9999"), 1);
        due("19 no kin", Given.holds(x, 0, 1, "kin=99"), 1);
        x.road(3, 0, 4);
        x.parent(0, 3, 0);
        x.parent(1, 3, 3);
        due("19 kin not heard yet", Given.holds(x, 0, 1, "kin=99"), 1);
        Given.years(x, 3);
        due("19 kin not heard still", Given.holds(x, 0, 1, "kin<99"), 0);
        x.year();
        due("19 kin heard", Given.holds(x, 0, 1, "kin=2"), 1);
        Given.text(x, 3, "if kin<99:bar;");
        due("19 kin not heard in 3: of the bride", x.read(0, 1, 3, 0), 1);
        Given.text(x, 4, "if kin<99:bar;");
        due("19 kin never heard in 4", x.read(0, 1, 4, 0), 0);
    }

    private static void may() {
        MatchBook x = Given.couple();
        due("20 may", x.may(0, 1), true);
        due("20 the other way about", x.may(1, 0), false);
        due("20 nobody", x.may(0, 2), false);
        due("20 bride -1", x.may(-1, 1), false);
        x.person(0, 1, 0, 0);
        due("20 of one house", x.may(0, 2), false);
        Given.text(x, 0, "if age>24:bar;");
        due("20 her custom", x.may(0, 1), false);
        Given.text(x, 0, "if age>25:bar;");
        due("20 her custom lets them", x.may(0, 1), true);
        Given.text(x, 1, "bar;");
        due("20 his custom", x.may(0, 1), false);
        Given.text(x, 1, "");
        Given.text(x, 2, "bar;");
        due("20 a third village's custom", x.may(0, 1), true);
        x.die(0);
        due("20 of the dead", x.may(0, 1), true);
    }

    private static void liking() {
        MatchBook x = Given.couple();
        x.harvest(0, 500);
        Given.text(x, 5, "more 10;if rich=1000:more 5;if age=25 and bride=20:less 100;if clan:less 7;");
        Given.text(x, 6, "if rich=1500:more 9999;more 9999;if age=20:less 1;if bride=20:less 2;if age=25:more 3;");
        due("21 hers", x.liking(0, 1), -85);
        due("21 his", x.liking(1, 0), 9999 + 9999 - 2 + 3);
        x.person(0, 0, 0, 0);
        x.person(0, 1, 0, 0);
        due("21 one kind", x.liking(0, 2), -1000000);
        due("21 itself", x.liking(0, 0), -1000000);
        due("21 nobody", x.liking(0, 4), -1000000);
        due("21 person -1", x.liking(-1, 0), -1000000);
        due("21 of one house", x.liking(0, 3), 10 - 7);
        x.person(0, 0, 0, -70);
        x.parent(0, 4, 0);
        x.parent(1, 4, 1);
        x.parent(0, 4, 1);
        Given.text(x, 5, "if kin=2:more 1;");
        Given.text(x, 6, "if kin=2:more 1;");
        due("21 kin as heard in her village", x.liking(0, 1), 0);
        due("21 kin as heard in his village", x.liking(1, 0), 1);
    }

    private static void ask() {
        MatchBook x = Given.couple();
        x.person(0, 0, 0, -20);
        x.person(1, 1, 0, -20);
        Given.text(x, 0, "gift 31;back 40;if bride=21:gift 1;");
        Given.text(x, 1, "gift 21;back 50;");
        due("22 the other way about", x.ask(1, 0), -1);
        due("22 nobody", x.ask(0, 9), -1);
        due("22 bride -1", x.ask(-1, 1), -1);
        due("22 asked", x.ask(0, 1), 0);
        due("22 gift", x.match(0, 3), 31);
        due("22 back", x.match(0, 4), 40);
        due("22 stands", x.match(0, 2), 0);
        due("22 nothing paid", x.match(0, 5), 0);
        due("22 she is not free", x.ask(0, 3), -1);
        due("22 he is not free", x.ask(2, 1), -1);
        x.year();
        due("22 gift of then", x.match(0, 3), 31);
        Given.text(x, 1, "gift 51;back 50;");
        due("22 asked, too", x.ask(2, 3), 1);
        due("22 the greater gift", x.match(1, 3), 51);
        due("22 her back", x.match(1, 4), 40);
        due("22 year", x.match(1, 6), 1);
        x.breaks(0, true);
        Given.text(x, 1, "bar;");
        due("22 they may not", x.ask(0, 1), -1);
        Given.text(x, 1, "");
        for (int k = 2; k < 30; k++) {
            due("22 more", x.ask(0, 1), k);
            x.breaks(k, k % 2 == 0);
        }
        due("22 a 31st", x.ask(0, 1), -1);
        due("22 how many", x.count(4), 30);
        MatchBook y = Given.couple();
        y.die(1);
        due("22 of the dead", y.ask(0, 1), -1);
    }

    private static void promise() {
        MatchBook x = new MatchBook();
        x.house(0, 0, 0);
        x.house(0, 1, 15);
        x.person(0, 0, 0, 0);
        x.person(1, 1, 0, 0);
        Given.text(x, 0, "gift 33;");
        due("23 none", x.promise(0), false);
        due("23 match -1", x.promise(-1), false);
        x.ask(0, 1);
        due("23 too few", x.promise(0), false);
        due("23 still asked", x.match(0, 2), 0);
        x.harvest(1, 1);
        x.year();
        Given.text(x, 0, "gift 99;bar;");
        due("23 promised", x.promise(0), true);
        due("23 stands", x.match(0, 2), 1);
        due("23 since", x.match(0, 7), 1);
        due("23 asked in", x.match(0, 6), 0);
        due("23 half, cut", x.match(0, 5), 16);
        due("23 hers", x.about(0, 2), 16);
        due("23 his", x.about(1, 2), 0);
        due("23 again", x.promise(0), false);
    }

    private static void wed() {
        MatchBook x = new MatchBook();
        x.house(0, 0, 0);
        x.house(0, 1, 32);
        x.person(0, 0, 0, 0);
        x.person(1, 1, 0, 0);
        Given.text(x, 0, "gift 33;");
        due("24 none", x.wed(0), false);
        due("24 match -1", x.wed(-1), false);
        x.feud(0, 1, true);
        x.ask(0, 1);
        due("24 not promised", x.wed(0), false);
        x.promise(0);
        due("24 too few", x.wed(0), false);
        due("24 nothing was paid", x.about(1, 2), 16);
        x.harvest(1, 1);
        Given.text(x, 1, "bar;");
        due("24 they may not", x.wed(0), false);
        Given.text(x, 1, "");
        Given.text(x, 0, "gift 9000;");
        x.year();
        due("24 wed", x.wed(0), true);
        due("24 stands", x.match(0, 2), 2);
        due("24 since", x.match(0, 7), 1);
        due("24 all paid", x.match(0, 5), 33);
        due("24 hers", x.about(0, 2), 33);
        due("24 his", x.about(1, 2), 0);
        due("24 the feud ends", x.count(7), 0);
        due("24 again", x.wed(0), false);
        due("24 no break", x.breaks(0, true), false);
        due("24 spouse", x.tell(0, 6), 1);
        due("24 weddings", x.count(6), 1);
        due("24 open ones", x.count(5), 0);
    }

    private static void breaks() {
        MatchBook x = new MatchBook();
        x.house(0, 0, 0);
        x.house(0, 1, 1000);
        x.person(0, 0, 0, 0);
        x.person(1, 1, 0, 0);
        Given.text(x, 0, "gift 67;back 50;");
        due("25 none", x.breaks(0, true), false);
        due("25 match -1", x.breaks(-1, false), false);
        x.ask(0, 1);
        due("25 an asked one", x.breaks(0, true), true);
        due("25 stands", x.match(0, 2), 3);
        due("25 again", x.breaks(0, false), false);
        due("25 free", x.tell(0, 9), 1);
        x.ask(0, 1);
        x.promise(1);
        due("25 hers", x.about(0, 2), 33);
        due("25 too few", x.breaks(1, true), false);
        due("25 still promised", x.match(1, 2), 1);
        x.harvest(0, 15);
        due("25 too few by one", x.breaks(1, true), false);
        x.harvest(0, 1);
        x.year();
        due("25 by her side", x.breaks(1, true), true);
        due("25 hers then", x.about(0, 2), 0);
        due("25 his then", x.about(1, 2), 1016);
        due("25 sent back", x.match(1, 5), 0);
        due("25 since", x.match(1, 7), 1);
        x.ask(0, 1);
        x.promise(2);
        due("25 by his side", x.breaks(2, false), true);
        due("25 she keeps it", x.about(0, 2), 33);
        due("25 not sent back", x.match(2, 5), 33);
        due("25 his after it", x.about(1, 2), 983);
        due("25 promise no more", x.promise(2), false);
        due("25 wed no more", x.wed(2), false);
    }

    private static void match() {
        MatchBook x = Given.couple();
        Given.years(x, 2);
        Given.text(x, 0, "gift 9;back 7;");
        x.ask(0, 1);
        int[] want = {0, 1, 0, 9, 7, 0, 2, 2, 0};
        for (int what = 0; what < want.length; what++) {
            due("26 match(0, " + what + ")", x.match(0, what), want[what]);
        }
        due("26 another what", x.match(0, 9), -1);
        due("26 what -1", x.match(0, -1), -1);
        due("26 none such", x.match(1, 0), -1);
        due("26 match -1", x.match(-1, 0), -1);
        x.promise(0);
        x.year();
        x.die(1);
        due("26 ended", x.match(0, 2), 4);
        due("26 no coins move", x.match(0, 5), 4);
        due("26 nor hers", x.about(0, 2), 1004);
        due("26 since", x.match(0, 7), 3);
        due("26 asked in", x.match(0, 6), 2);
    }

    private static void late() {
        MatchBook x = Given.houses(2);
        x.person(0, 0, 0, -20);
        x.person(1, 1, 0, -20);
        x.person(0, 0, 0, -20);
        x.person(1, 1, 0, -20);
        x.person(0, 0, 0, -60);
        x.road(2, 1, 3);
        Given.text(x, 1, "if kin<3:bar;");
        x.parent(0, 4, 1);
        x.parent(2, 4, 1);
        x.ask(0, 1);
        x.ask(2, 3);
        x.promise(0);
        x.promise(1);
        x.wed(0);
        x.wed(1);
        due("27 none", x.late(0), -1);
        x.parent(3, 4, 2);
        x.parent(1, 4, 0);
        Given.years(x, 2);
        due("27 not heard yet", x.late(0), -1);
        due("27 match", x.match(1, 8), 0);
        x.year();
        due("27 late", x.late(0), 1);
        due("27 match then", x.match(1, 8), 1);
        due("27 the other one is not: never heard in 1", x.match(0, 8), 0);
        due("27 one alone", x.late(1), -1);
        due("27 count", x.count(11), 1);
        x.parent(1, 4, 1);
        due("27 now both", x.late(0), 0);
        due("27 now both", x.late(1), 1);
        due("27 and no more", x.late(2), -1);
        due("27 k -1", x.late(-1), -1);
        x.die(1);
        x.die(0);
        due("27 dead or not", x.late(0), 0);
        x.person(0, 0, 0, -70);
        x.parent(1, 5, 1);
        due("27 another mother then", x.late(0), 1);
    }

    private static void lateOfItsDay() {
        MatchBook x = Given.houses(3);
        x.person(0, 0, 0, -20);
        x.person(1, 1, 0, -20);
        x.person(2, 0, 0, -60);
        x.feud(0, 1, true);
        Given.text(x, 0, "gift 100;if feud and rich=950 and age<21 and kin<3:bar;");
        x.ask(0, 1);
        x.promise(0);
        x.wed(0);
        Given.text(x, 0, "");
        Given.text(x, 1, "bar;");
        Given.years(x, 30);
        due("27 not by the texts of now", x.late(0), -1);
        x.parent(0, 2, 0);
        x.parent(1, 2, 0);
        due("27 another couple is read in between", x.read(2, 1, 0, 0), 0);
        due("27 by text, flags and facts of its day", x.late(0), 0);
        x.image(1);
        x.parent(1, 2, 0);
        x.again(1);
        due("27 images keep that, too", x.late(0), 0);
    }

    private static void parts() {
        MatchBook x = Given.houses(4);
        x.person(0, 0, 0, -20);
        x.person(1, 1, 1, -20);
        x.person(2, 0, 1, -20);
        x.person(3, 1, 0, -20);
        Given.text(x, 5, "if star=0:more 5;");
        Given.text(x, 6, "if star=0:more 5;");
        x.ask(0, 1);
        due("28 one match alone", x.parts(0), -1);
        x.ask(2, 3);
        due("28 first", x.parts(0), 3);
        due("28 second", x.parts(1), 201);
        due("28 no more", x.parts(2), -1);
        due("28 k -1", x.parts(-1), -1);
        Given.text(x, 3, "bar;");
        due("28 one is barred", x.parts(0), 201);
        Given.text(x, 3, "");
        Given.text(x, 6, "");
        due("28 no more liking on his side", x.parts(0), -1);
        Given.text(x, 6, "if star=0:more 5;");
        Given.text(x, 5, "");
        due("28 no more liking on her side", x.parts(0), -1);
        Given.text(x, 5, "if star=0:more 1;");
        due("28 again", x.parts(0), 3);
        x.promise(0);
        due("28 promised ones, too", x.parts(1), 201);
        x.promise(1);
        x.wed(1);
        due("28 not with wed ones", x.parts(0), -1);
        MatchBook y = Given.houses(2);
        y.person(0, 0, 0, 0);
        y.person(1, 1, 1, 0);
        y.person(1, 0, 1, 0);
        y.person(0, 1, 0, 0);
        Given.text(y, 5, "if star=0:more 5;");
        Given.text(y, 6, "if star=0:more 5;");
        y.ask(0, 1);
        y.ask(2, 3);
        due("28 not in one house", y.parts(0), -1);
        MatchBook z = Given.houses(4);
        z.person(0, 1, 0, 0);
        z.person(1, 0, 0, 0);
        z.person(2, 1, 1, 0);
        z.person(3, 0, 1, 0);
        Given.text(z, 5, "if star=0:more 5;");
        Given.text(z, 6, "if star=0:more 5;");
        z.ask(1, 2);
        z.ask(3, 0);
        due("28 groom 0", z.parts(0), 100);
        due("28 and the other two", z.parts(1), 302);
    }

    private static void best() {
        MatchBook x = Given.houses(4);
        due("29 none", x.best(0), 0);
        x.person(0, 0, 0, 0);
        x.person(0, 0, 4, 0);
        x.person(1, 1, 0, 0);
        x.person(2, 1, 4, 0);
        x.person(0, 1, 0, 0);
        Given.text(x, 0, "gift 10;if star=4:gift 5;");
        due("29 weddings", x.best(0), 2);
        due("29 feuds", x.best(1), 0);
        due("29 gifts", x.best(2), 20);
        x.feud(0, 1, true);
        due("29 feuds then", x.best(1), 1);
        due("29 another what", x.best(3), -1);
        due("29 what -1", x.best(-1), -1);
        x.die(1);
        due("29 one bride", x.best(0), 1);
        Given.text(x, 0, "bar;");
        due("29 barred", x.best(0), 0);
        due("29 no gifts", x.best(2), 0);
    }

    private static void bestOrder() {
        MatchBook x = Given.houses(4);
        x.person(0, 0, 0, 0);
        x.person(1, 0, 1, 0);
        x.person(2, 1, 0, 0);
        x.person(3, 1, 1, 0);
        // all gifts alike: the least row
        due("29 least row", x.bestFor(0), 2);
        due("29 least row", x.bestFor(1), 3);
        // least gifts
        Given.text(x, 0, "if star=0:gift 50;");
        due("29 gifts least", x.bestFor(0), 3);
        due("29 gifts", x.best(2), 0);
        // a feud is worth more than gifts
        x.feud(0, 2, true);
        due("29 a feud ended", x.bestFor(0), 2);
        due("29 gifts then", x.best(2), 50);
        due("29 feuds", x.best(1), 1);
        // two weddings are worth more than a feud
        Given.text(x, 1, "if star=0:bar;");
        due("29 one groom left to her", x.bestFor(1), 2);
        due("29 two weddings", x.best(0), 2);
        due("29 no feud", x.best(1), 0);
        // a groom rather than none
        x.die(3);
        due("29 the feud decides", x.bestFor(0), 2);
        x.feud(0, 2, false);
        due("29 gifts decide", x.bestFor(1), 2);
        due("29 none for her", x.bestFor(0), -1);
        Given.text(x, 0, "");
        due("29 the least row: a groom ahead of none", x.bestFor(0), 2);
        due("29 none for the other", x.bestFor(1), -1);
    }

    private static void bestFor() {
        MatchBook x = Given.couple();
        due("30 groom", x.bestFor(0), 1);
        due("30 bride", x.bestFor(1), 0);
        due("30 nobody", x.bestFor(2), -1);
        due("30 person -1", x.bestFor(-1), -1);
        x.ask(0, 1);
        due("30 not free", x.bestFor(0), -1);
        x.breaks(0, true);
        due("30 free again", x.bestFor(0), 1);
        x.die(1);
        due("30 dead", x.bestFor(1), -1);
        due("30 none", x.bestFor(0), -1);
    }

    private static void stable() {
        MatchBook x = Given.houses(6);
        x.person(0, 0, 0, 0);
        x.person(1, 0, 4, 0);
        x.person(2, 1, 1, 0);
        x.person(3, 1, 0, 0);
        // without wishes: of several the least
        due("31 least", x.stable(0), 2);
        due("31 least", x.stable(1), 3);
        due("31 of a groom", x.stable(3), 1);
        // grooms like near stars, brides too
        Given.text(x, 6, "if star<2:more 5;");
        Given.text(x, 5, "if star=0:more 5;");
        due("31 she keeps the one she likes", x.stable(0), 3);
        due("31 he asks on", x.stable(2), 1);
        due("31 nobody", x.stable(4), -1);
        due("31 person -1", x.stable(-1), -1);
        Given.text(x, 1, "bar;");
        due("31 none is left to ask", x.stable(2), -1);
        due("31 none asks her", x.stable(1), -1);
        due("31 these stand", x.stable(0), 3);
        x.die(3);
        due("31 then the other", x.stable(0), 2);
        // grooms ask, so grooms have their wishes
        MatchBook y = Given.houses(4);
        y.person(0, 0, 0, 0);
        y.person(1, 0, 4, 0);
        y.person(2, 1, 0, 0);
        y.person(3, 1, 4, 0);
        Given.text(y, 6, "if star=0:more 1;");
        Given.text(y, 5, "if star=4:more 1;");
        due("31 by grooms", y.stable(0), 2);
        due("31 by grooms", y.stable(1), 3);
        // less than nothing is still asked
        Given.text(y, 6, "less 50;if star=0:less 1;");
        Given.text(y, 5, "less 50;");
        due("31 disliked", y.stable(2), 1);
        due("31 disliked", y.stable(3), 0);
    }

    private static void ring() {
        MatchBook x = Given.houses(4);
        due("32 none", x.ring(0), -1);
        due("32 none, gifts", x.ring(1), -1);
        for (int h = 0; h < 3; h++) {
            x.person(h, 0, 0, 0);
            x.person(h, 1, 0, 0);
        }
        due("32 two houses", x.ring(0), 2);
        due("32 no gifts", x.ring(1), 0);
        due("32 another what", x.ring(2), -1);
        due("32 what -1", x.ring(-1), -1);
        Given.text(x, 0, "gift 10;");
        due("32 more gifts", x.ring(1), 20);
        due("32 fewest houses", x.ring(0), 2);
        Given.text(x, 2, "gift 9;");
        due("32 three houses", x.ring(0), 3);
        due("32 gifts of three", x.ring(1), 29);
        x.person(3, 0, 0, 0);
        x.person(3, 1, 0, 0);
        due("32 four houses", x.ring(0), 4);
        due("32 gifts of four", x.ring(1), 38);
        x.die(0);
        x.die(1);
        due("32 without house 0", x.ring(1), 18);
        due("32 without house 0", x.ring(0), 2);
    }

    private static void ringed() {
        MatchBook x = Given.houses(4);
        for (int h = 3; h >= 1; h--) {
            x.person(h, 0, h, 0);
            x.person(h, 0, 0, 0);
            x.person(h, 1, 0, 0);
            x.person(h, 1, 0, 0);
        }
        // persons: house 3: 0 1 2 3, house 2: 4 5 6 7, house 1: 8 9 10 11
        due("33 house", x.ringed(0, 0), 1);
        due("33 house", x.ringed(1, 0), 2);
        due("33 no third", x.ringed(2, 0), -1);
        due("33 the least bride", x.ringed(0, 1), 8);
        due("33 the least groom", x.ringed(0, 2), 6);
        due("33 her of the last", x.ringed(1, 1), 4);
        due("33 his of the first", x.ringed(1, 2), 10);
        Given.text(x, 3, "if star=0:gift 7;");
        due("33 now 1 and 3", x.ringed(1, 0), 3);
        due("33 the greatest gift", x.ringed(0, 1), 9);
        due("33 his", x.ringed(0, 2), 2);
        due("33 the greatest gift", x.ringed(1, 1), 1);
        due("33 his", x.ringed(1, 2), 10);
        Given.text(x, 2, "gift 4;");
        due("33 by 2 and 3", x.ring(1), 7 + 7 + 4);
        due("33 three", x.ring(0), 3);
        due("33 the least row", x.ringed(0, 0), 1);
        due("33 the least row", x.ringed(1, 0), 2);
        due("33 the least row", x.ringed(2, 0), 3);
        due("33 k -1", x.ringed(-1, 0), -1);
        due("33 k 4", x.ringed(4, 0), -1);
        due("33 another what", x.ringed(0, 3), -1);
        due("33 what -1", x.ringed(0, -1), -1);
        MatchBook y = Given.houses(2);
        due("33 there is none", y.ringed(0, 0), -1);
    }

    private static void firstEight() {
        MatchBook x = Given.houses(2);
        for (int k = 0; k < 10; k++) {
            x.person(0, 0, 0, 0);
        }
        for (int k = 0; k < 9; k++) {
            x.person(1, 1, 0, 0);
        }
        due("29 eight", x.best(0), 8);
        due("30 the eighth", x.bestFor(7), 17);
        due("30 not the ninth", x.bestFor(8), -1);
        due("30 nor his ninth", x.bestFor(18), -1);
        due("31 the eighth", x.stable(7), 17);
        due("31 not the ninth", x.stable(18), -1);
        x.die(0);
        due("30 now the ninth", x.bestFor(8), 17);
        x.person(1, 0, 0, 0);
        due("32 a bride of 1 that is no more of the first eight", x.ring(0), -1);
    }

    private static void count() {
        MatchBook x = Given.houses(3);
        x.person(0, 0, 0, -30);
        x.person(1, 1, 0, -20);
        x.person(0, 0, 0, -20);
        x.person(1, 1, 0, -20);
        x.person(1, 1, 0, -20);
        x.parent(2, 0, 0);
        x.feud(0, 2, true);
        Given.years(x, 4);
        x.ask(0, 1);
        x.promise(0);
        x.wed(0);
        x.ask(2, 3);
        x.harvest(2, 50);
        int[] want = {3, 5, 1, 4, 2, 1, 1, 1, 3050, 0, 1, 0};
        for (int what = 0; what < want.length; what++) {
            due("34 count(" + what + ")", x.count(what), want[what]);
        }
        x.promise(1);
        due("34 promised ones are open", x.count(5), 1);
        due("34 another what", x.count(12), -100);
        due("34 what -1", x.count(-1), -100);
    }

    private static void image() {
        MatchBook x = Given.couple();
        due("35 image 0", x.image(0), true);
        due("35 image 2", x.image(2), true);
        due("35 image 3", x.image(3), false);
        due("35 image -1", x.image(-1), false);
        due("35 none such", x.again(1), false);
        x.year();
        due("35 anew", x.image(0), true);
        x.year();
        x.again(0);
        due("35 as of then", x.count(3), 1);
        x.again(2);
        due("35 the other one", x.count(3), 0);
    }

    private static void again() {
        MatchBook x = Given.couple();
        due("36 none", x.again(0), false);
        due("36 k 3", x.again(3), false);
        due("36 k -1", x.again(-1), false);
        x.person(0, 0, 0, -70);
        Given.text(x, 0, "gift 20;");
        Given.text(x, 5, "more 4;");
        Given.text(x, 1, "bar");
        x.road(0, 1, 5);
        x.parent(0, 2, 0);
        x.ask(0, 1);
        Check.write(x, "bar;gift 3;");
        x.image(1);
        x.text(1);
        Given.text(x, 0, "bar;");
        Given.text(x, 5, "");
        x.road(0, 1, 1);
        x.parent(1, 2, 0);
        x.promise(0);
        x.wed(0);
        x.feud(0, 1, true);
        x.harvest(0, 5);
        x.house(0, 0, 0);
        x.person(2, 0, 0, 0);
        x.die(1);
        x.year();
        due("36 again", x.again(1), true);
        due("36 fault", x.fault(0), 1);
        due("36 its place", x.fault(1), 3);
        due("36 houses", x.count(0), 2);
        due("36 persons", x.count(1), 3);
        due("36 news", x.count(2), 1);
        due("36 year", x.count(3), 0);
        due("36 feuds", x.count(7), 0);
        due("36 coins", x.about(0, 2), 1000);
        due("36 alive", x.tell(1, 5), 1);
        due("36 spouse", x.tell(0, 6), -1);
        due("36 match", x.match(0, 2), 0);
        due("36 open", x.tell(0, 8), 0);
        due("36 kin", x.kin(0, 1, 0, 0), 99);
        due("36 custom", x.read(0, 1, 0, 2), 20);
        due("36 wish", x.liking(0, 1), 4);
        x.parent(1, 2, 0);
        due("36 roads", x.heard(1, 1), 5);
        due("36 the tape", x.text(4), 2);
        due("36 again again", x.again(1), true);
        due("36 the tape again", x.end(11), 11);
    }

    private static void againToAnother() {
        // kin that was heard before is not heard any more
        MatchBook y = Given.family();
        y.image(0);
        y.parent(2, 0, 0);
        due("36 kin", y.kin(2, 0, 0, 0), 1);
        y.again(0);
        due("36 no kin", y.kin(2, 0, 0, 0), 99);
        // a wedding's day goes with the image
        MatchBook z = Given.couple();
        z.person(0, 0, 0, -20);
        z.person(1, 1, 0, -30);
        z.person(0, 0, 0, -60);
        z.image(0);
        Given.text(z, 0, "if age=25 and kin<3:bar;");
        z.ask(0, 1);
        z.promise(0);
        z.wed(0);
        z.image(1);
        z.again(0);
        Given.text(z, 0, "if age=99:bar;");
        z.ask(2, 3);
        z.promise(0);
        z.wed(0);
        z.again(1);
        z.parent(0, 4, 0);
        z.parent(1, 4, 0);
        due("36 late by its day", z.late(0), 0);
    }

    private static void againToHisDay() {
        MatchBook x = Given.couple();
        x.person(0, 0, 0, -20);
        x.person(1, 1, 0, -30);
        x.person(0, 0, 0, -60);
        x.image(0);
        Given.text(x, 1, "if kin<3:bar;");
        x.ask(0, 1);
        x.promise(0);
        x.wed(0);
        x.image(1);
        x.die(1);
        x.image(2);
        due("36 widow", x.tell(0, 7), 1);
        x.again(0);
        due("36 no widow yet", x.tell(0, 7), 0);
        x.again(2);
        due("36 widow again", x.tell(0, 7), 1);
        x.again(0);
        x.ask(2, 3);
        x.promise(0);
        x.wed(0);
        x.again(1);
        x.parent(0, 4, 1);
        x.parent(1, 4, 1);
        due("36 late by his text", x.late(0), 0);
    }

    /** What comes new behind again() has nothing of what stood there. */
    private static void againAndNew() {
        MatchBook x = new MatchBook();
        x.house(0, 0, 100);
        x.image(0);
        x.house(0, 1, 100);
        x.feud(0, 1, true);
        x.person(0, 0, 0, 0);
        x.person(1, 1, 0, 0);
        x.person(0, 0, 0, 0);
        Given.text(x, 0, "gift 10;");
        x.ask(0, 1);
        x.promise(0);
        x.wed(0);
        x.feud(0, 1, true);
        x.die(1);
        x.again(0);
        x.house(0, 1, 100);
        due("36 no feud", x.about(1, 3), 0);
        x.person(0, 0, 0, 0);
        x.person(1, 1, 0, 0);
        x.person(0, 0, 0, 0);
        due("36 no widow", x.tell(0, 7), 0);
        due("36 alive", x.tell(1, 5), 1);
        due("36 free", x.tell(0, 9), 1);
        due("36 never wed: an elder", Given.holds(x, 2, 1, "elder"), 1);
        Given.text(x, 0, "");
        x.ask(0, 1);
        due("36 nothing paid", x.match(0, 5), 0);
        due("36 no gift", x.match(0, 3), 0);
    }
}
