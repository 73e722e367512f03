/** Terms 2 and promises 15 to 21: the tape, texts, faults, how couples are read. */
final class EdgesOfTexts {
    private static final String[] FLAGS = {"clan", "home", "feud", "widow", "elder"};
    private static final String[] FACTS = {"star", "kin", "age", "bride", "gap", "rich"};
    private static final String BAR = "bar;";

    private final Edge edge;

    private EdgesOfTexts(Edge edge) {
        this.edge = edge;
    }

    static void run(Edge edge) {
        EdgesOfTexts edges = new EdgesOfTexts(edge);
        edges.tokens();
        edges.grammar();
        edges.faults();
        edges.readings();
        edges.flagsAndFacts();
        edges.couples();
        edges.tapePromises();
        edges.readingPromises();
    }

    /** A text on a new book, how many lines it has or its fault and place. */
    private void linesAre(int whose, String text, int lines) {
        MatchBook x = new MatchBook();
        edge.due("text " + whose + " of: " + text, Given.text(x, whose, text), lines);
        edge.due("no fault of: " + text, x.fault(0), 0);
        edge.due("no place of: " + text, x.fault(1), -1);
    }

    private void faultIs(int whose, String text, int fault, int place) {
        MatchBook x = new MatchBook();
        edge.due("text " + whose + " of: " + text, Given.text(x, whose, text), -1);
        edge.due("fault of: " + text, x.fault(0), fault);
        edge.due("place of: " + text, x.fault(1), place);
    }

    private void tokens() {
        tapeAtMost();
        blanks();
        words();
        numbers();
        signs();
    }

    private void tapeAtMost() {
        edge.says("Terms 2", "TEXTS: THE TAPE has at most 500 bytes.");
        MatchBook x = new MatchBook();
        for (int n = 20; n <= 500; n += 20) {
            edge.due("feed", x.feed(0x20202020, 0x20202020, 0x20202020, 0x20202020, 0x6261723b), n);
        }
        edge.due("520", x.feed(0, 0, 0, 0, 0), -1);
        edge.due("501", x.end(501), -1);
        edge.due("500", x.end(500), 500);
        edge.due("all are read", x.text(0), -1);
        edge.due("the 17th line is one too many", x.fault(0), 3);
        edge.due("at its first token", x.fault(1), 336);
        linesAre(0, " ".repeat(496) + "bar;", 1);
        faultIs(0, " ".repeat(497) + "bar", 1, 500);
        faultIs(0, " ".repeat(496) + "barn", 1, 496);
    }

    private void blanks() {
        edge.says("Terms 2", "TOKENS, as long as they go, blanks (10, 32) between:");
        for (int sign = 0; sign < 256; sign++) {
            if (sign == 10 || sign == 32) {
                linesAre(0, BAR + (char) sign, 1);
                linesAre(0, (char) sign + BAR + (char) sign + (char) sign + BAR, 2);
            } else {
                faultIs(0, BAR + (char) sign, 1, 4);
            }
        }
        linesAre(0, "gift7;if not clan and star<1:bar;", 2);
        linesAre(0, " gift\n7\n;\n\nif\nnot\nclan and  star < 1 : bar ; ", 2);
        faultIs(0, "ifclan:bar;", 1, 0);
        faultIs(0, "if notclan:bar;", 1, 3);
        faultIs(0, "if clan andhome:bar;", 1, 8);
        faultIs(0, "ba r;", 1, 0);
        faultIs(0, "gift 1 2;", 1, 7);
        linesAre(0, "if age<1and kin=2:bar;", 1);
    }

    private void words() {
        edge.says("Terms 2", "WORDS, rows of letters a .. z;");
        for (int sign = 0; sign < 256; sign++) {
            String text = "bar" + (char) sign + ";";
            if (sign >= 'a' && sign <= 'z') {
                faultIs(0, text, 1, 0);
            } else if (sign == 10 || sign == 32) {
                linesAre(0, text, 1);
            } else if (sign == ';') {
                faultIs(0, text, 1, 4);
            } else {
                faultIs(0, text, 1, 3);
            }
        }
        faultIs(0, "BAR;", 1, 0);
        faultIs(0, "bAr;", 1, 0);
        faultIs(0, "z".repeat(500), 1, 0);
        faultIs(0, "car;", 1, 0);
        faultIs(0, "bir;", 1, 0);
        faultIs(0, "bat;", 1, 0);
    }

    private void numbers() {
        edge.says("Terms 2", "NUMBERS, 1 to 4 digits;");
        for (int sign = 0; sign < 256; sign++) {
            String text = "gift 1" + (char) sign + ";";
            if (sign >= '0' && sign <= '9' || sign == 10 || sign == 32) {
                linesAre(0, text, 1);
            } else {
                faultIs(0, text, 1, sign == ';' ? 7 : 6);
            }
        }
        faultIs(0, "gift ;", 1, 5);
        linesAre(0, "gift 0;gift 9;gift 10;gift 999;gift 9999;gift 0000;gift 0001;", 7);
        faultIs(0, "gift 10000;", 1, 5);
        faultIs(0, "gift 00000;", 1, 5);
        faultIs(0, "gift 00100;", 1, 5);
        faultIs(0, "gift -1;", 1, 5);
        linesAre(0, "if kin<9999:bar;", 1);
        faultIs(0, "if kin<10000:bar;", 1, 7);
        linesAre(5, "more 9999;less 9999;", 2);
        faultIs(5, "more 10000;", 1, 5);
        faultIs(6, "less 00000;", 1, 5);
        faultIs(0, "gift 4294967301;", 1, 5);
        MatchBook x = Given.couple();
        Given.text(x, 0, "gift 9999;gift 0012;");
        edge.due("worth of both", x.read(0, 1, 0, 2), 10011);
    }

    private void signs() {
        edge.says("Terms 2", "signs : ; < > = one byte each.");
        for (int sign = 0; sign < 256; sign++) {
            String text = "if age" + (char) sign + "5:bar;";
            if (sign == '<' || sign == '>' || sign == '=') {
                linesAre(0, text, 1);
            } else if (sign >= 'a' && sign <= 'z') {
                faultIs(0, text, 1, 3);
            } else {
                faultIs(0, text, 1, sign == 10 || sign == 32 ? 7 : 6);
            }
        }
        faultIs(0, "if age<=5:bar;", 1, 7);
        faultIs(0, "if age==5:bar;", 1, 7);
        faultIs(0, "if clan::bar;", 1, 8);
        faultIs(0, "bar;;", 1, 4);
    }

    private void grammar() {
        textOfLines();
        lineOfTests();
        tests();
        flagWords();
        factWords();
        customActs();
        wishActs();
    }

    private void textOfLines() {
        edge.says("Terms 2", "TEXT: {LINE}.");
        linesAre(0, "", 0);
        linesAre(6, "", 0);
        linesAre(0, " \n ", 0);
        linesAre(0, BAR, 1);
        linesAre(0, BAR + BAR, 2);
        linesAre(0, BAR.repeat(15), 15);
        linesAre(0, BAR.repeat(16), 16);
    }

    private void lineOfTests() {
        edge.says("Terms 2", "LINE: ['if' TEST {'and' TEST} ':'] ACT ';'.");
        linesAre(0, "bar;", 1);
        linesAre(0, "if clan:bar;", 1);
        linesAre(0, "if clan and home:bar;", 1);
        faultIs(0, "if:bar;", 1, 2);
        faultIs(0, "if bar;", 1, 3);
        faultIs(0, "clan:bar;", 1, 0);
        faultIs(0, "and clan:bar;", 1, 0);
        faultIs(0, "if clan home:bar;", 1, 8);
        faultIs(0, "if clan and and home:bar;", 1, 12);
        faultIs(0, "if clan and:bar;", 1, 11);
        faultIs(0, "if clan bar;", 1, 8);
        faultIs(0, "if clan;bar;", 1, 7);
        faultIs(0, "if clan:;", 1, 8);
        faultIs(0, "if clan:if clan:bar;", 1, 8);
        faultIs(0, ":bar;", 1, 0);
        faultIs(0, "bar:", 1, 3);
        faultIs(0, "bar bar;", 1, 4);
        faultIs(0, "bar and bar;", 1, 4);
        faultIs(0, ";", 1, 0);
    }

    private void tests() {
        edge.says("Terms 2", "TEST: ['not'] (FLAG | FACT ('<' | '>' | '=') NUMBER).");
        linesAre(0, "if not clan and not kin>3 and kin<1 and kin=9:bar;", 1);
        faultIs(0, "if not:bar;", 1, 6);
        faultIs(0, "if not not clan:bar;", 1, 7);
        faultIs(0, "if not 5:bar;", 1, 7);
        faultIs(0, "if kin not<5:bar;", 1, 7);
        faultIs(0, "if kin:bar;", 1, 6);
        faultIs(0, "if kin<:bar;", 1, 7);
        faultIs(0, "if kin 5:bar;", 1, 7);
        faultIs(0, "if kin<clan:bar;", 1, 7);
        faultIs(0, "if kin<<5:bar;", 1, 7);
        faultIs(0, "if 5<kin:bar;", 1, 3);
        faultIs(0, "if clan<5:bar;", 1, 7);
        faultIs(0, "if clan 5:bar;", 1, 8);
    }

    private void flagWords() {
        edge.says("Terms 2", "FLAGS: 'clan', 'home', 'feud', 'widow', 'elder'.");
        for (String flag : FLAGS) {
            for (int whose = 0; whose < 7; whose += 5) {
                String act = whose < 5 ? ":bar;" : ":more 1;";
                linesAre(whose, "if " + flag + act, 1);
                linesAre(whose, "if not " + flag + act, 1);
                faultIs(whose, "if " + flag + "=1" + act, 1, 3 + flag.length());
                faultIs(whose, "if " + flag + "s" + act, 1, 3);
                faultIs(whose, "if " + flag.substring(1) + act, 1, 3);
                faultIs(whose, "if " + flag.substring(0, flag.length() - 1) + act, 1, 3);
                faultIs(whose, flag + ";", 1, 0);
            }
        }
    }

    private void factWords() {
        edge.says("Terms 2", "FACTS: 'star', 'kin', 'age', 'bride', 'gap', 'rich'.");
        for (String fact : FACTS) {
            for (int whose = 0; whose < 7; whose += 5) {
                String act = whose < 5 ? ":bar;" : ":more 1;";
                linesAre(whose, "if " + fact + "<1" + act, 1);
                linesAre(whose, "if not " + fact + ">0" + act, 1);
                faultIs(whose, "if " + fact + act, 1, 3 + fact.length());
                faultIs(whose, "if " + fact + "s=1" + act, 1, 3);
                faultIs(whose, "if " + fact.substring(1) + "=1" + act, 1, 3);
                faultIs(whose, "if " + fact.substring(0, fact.length() - 1) + "=1" + act, 1, 3);
                faultIs(whose, fact + ";", 1, 0);
            }
        }
        faultIs(0, "if groom=1:bar;", 1, 3);
    }

    private void customActs() {
        edge.says("Terms 2", "CUSTOM of a VILLAGE: ACT: 'bar' | 'gift' NUMBER | 'back' NUMBER.");
        for (int whose = 0; whose < 5; whose++) {
            linesAre(whose, "bar;gift 5;back 5;", 3);
            faultIs(whose, "more 5;", 1, 0);
            faultIs(whose, "less 5;", 1, 0);
        }
        faultIs(0, "bar 5;", 1, 4);
        faultIs(0, "gift;", 1, 4);
        faultIs(0, "back;", 1, 4);
        faultIs(0, "gift bar;", 1, 5);
        faultIs(0, "if clan:more 5;", 1, 8);
        faultIs(0, "gif 5;", 1, 0);
        faultIs(0, "backs 5;", 1, 0);
    }

    private void wishActs() {
        edge.says("Terms 2", "WISH of all brides, of all grooms: ACT: 'more' NUMBER | 'less' NUMBER.");
        for (int whose = 5; whose < 7; whose++) {
            linesAre(whose, "more 5;less 5;if clan:more 101;", 3);
            faultIs(whose, "bar;", 1, 0);
            faultIs(whose, "gift 5;", 1, 0);
            faultIs(whose, "back 5;", 1, 0);
            faultIs(whose, "if clan:bar;", 1, 8);
            faultIs(whose, "more;", 1, 4);
            faultIs(whose, "less;", 1, 4);
            faultIs(whose, "les 5;", 1, 0);
        }
        MatchBook x = Given.houses(2);
        Given.persons(x, 0, 0, 2);
        Given.persons(x, 1, 1, 2);
        Given.text(x, 5, "more 5;");
        Given.text(x, 6, "more 6;");
        edge.due("of one bride", x.liking(0, 2), 5);
        edge.due("of the other", x.liking(1, 3), 5);
        edge.due("of one groom", x.liking(2, 1), 6);
        edge.due("of the other", x.liking(3, 0), 6);
    }

    private void faults() {
        firstFault();
        longRows();
        backTooGreat();
        tooMany();
    }

    private void firstFault() {
        edge.says("Terms 2", "FAULTS, with places (a token's first byte; the end's): 1 the first byte or token with which no"
                + " text goes on");
        faultIs(0, "bar", 1, 3);
        faultIs(0, "bar ", 1, 4);
        faultIs(0, "bar \n\n", 1, 6);
        faultIs(0, "if", 1, 2);
        faultIs(0, "gift", 1, 4);
        faultIs(0, "gift 5", 1, 6);
        faultIs(0, "bar;if clan", 1, 11);
        faultIs(0, " barn;", 1, 1);
        faultIs(0, "bar;  barn;  ?", 1, 6);
        faultIs(0, "bar;  ?barn;", 1, 6);
        faultIs(0, "bar?;", 1, 3);
        faultIs(0, "ba?r;", 1, 0);
        faultIs(0, "if clan bar;?", 1, 8);
        faultIs(0, "if bar;?", 1, 3);
        faultIs(0, "gift bar;?", 1, 5);
        faultIs(0, "bar gift 5;?", 1, 4);
        faultIs(0, "" + (char) 0, 1, 0);
        faultIs(0, "bar" + (char) 128 + ";", 1, 3);
        faultIs(0, "bar;" + (char) 255, 1, 4);
        faultIs(0, "gift " + (char) 176 + ";", 1, 5);
        faultIs(0, (char) 226 + "ar;", 1, 0);
        faultIs(0, "x".repeat(500), 1, 0);
        faultIs(0, BAR.repeat(124) + "bar ", 1, 500);
        linesAre(0, "bar;", 1);
    }

    private void longRows() {
        edge.says("Terms 2", "(a longer row of digits is no token).");
        linesAre(0, "gift 1234;", 1);
        faultIs(0, "gift 12345;", 1, 5);
        faultIs(0, "gift 123456789;", 1, 5);
        faultIs(0, "back 12345;", 1, 5);
        faultIs(0, "if age>12345:bar;", 1, 7);
        faultIs(0, "12345", 1, 0);
        faultIs(0, "bar12345;", 1, 3);
        faultIs(0, "gift " + "0".repeat(495), 1, 5);
        faultIs(0, "gift 1234 5;", 1, 10);
    }

    private void backTooGreat() {
        edge.says("Terms 2", "If there is none, the first of: 2 a NUMBER behind back above 100.");
        linesAre(0, "back 0;", 1);
        linesAre(0, "back 99;", 1);
        linesAre(0, "back 100;", 1);
        linesAre(0, "back 0100;", 1);
        faultIs(0, "back 101;", 2, 5);
        faultIs(0, "back 0101;", 2, 5);
        faultIs(0, "back  9999 ;", 2, 6);
        faultIs(4, "if clan:back 101;", 2, 13);
        faultIs(0, "back 100;back 102;back 101;", 2, 14);
        linesAre(0, "gift 101;if kin>101:bar;", 2);
        linesAre(5, "more 101;less 101;", 2);
        faultIs(0, "back 101", 1, 8);
        faultIs(0, "back 101;bar?", 1, 12);
        faultIs(0, "back 101;" + "12345", 1, 9);
        faultIs(0, "back 101;" + BAR.repeat(16), 2, 5);
        faultIs(0, BAR.repeat(15) + "back 101;" + BAR, 2, 65);
        faultIs(0, BAR.repeat(16) + "back 101;", 3, 64);
        faultIs(0, "if clan and clan and clan and clan and clan:back 101;", 3, 39);
        faultIs(0, "back 101;if clan and clan and clan and clan and clan:bar;", 2, 5);
    }

    private void tooMany() {
        edge.says("Terms 2", "3 one too many, at its first token: a 17th LINE, a 5th TEST of a LINE.");
        linesAre(0, BAR.repeat(15), 15);
        linesAre(0, BAR.repeat(16), 16);
        linesAre(0, BAR.repeat(16) + " \n", 16);
        faultIs(0, BAR.repeat(17), 3, 64);
        faultIs(0, BAR.repeat(18), 3, 64);
        faultIs(0, BAR.repeat(125), 3, 64);
        faultIs(0, BAR.repeat(16) + "  if clan:bar;", 3, 66);
        faultIs(0, BAR.repeat(17) + "?", 1, 68);
        faultIs(0, BAR.repeat(16) + "bar", 1, 67);
        faultIs(5, "more 1;".repeat(17), 3, 112);
        linesAre(6, "less 1;".repeat(16), 16);
        String three = "if clan and clan and clan";
        linesAre(0, three + ":bar;", 1);
        linesAre(0, three + " and clan:bar;", 1);
        linesAre(0, three + " and not kin<5:bar;", 1);
        faultIs(0, three + " and clan and clan:bar;", 3, 39);
        faultIs(0, three + " and clan and  not kin<5:bar;", 3, 40);
        faultIs(0, three + " and clan and clan and clan and clan:bar;", 3, 39);
        faultIs(0, three + " and clan and clan", 1, 43);
        faultIs(0, three + " and clan and bar;", 1, 39);
        linesAre(0, (three + " and home:bar;").repeat(12), 12);
        faultIs(0, BAR + three + " and clan and clan:bar;" + BAR.repeat(16), 3, 43);
        faultIs(0, BAR.repeat(16) + three + " and clan and clan:bar;", 3, 64);
        String most = "if clan and home and age<1 and gap=2:bar;";
        linesAre(0, most.repeat(12), 12);
        String short4 = "if age<1and age<1and age<1and age<1:bar;";
        linesAre(0, short4.repeat(12), 12);
    }

    private void readings() {
        lineByLine();
        barredAndWhy();
        giftsAndBacks();
    }

    private void lineByLine() {
        edge.says("Terms 2", "A bride and a groom are READ by a VILLAGE, LINE by LINE, all whose TESTS hold:");
        MatchBook x = Given.couple();
        Given.text(x, 0, "gift 1;if clan:gift 2;if not clan:gift 4;if not clan and home:gift 8;"
                + "if not clan and not home and not feud and not widow:gift 16;");
        edge.due("all of them must hold", x.read(0, 1, 0, 2), 21);
        edge.due("another village has no text", x.read(0, 1, 1, 2), 0);
        Given.text(x, 0, "if age<25:gift 1;if age<26:gift 2;if age>25:gift 4;if age>24:gift 8;if age=24:gift 16;"
                + "if age=25:gift 32;if age=26:gift 64;");
        edge.due("below, at, above", x.read(0, 1, 0, 2), 2 + 8 + 32);
        Given.text(x, 0, "if not age<25:gift 1;if not age<26:gift 2;if not age>25:gift 4;if not age>24:gift 8;"
                + "if not age=24:gift 16;if not age=25:gift 32;if not age=26:gift 64;");
        edge.due("not below, at, above", x.read(0, 1, 0, 2), 1 + 4 + 16 + 64);
    }

    private void barredAndWhy() {
        edge.says("Terms 2", "bar: BARRED (WHY: the first such LINE);");
        MatchBook x = Given.couple();
        Given.text(x, 0, "gift 1;");
        edge.due("not barred", x.read(0, 1, 0, 0), 0);
        edge.due("no why", x.read(0, 1, 0, 1), -1);
        Given.text(x, 0, "bar;bar;");
        edge.due("barred", x.read(0, 1, 0, 0), 1);
        edge.due("the first line is 0", x.read(0, 1, 0, 1), 0);
        Given.text(x, 0, "if clan:bar;".repeat(15) + "bar;");
        edge.due("the last line is 15", x.read(0, 1, 0, 1), 15);
        Given.text(x, 0, "if clan:bar;".repeat(16));
        edge.due("none of sixteen", x.read(0, 1, 0, 1), -1);
        Given.text(x, 0, "gift 5;back 3;if clan:bar;if not clan:bar;bar;gift 7;");
        edge.due("the first whose tests hold", x.read(0, 1, 0, 1), 3);
        edge.due("lines behind it are read, too", x.read(0, 1, 0, 2), 12);
    }

    private void giftsAndBacks() {
        edge.says("Terms 2", "gift: the GIFT (0 at first) is so much more; back: BACK (0 at first) is that.");
        MatchBook x = Given.couple();
        edge.due("gift at first", x.read(0, 1, 0, 2), 0);
        edge.due("back at first", x.read(0, 1, 0, 3), 0);
        Given.text(x, 0, "bar;");
        edge.due("gift without", x.read(0, 1, 0, 2), 0);
        edge.due("back without", x.read(0, 1, 0, 3), 0);
        Given.text(x, 0, "gift 9999;".repeat(16));
        edge.due("the greatest gift", x.read(0, 1, 0, 2), 159984);
        Given.text(x, 0, "back 100;");
        edge.due("the greatest back", x.read(0, 1, 0, 3), 100);
        edge.due("of another village, at first", x.read(0, 1, 1, 3), 0);
        Given.text(x, 0, "back 70;back 30;if clan:back 99;");
        edge.due("back is the last one", x.read(0, 1, 0, 3), 30);
        Given.text(x, 0, "back 70;back 0;");
        edge.due("and may be 0 again", x.read(0, 1, 0, 3), 0);
    }

    private void flagsAndFacts() {
        clanFlag();
        homeFlag();
        feudFlag();
        widowFlag();
        elderFlag();
        starFact();
        kinFact();
        ageFacts();
        gapFact();
        richFact();
    }

    private void clanFlag() {
        edge.says("Terms 2", "(clan: their HOUSES have one CLAN;");
        MatchBook x = new MatchBook();
        x.house(5, 0, 0);
        x.house(5, 1, 0);
        x.house(4, 0, 0);
        Given.persons(x, 0, 0, 1);
        Given.persons(x, 0, 1, 1);
        Given.persons(x, 1, 1, 1);
        Given.persons(x, 2, 1, 1);
        edge.due("in one house", Given.holds(x, 0, 1, "clan"), 1);
        edge.due("of one clan", Given.holds(x, 0, 2, "clan"), 1);
        edge.due("of two clans", Given.holds(x, 0, 3, "clan"), 0);
        edge.due("not of one clan", Given.holds(x, 0, 3, "not clan"), 1);
    }

    private void homeFlag() {
        edge.says("Terms 2", "home: one VILLAGE;");
        MatchBook x = new MatchBook();
        x.house(0, 4, 0);
        x.house(1, 4, 0);
        x.house(0, 3, 0);
        Given.persons(x, 0, 0, 1);
        Given.persons(x, 0, 1, 1);
        Given.persons(x, 1, 1, 1);
        Given.persons(x, 2, 1, 1);
        edge.due("in one house", Given.holds(x, 0, 1, "home"), 1);
        edge.due("of one village", Given.holds(x, 0, 2, "home"), 1);
        edge.due("of two villages", Given.holds(x, 0, 3, "home"), 0);
        edge.due("not of one village", Given.holds(x, 0, 3, "not home"), 1);
    }

    private void feudFlag() {
        edge.says("Terms 2", "feud: there is a FEUD between their HOUSES;");
        MatchBook x = Given.houses(8);
        Given.persons(x, 7, 0, 1);
        Given.persons(x, 0, 1, 1);
        Given.persons(x, 7, 1, 1);
        edge.due("none", Given.holds(x, 0, 1, "feud"), 0);
        x.feud(7, 6, true);
        x.feud(0, 6, true);
        edge.due("with another house each", Given.holds(x, 0, 1, "feud"), 0);
        x.feud(0, 7, true);
        edge.due("between theirs", Given.holds(x, 0, 1, "feud"), 1);
        edge.due("never in one house", Given.holds(x, 0, 2, "feud"), 0);
        x.feud(7, 0, false);
        edge.due("it ended", Given.holds(x, 0, 1, "feud"), 0);
    }

    private void widowFlag() {
        edge.says("Terms 2", "widow: the bride is a WIDOW;");
        MatchBook x = Given.houses(2);
        Given.persons(x, 0, 0, 2);
        Given.persons(x, 1, 1, 3);
        edge.due("never wed", Given.holds(x, 0, 4, "widow"), 0);
        Given.text(x, 0, "");
        Given.wedding(x, 0, 2);
        Given.wedding(x, 1, 3);
        edge.due("wed", Given.holds(x, 0, 4, "widow"), 0);
        x.die(2);
        x.die(1);
        edge.due("he died", Given.holds(x, 0, 4, "widow"), 1);
        edge.due("a groom whose bride died is none", Given.holds(x, 0, 3, "not widow"), 0);
        edge.due("nor is a bride that died", Given.holds(x, 1, 3, "widow"), 0);
        Given.text(x, 0, "");
        Given.wedding(x, 0, 4);
        edge.due("wed again", Given.holds(x, 0, 4, "widow"), 0);
    }

    private void elderFlag() {
        edge.says("Terms 2", "elder: the bride's HOUSE has another living bride that never was WED, BORN earlier, or in the"
                + " same YEAR with a lesser number;");
        MatchBook x = Given.houses(2);
        x.person(1, 1, 0, -10);
        x.person(0, 0, 0, -19);
        x.person(0, 0, 0, -20);
        edge.due("none but a younger one", Given.holds(x, 2, 0, "elder"), 0);
        edge.due("one that was born a year earlier", Given.holds(x, 1, 0, "elder"), 1);
        x.person(0, 0, 0, -20);
        edge.due("the same year, a greater number", Given.holds(x, 2, 0, "elder"), 0);
        edge.due("the same year, a lesser number", Given.holds(x, 3, 0, "elder"), 1);
        x.person(1, 0, 0, -80);
        x.person(0, 1, 0, -80);
        edge.due("a bride of another house, a groom of hers", Given.holds(x, 2, 0, "elder"), 0);
        Given.text(x, 0, "");
        x.ask(2, 0);
        x.promise(0);
        edge.due("a promised one was never wed", Given.holds(x, 3, 0, "elder"), 1);
        Given.text(x, 0, "");
        x.wed(0);
        edge.due("a wed one", Given.holds(x, 3, 0, "elder"), 0);
        x.die(0);
        edge.due("a widow was wed", Given.holds(x, 3, 0, "elder"), 0);
        edge.due("but the other is one still", Given.holds(x, 1, 0, "elder"), 1);
        x.die(3);
        edge.due("until she dies", Given.holds(x, 1, 0, "elder"), 0);
        MatchBook y = Given.houses(2);
        Given.persons(y, 0, 0, 2);
        Given.persons(y, 1, 1, 1);
        edge.due("number 0 ahead of number 1", Given.holds(y, 1, 2, "elder"), 1);
        edge.due("none ahead of number 0", Given.holds(y, 0, 2, "elder"), 0);
    }

    private void starFact() {
        edge.says("Terms 2", "star: how far apart their STARS are in a ring of eight;");
        MatchBook x = Given.houses(2);
        for (int star = 0; star < 8; star++) {
            x.person(0, 0, star, 0);
            x.person(1, 1, star, 0);
        }
        Given.text(x, 0, "if star=1:gift 1;if star=2:gift 2;if star=3:gift 3;if star=4:gift 4;if star>4:gift 9;");
        int[] apart = {0, 1, 2, 3, 4, 3, 2, 1};
        for (int a = 0; a < 8; a++) {
            for (int b = 0; b < 8; b++) {
                edge.due(a + " and " + b, x.read(2 * a, 2 * b + 1, 0, 2), apart[Math.abs(a - b)]);
            }
        }
    }

    private void kinFact() {
        edge.says("Terms 2", "kin: KIN as HEARD in that VILLAGE by now;");
        MatchBook x = Given.houses(2);
        x.person(0, 0, 0, -20);
        x.person(1, 1, 0, -20);
        x.person(0, 0, 0, -60);
        x.road(0, 1, 3);
        x.parent(0, 2, 0);
        x.parent(1, 2, 0);
        for (int v = 0; v < 3; v++) {
            Given.text(x, v, "if kin<99:gift 1;if kin=99:gift 2;if kin=2:gift 4;");
        }
        edge.due("in 0 now", x.read(0, 1, 0, 2), 5);
        edge.due("in 1 not yet", x.read(0, 1, 1, 2), 2);
        Given.years(x, 2);
        edge.due("in 1 the year before", x.read(0, 1, 1, 2), 2);
        x.year();
        edge.due("in 1 now", x.read(0, 1, 1, 2), 5);
        edge.due("in 2 never", x.read(0, 1, 2, 2), 2);
        x.road(1, 2, 1);
        edge.due("in 2 the year before", x.read(0, 1, 2, 2), 2);
        x.year();
        edge.due("in 2 now", x.read(0, 1, 2, 2), 5);
    }

    private void ageFacts() {
        edge.says("Terms 2", "age: the groom's; bride: her AGE;");
        MatchBook x = Given.houses(2);
        x.person(0, 0, 0, -80);
        x.person(1, 1, 0, 0);
        edge.due("a groom of 0", Given.holds(x, 0, 1, "age=0"), 1);
        edge.due("below 0 is none", Given.holds(x, 0, 1, "age<0"), 0);
        edge.due("below 1", Given.holds(x, 0, 1, "age<1"), 1);
        edge.due("above 0", Given.holds(x, 0, 1, "age>0"), 0);
        edge.due("a bride of 80", Given.holds(x, 0, 1, "bride=80"), 1);
        edge.due("above 79", Given.holds(x, 0, 1, "bride>79"), 1);
        edge.due("above 80", Given.holds(x, 0, 1, "bride>80"), 0);
        x.year();
        edge.due("a year later he is 1", Given.holds(x, 0, 1, "age=1"), 1);
        edge.due("and she 81", Given.holds(x, 0, 1, "bride=81"), 1);
    }

    private void gapFact() {
        edge.says("Terms 2", "gap: how far apart both AGES are;");
        MatchBook x = Given.houses(2);
        x.person(0, 0, 0, -20);
        x.person(1, 1, 0, -20);
        x.person(1, 1, 0, -21);
        x.person(1, 1, 0, -19);
        edge.due("none", Given.holds(x, 0, 1, "gap=0"), 1);
        edge.due("he is older", Given.holds(x, 0, 2, "gap=1"), 1);
        edge.due("she is older", Given.holds(x, 0, 3, "gap=1"), 1);
        edge.due("below 1", Given.holds(x, 0, 3, "gap<1"), 0);
        x.year();
        edge.due("it stays", Given.holds(x, 0, 2, "gap=1"), 1);
    }

    private void richFact() {
        edge.says("Terms 2", "rich: COINS of his HOUSE.)");
        MatchBook x = new MatchBook();
        x.house(0, 0, 9998);
        x.house(0, 1, 0);
        Given.persons(x, 0, 0, 1);
        Given.persons(x, 1, 1, 1);
        edge.due("none", Given.holds(x, 0, 1, "rich=0"), 1);
        edge.due("not hers", Given.holds(x, 0, 1, "rich=9998"), 0);
        x.harvest(1, 9999);
        edge.due("9999", Given.holds(x, 0, 1, "rich=9999"), 1);
        edge.due("not above", Given.holds(x, 0, 1, "rich>9999"), 0);
        x.harvest(1, 1);
        edge.due("10000", Given.holds(x, 0, 1, "rich>9999"), 1);
        edge.due("not 9999", Given.holds(x, 0, 1, "rich=9999"), 0);
    }

    private void couples() {
        mayWed();
        giftOfBoth();
        likings();
    }

    private void mayWed() {
        edge.says("Terms 2", "They MAY wed, if they are of two HOUSES and neither BARRED by the CUSTOM of her HOUSE's VILLAGE"
                + " nor by that of his.");
        MatchBook x = new MatchBook();
        x.house(0, 0, 0);
        x.house(0, 0, 0);
        x.house(0, 4, 0);
        Given.persons(x, 0, 0, 1);
        Given.persons(x, 0, 1, 1);
        Given.persons(x, 1, 1, 1);
        Given.persons(x, 2, 1, 1);
        edge.due("of one house", x.may(0, 1), false);
        edge.due("of two houses, one village", x.may(0, 2), true);
        edge.due("of two villages", x.may(0, 3), true);
        Given.text(x, 4, "bar;");
        edge.due("barred by his", x.may(0, 3), false);
        edge.due("barred by another", x.may(0, 2), true);
        Given.text(x, 4, "");
        Given.text(x, 0, "bar;");
        edge.due("barred by hers", x.may(0, 3), false);
        edge.due("barred by that of both", x.may(0, 2), false);
        Given.text(x, 0, "");
        Given.text(x, 1, "bar;");
        Given.text(x, 2, "bar;");
        Given.text(x, 3, "bar;");
        edge.due("barred by others alone", x.may(0, 3), true);
        mayWedAsHeard();
    }

    /** Bride 0 and groom 1 are of one mother, 2; each village bars by what is heard there alone. */
    private void mayWedAsHeard() {
        for (int told = 0; told < 2; told++) {
            MatchBook x = Given.couple();
            x.person(0, 0, 0, -60);
            x.parent(0, 2, told);
            x.parent(1, 2, told);
            for (int bars = 0; bars < 2; bars++) {
                Given.text(x, bars, "if kin=2:bar;");
                Given.text(x, 1 - bars, "");
                edge.due("told in village " + told + ", barred there in " + bars, x.may(0, 1), told != bars);
            }
            Given.text(x, 0, "if kin=99:bar;");
            edge.due("told in " + told + ", none heard with her", x.may(0, 1), told == 0);
            Given.text(x, 0, "");
            Given.text(x, 1, "if kin=99:bar;");
            edge.due("told in " + told + ", none heard with him", x.may(0, 1), told == 1);
        }
    }

    private void giftOfBoth() {
        edge.says("Terms 2", "Their GIFT is the greater one of both, BACK that of her VILLAGE.");
        int[][] gifts = {{0, 0, 0}, {5, 4, 5}, {5, 5, 5}, {5, 6, 6}, {0, 1, 1}, {1, 0, 1}};
        for (int[] g : gifts) {
            MatchBook x = Given.couple();
            Given.text(x, 0, "gift " + g[0] + ";back 30;");
            Given.text(x, 1, "gift " + g[1] + ";back 60;");
            x.ask(0, 1);
            edge.due("of " + g[0] + " and " + g[1], x.match(0, 3), g[2]);
            edge.due("back of hers", x.match(0, 4), 30);
        }
        MatchBook y = Given.couple();
        Given.text(y, 1, "back 60;");
        y.ask(0, 1);
        edge.due("hers has none", y.match(0, 4), 0);
    }

    private void likings() {
        edge.says("Terms 2", "LIKING of a PERSON for one of the other kind: by the WISH of its own kind, all LINES whose TESTS"
                + " hold: so much more, less (0 at first);");
        MatchBook x = Given.couple();
        edge.due("at first", x.liking(0, 1), 0);
        Given.text(x, 5, "more 9999;".repeat(16));
        Given.text(x, 6, "less 9999;".repeat(16));
        edge.due("the most", x.liking(0, 1), 159984);
        edge.due("the least", x.liking(1, 0), -159984);
        Given.text(x, 5, "more 5;if clan:more 100;less 6;if not clan:less 0;");
        edge.due("more and less", x.liking(0, 1), -1);
        edge.says("Terms 2", "with FLAGS and FACTS as READ by its own VILLAGE, but age, bride: the AGES of groom and bride, rich:"
                + " COINS of the other one's HOUSE.");
        MatchBook y = new MatchBook();
        y.house(0, 0, 70);
        y.house(0, 1, 80);
        y.person(0, 0, 0, -20);
        y.person(1, 1, 0, -25);
        y.person(0, 0, 0, -60);
        y.parent(0, 2, 0);
        y.parent(1, 2, 0);
        y.road(0, 1, 1);
        String wish = "if age=25:more 1;if bride=20:more 2;if rich=80:more 4;if rich=70:more 8;if kin=2:more 16;"
                + "if gap=5:more 32;if clan and not home:more 64;";
        Given.text(y, 5, wish);
        Given.text(y, 6, wish);
        edge.due("hers", y.liking(0, 1), 1 + 2 + 4 + 16 + 32 + 64);
        edge.due("his, kin not heard there", y.liking(1, 0), 1 + 2 + 8 + 32 + 64);
        Given.text(y, 6, "if kin=2:more 16;");
        y.year();
        edge.due("his, kin heard", y.liking(1, 0), 16);
    }

    private void tapePromises() {
        feed();
        feedNone();
        end();
        endNone();
        text();
        textFault();
        textOther();
        fault();
        faultOther();
    }

    private void feed() {
        edge.says("Promise 15", "The tape: twenty bytes come behind it, of each number the highest first: how many it has.");
        MatchBook x = Given.couple();
        edge.due("the first twenty", x.feed(0x67696674, 0x2031323b, 0x6261636b, 0x2033343b, 0x6261723b), 20);
        edge.due("twenty behind them", x.feed(0x20202020, 0x0a0a0a0a, 0x67696674, 0x20393939, 0x393b2020), 40);
        edge.due("lines", x.text(0), 4);
        edge.due("gift", x.read(0, 1, 0, 2), 10011);
        edge.due("back", x.read(0, 1, 0, 3), 34);
        edge.due("why", x.read(0, 1, 0, 1), 2);
        edge.due("bytes above 127", x.feed(0x6261723b, 0xff202020, 0, 0, 0), 20);
        x.text(0);
        edge.due("place of the first of them", x.fault(1), 4);
        x.feed(0x20202020, 0x20202020, 0x20202020, 0x20202020, 0x20202020);
        x.end(17);
        edge.due("behind what is left", x.feed(0x6261723b, 0x20202020, 0x20202020, 0x20202020, 0x2020203f), 37);
        x.text(0);
        edge.due("its last byte", x.fault(1), 36);
    }

    private void feedNone() {
        edge.says("Promise 15", "NONE, and nothing comes, if there would be more than 500.");
        for (int n = 479; n <= 482; n++) {
            MatchBook x = new MatchBook();
            for (int k = 0; k < 25; k++) {
                x.feed(0x20202020, 0x20202020, 0x20202020, 0x20202020, 0x20202020);
            }
            edge.due("500 are there", x.end(500), 500);
            edge.due("520", x.feed(0, 0, 0, 0, 0), -1);
            edge.due("end", x.end(n), n);
            int want = n + 20 <= 500 ? n + 20 : -1;
            edge.due("feed at " + n, x.feed(0x3f202020, 0x20202020, 0x20202020, 0x20202020, 0x20202020), want);
            edge.due("how many then", x.end(n + 1), want < 0 ? -1 : n + 1);
            edge.due("text", x.text(0), want < 0 ? 0 : -1);
            edge.due("place", x.fault(1), want < 0 ? -1 : n);
        }
    }

    private void end() {
        edge.says("Promise 16", "The tape has its first n bytes alone: n.");
        MatchBook x = new MatchBook();
        edge.due("nothing", x.end(0), 0);
        x.feed(0x6261723b, 0x6261723b, 0x6261723b, 0x6261723b, 0x6261723b);
        edge.due("all", x.end(20), 20);
        edge.due("one fewer", x.end(19), 19);
        edge.due("not twenty any more", x.end(20), -1);
        edge.due("two lines", x.end(8), 8);
        edge.due("are read", x.text(0), 2);
        x.feed(0x6261723b, 0x3f3f3f3f, 0x3f3f3f3f, 0x3f3f3f3f, 0x3f3f3f3f);
        edge.due("one line", x.end(4), 4);
        edge.due("twenty behind it", x.feed(0x6261723b, 0x20202020, 0x20202020, 0x20202020, 0x20202020), 24);
        edge.due("nothing of what was cut", x.text(0), 2);
        x.feed(0x6261723b, 0, 0, 0, 0);
        edge.due("none", x.end(0), 0);
        edge.due("is read", x.text(0), 0);
    }

    private void endNone() {
        edge.says("Promise 16", "NONE if it has not so many, or n is below 0.");
        MatchBook x = new MatchBook();
        edge.due("1 of nothing", x.end(1), -1);
        edge.due("-1 of nothing", x.end(-1), -1);
        x.feed(0x6261723b, 0x20202020, 0x20202020, 0x20202020, 0x20202020);
        edge.due("21", x.end(21), -1);
        edge.due("-1", x.end(-1), -1);
        edge.due("MIN", x.end(Integer.MIN_VALUE), -1);
        edge.due("MAX", x.end(Integer.MAX_VALUE), -1);
        edge.due("500", x.end(500), -1);
        edge.due("501", x.end(501), -1);
        edge.due("all are there still", x.end(20), 20);
        edge.due("and read", x.text(0), 1);
    }

    private void text() {
        edge.says("Promise 17", "The tape is taken (and is empty then), as CUSTOM of VILLAGE 0 .. 4, WISH of brides (5) or of"
                + " grooms (6) from now on: how many LINES.");
        MatchBook x = Given.couple();
        for (int whose = 0; whose < 7; whose++) {
            String act = whose < 5 ? "gift " : "more ";
            edge.due("lines of " + whose, Given.text(x, whose, act + (whose + 1) + ";" + act + "10;"), 2);
            edge.due("the tape is empty", x.end(1), -1);
        }
        for (int v = 0; v < 5; v++) {
            edge.due("custom of " + v, x.read(0, 1, v, 2), v + 11);
        }
        edge.due("wish of brides", x.liking(0, 1), 16);
        edge.due("wish of grooms", x.liking(1, 0), 17);
        edge.due("an empty tape", x.text(4), 0);
        edge.due("the old custom is gone", x.read(0, 1, 4, 2), 0);
        edge.due("another one is not", x.read(0, 1, 3, 2), 14);
        edge.due("an empty wish", x.text(6), 0);
        edge.due("the old wish is gone", x.liking(1, 0), 0);
        edge.due("sixteen", Given.text(x, 0, BAR.repeat(16)), 16);
    }

    private void textFault() {
        edge.says("Promise 17", "NONE: a FAULT.");
        MatchBook x = Given.couple();
        Given.text(x, 0, "gift 7;");
        Given.text(x, 5, "more 7;");
        String[] wrong = {"gift 8", "gift 8;back 101;", "gift 1;".repeat(17), "gift 8;?"};
        for (String text : wrong) {
            edge.due(text, Given.text(x, 0, text), -1);
            edge.due("the tape is empty", x.end(1), -1);
            edge.due("the custom is as it was", x.read(0, 1, 0, 2), 7);
        }
        edge.due("a custom for a wish", Given.text(x, 5, "gift 8;"), -1);
        edge.due("the wish is as it was", x.liking(0, 1), 7);
    }

    private void textOther() {
        edge.says("Promise 17", "-2: for another one (no text is read then, FAULT 0).");
        int[] others = {-1, 7, Integer.MIN_VALUE, Integer.MAX_VALUE};
        for (int whose : others) {
            MatchBook x = Given.couple();
            Given.text(x, 4, "gift 7;");
            Given.text(x, 0, "gift 6;");
            Given.text(x, 6, "more 5;");
            Given.text(x, 1, "bar");
            edge.due("a fault ahead", x.fault(0), 1);
            Check.write(x, "gift 99;");
            edge.due("text(" + whose + ")", x.text(whose), -2);
            edge.due("fault", x.fault(0), 0);
            edge.due("place", x.fault(1), -1);
            edge.due("the tape is taken", x.end(1), -1);
            edge.due("custom of 0", x.read(0, 1, 0, 2), 6);
            edge.due("custom of 4", x.read(0, 1, 4, 2), 7);
            edge.due("wish of grooms", x.liking(1, 0), 5);
            Check.write(x, "bar");
            edge.due("what would be a fault", x.text(whose), -2);
            edge.due("is not read", x.fault(0), 0);
        }
    }

    private void fault() {
        edge.says("Promise 18", "Of the latest text(), what 0: the FAULT, 0 without, 1: its place, NONE without.");
        MatchBook x = new MatchBook();
        edge.due("ahead of all", x.fault(0), 0);
        edge.due("no place", x.fault(1), -1);
        Given.text(x, 0, "?");
        edge.due("fault 1", x.fault(0), 1);
        edge.due("at 0", x.fault(1), 0);
        Given.text(x, 0, "bar;back 500;");
        edge.due("fault 2", x.fault(0), 2);
        edge.due("at 9", x.fault(1), 9);
        x.feed(0, 0, 0, 0, 0);
        x.end(3);
        edge.due("of the latest still", x.fault(0), 2);
        Given.text(x, 3, BAR.repeat(17));
        edge.due("fault 3", x.fault(0), 3);
        edge.due("at 64", x.fault(1), 64);
        Given.text(x, 6, "");
        edge.due("without", x.fault(0), 0);
        edge.due("no place then", x.fault(1), -1);
    }

    private void faultOther() {
        edge.says("Promise 18", "NONE for another what.");
        MatchBook x = new MatchBook();
        Given.text(x, 0, "bar");
        edge.due("-1", x.fault(-1), -1);
        edge.due("0", x.fault(0), 1);
        edge.due("1", x.fault(1), 3);
        edge.due("2", x.fault(2), -1);
        edge.due("MIN", x.fault(Integer.MIN_VALUE), -1);
        edge.due("MAX", x.fault(Integer.MAX_VALUE), -1);
    }

    private void readingPromises() {
        read();
        readOther();
        may();
        mayFalse();
        liking();
        likingOther();
    }

    private void read() {
        edge.says("Promise 19", "A bride and a groom READ by a VILLAGE now, what 0: 1 if BARRED, else 0, 1: WHY (NONE), 2: GIFT,"
                + " 3: BACK.");
        MatchBook x = Given.couple();
        for (int v = 0; v < 5; v++) {
            int[] want = {0, -1, 0, 0};
            for (int what = 0; what < 4; what++) {
                edge.due("no text: " + what, x.read(0, 1, v, what), want[what]);
            }
        }
        Given.text(x, 4, "gift 3;back 4;if age>25:bar;");
        edge.due("not barred at 25", x.read(0, 1, 4, 0), 0);
        edge.due("no why at 25", x.read(0, 1, 4, 1), -1);
        x.year();
        edge.due("barred at 26", x.read(0, 1, 4, 0), 1);
        edge.due("why at 26", x.read(0, 1, 4, 1), 2);
        edge.due("gift", x.read(0, 1, 4, 2), 3);
        edge.due("back", x.read(0, 1, 4, 3), 4);
        x.die(0);
        edge.due("the dead are read, too", x.read(0, 1, 4, 0), 1);
    }

    private void readOther() {
        edge.says("Promise 19", "-100: there are none such (of any), or for another what.");
        MatchBook x = Given.couple();
        edge.due("all there", x.read(0, 1, 0, 0), 0);
        int[][] others = {{-1, 1, 0, 0}, {2, 1, 0, 0}, {1, 1, 0, 0}, {0, -1, 0, 0}, {0, 2, 0, 0}, {0, 0, 0, 0}, {1, 0, 0, 0},
            {0, 1, -1, 0}, {0, 1, 5, 0}, {0, 1, 0, -1}, {0, 1, 0, 4}, {Integer.MAX_VALUE, 1, 0, 0},
            {0, Integer.MIN_VALUE, 0, 0}, {0, 1, Integer.MAX_VALUE, 0}, {0, 1, 0, Integer.MAX_VALUE}};
        for (int[] o : others) {
            edge.due("read(" + o[0] + ", " + o[1] + ", " + o[2] + ", " + o[3] + ")", x.read(o[0], o[1], o[2], o[3]), -100);
        }
        edge.due("village 4, what 3", x.read(0, 1, 4, 3), 0);
    }

    private void may() {
        edge.says("Promise 20", "Whether a bride and a groom MAY wed.");
        MatchBook x = Given.couple();
        edge.due("they may", x.may(0, 1), true);
        Given.text(x, 0, "if age<25:bar;");
        edge.due("at its bound", x.may(0, 1), true);
        Given.text(x, 0, "if age<26:bar;");
        edge.due("beyond it", x.may(0, 1), false);
        x.year();
        edge.due("a year later", x.may(0, 1), true);
        x.ask(0, 1);
        edge.due("they need not be free", x.may(0, 1), true);
    }

    private void mayFalse() {
        edge.says("Promise 20", "False, too, if there are none such.");
        MatchBook x = Given.couple();
        Given.persons(x, 1, 0, 1);
        edge.due("bride -1", x.may(-1, 1), false);
        edge.due("groom -1", x.may(0, -1), false);
        edge.due("groom 3", x.may(0, 3), false);
        edge.due("bride 3", x.may(3, 1), false);
        edge.due("a bride for a groom", x.may(0, 2), false);
        edge.due("a groom for a bride", x.may(1, 0), false);
        edge.due("MAX", x.may(Integer.MAX_VALUE, 1), false);
        edge.due("MIN", x.may(0, Integer.MIN_VALUE), false);
        edge.due("these are such", x.may(0, 1), true);
    }

    private void liking() {
        edge.says("Promise 21", "LIKING of a PERSON for another one.");
        MatchBook x = Given.couple();
        edge.due("no wish", x.liking(0, 1), 0);
        Given.text(x, 5, "if age>24:more 3;if age>25:more 50;");
        Given.text(x, 6, "if bride<20:less 50;if bride<21:less 3;");
        edge.due("hers", x.liking(0, 1), 3);
        edge.due("his", x.liking(1, 0), -3);
        x.year();
        edge.due("hers a year later", x.liking(0, 1), 53);
        edge.due("his a year later", x.liking(1, 0), 0);
    }

    private void likingOther() {
        edge.says("Promise 21", "-1000000: there are none such, or both are of one kind.");
        MatchBook x = Given.couple();
        Given.persons(x, 1, 0, 1);
        Given.persons(x, 0, 1, 1);
        int none = -1000000;
        edge.due("two brides", x.liking(0, 2), none);
        edge.due("two grooms", x.liking(1, 3), none);
        edge.due("itself", x.liking(1, 1), none);
        edge.due("person -1", x.liking(-1, 1), none);
        edge.due("person 4", x.liking(4, 1), none);
        edge.due("other -1", x.liking(0, -1), none);
        edge.due("other 4", x.liking(0, 4), none);
        edge.due("MAX", x.liking(Integer.MAX_VALUE, 0), none);
        edge.due("MIN", x.liking(0, Integer.MIN_VALUE), none);
        edge.due("both kinds, one house", x.liking(0, 3), 0);
    }
}
