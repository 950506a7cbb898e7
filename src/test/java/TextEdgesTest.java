/** A test for each sentence that bounds the tape, its tokens, a text, its faults and a thing's way (part 2). */
public final class TextEdgesTest {
    private static final String LINE = "rag when 1;";

    public static void main(String[] args) {
        fullTape();
        textOfSixHundredSigns();
        behindTheTape();
        signsOfTheTape();
        orderOfBytes();
        takenByReading();
        blanksBetween();
        blanksWithin();
        eachAsLongAsCanBe();
        lettersOfWords();
        otherWords();
        longWords();
        longNumbers();
        letterBehindNumber();
        otherSigns();
        fewLines();
        sixteenLines();
        seventeenthLine();
        partsOfLines();
        anyMoreTests();
        eachPart();
        placesFromZero();
        oneComparison();
        partsWithin();
        allThatWaits();
        partWithinFive();
        endOfText();
        firstFromTheLeft();
        theLeastFault();
        inPlace();
        firstLineNotZero();
        withoutALine();
        factsOfAThing();
        bothSides();
        lessAndEqual();
        sums();
        Check.end();
    }

    private static void fault(String text, int kind, int place) {
        Check.due("[" + text + "]", Check.read(new GiftShops(), text), kind == 0 ? 0 : kind + 16 * place);
    }

    private static void right(String text) {
        fault(text, 0, 0);
    }

    private static String times(int n, String text) {
        return text.repeat(n);
    }

    private static void fullTape() {
        Check.at("The TAPE has at most 600 signs");
        GiftShops x = new GiftShops();
        Check.due("599", Check.feed(x, times(599, " ")), 599);
        Check.due("600", Check.feed(x, " "), 600);
        Check.due("one more", Check.feed(x, " "), 600);
        Check.due("24 more", x.feed(-1L >>> 2, 0x2020202020202020L, 0x2020202020202020L), 600);
        Check.due("signs", x.count(8), 600);
    }

    private static void textOfSixHundredSigns() {
        Check.at("and what is beyond 600, are left out: how many there are");
        String blanks = times(600 - LINE.length(), " ");
        right(blanks + LINE);
        right(blanks + LINE + "?");
        right(blanks + LINE + LINE);
        fault(" " + blanks + LINE, 1, 600);
        GiftShops x = new GiftShops();
        Check.feed(x, times(590, " "));
        Check.due("24 signs of which 10 find room", Check.feed(x, times(24, "1")), 600);
        Check.due("it is read", x.text(), 1 + 16 * 590);
    }

    private static void behindTheTape() {
        Check.at("Up to 24 signs come behind the TAPE");
        GiftShops x = new GiftShops();
        Check.due("none", x.feed(0, 0, 0), 0);
        Check.due("all 24", x.feed(0x7368656c66207768L, 0x656e20313b737461L, 0x6e6420202020207eL), 24);
        Check.due("none behind them", x.feed(0, -1L, 0), 24);
        Check.due("one behind them", x.feed(0, 0, 0x21L), 25);
        Check.due("it is read from the first on", x.text(), 1 + 16 * 13);
        Check.feed(x, "rag when 1 < 22222222");
        Check.due("9 digits by two calls", Check.feed(x, "2;"), 23);
        Check.due("they are one number", x.text(), 1 + 16 * 13);
    }

    private static void signsOfTheTape() {
        Check.at("10 and 32 .. 126");
        GiftShops x = new GiftShops();
        int due = 0;
        for (long sign = 0; sign < 256; sign++) {
            due += sign == 10 || sign >= 32 && sign <= 126 ? 1 : 0;
            Check.due("sign " + sign, x.feed(sign << (sign % 8 * 8), 0, 0), due);
        }
        Check.due("all the bytes of b and c", x.feed(0, 0x2020202020202020L, 0x0a0a0a0a0a0a0a0aL), due + 16);
        Check.due("others in b and c", x.feed(0, 0x7f80ff001f0b0901L, -1L), due + 16);
    }

    private static void orderOfBytes() {
        Check.at("the bytes of a, b, c, of each the highest first");
        GiftShops x = new GiftShops();
        Check.due("rag when kind<giver-012;", x.feed(0x726167207768656eL, 0x206b696e643c6769L, 0x7665722d3031323bL), 24);
        Check.due("it is a text", x.text(), 0);
        x.give(12, 0, 0, 0);
        Check.due("with others between, and lowest bytes", x.feed(0x0073006800650000L, 0x6cL, 0x66L), 5);
        Check.due("behind them", x.feed(0x207768656e203100L, 0, 0x3bL), 13);
        Check.due("it is a text", x.text(), 0);
        Check.due("its way", Check.look(x, 0, 4), 1);
    }

    private static void takenByReading() {
        Check.at("what reads it takes it: it is empty then");
        GiftShops x = new GiftShops();
        Check.due("right", Check.read(x, LINE), 0);
        Check.due("signs", x.count(8), 0);
        Check.due("wrong at its first token", Check.read(x, "when 1; rag"), 1);
        Check.due("signs", x.count(8), 0);
        Check.due("places from 0 again", Check.read(x, "rag rag"), 1 + 16 * 4);
        Check.due("signs", x.count(8), 0);
        Check.due("from nothing", Check.feed(x, "rag"), 3);
    }

    private static void blanksBetween() {
        Check.at("blanks (10, 32) between where one likes");
        right("");
        right(" ");
        right("\n");
        right("\n shelf\nwhen \n( 1 )and\n\n( kind\n<\n2 )\n;\n ");
        right("shelf when(1)and(kind<2);rag when 0;");
        right("shelf when(1)and(kind<2);\nrag\nwhen\n0\n;");
    }

    private static void blanksWithin() {
        Check.at("TOKENS, each as long as can be, blanks (10, 32) between");
        fault("ra g when 1;", 1, 0);
        fault("rag when ki\nnd;", 1, 9);
        fault("rag when 1 2;", 1, 11);
        fault("rag when 1\n2;", 1, 11);
    }

    private static void eachAsLongAsCanBe() {
        Check.at("TOKENS, each as long as can be");
        fault("ragwhen 1;", 1, 0);
        fault("rag whenkind;", 1, 4);
        fault("rag when kindand 1;", 1, 9);
        fault("rag when kind and1;", 0, 0);
        GiftShops x = Check.with("shelf when state + 10 = 19;");
        x.give(0, 0, 9, 0);
        Check.due("19 is one number", Check.look(x, 0, 4), 1);
    }

    private static void lettersOfWords() {
        Check.at("WORDS (letters a .. z, 8 at most)");
        for (char letter = 'a'; letter <= 'z'; letter++) {
            fault("rag when kind" + letter + ";", 1, 9);
            fault("rag when " + letter + "kind;", 1, 9);
        }
        for (char letter = 'A'; letter <= 'Z'; letter++) {
            fault("rag when kind" + letter + ";", 1, 13);
        }
        fault("Rag when 1;", 1, 0);
        fault("RAG when 1;", 1, 0);
    }

    /** Each word of the grammar with one letter changed, left out or doubled. */
    private static void otherWords() {
        Check.at("1 it is none, or can't stand there");
        String[] words = {"shelf", "store", "rag", "look", "when", "and", "kind", "state", "season", "now", "base",
            "giver"};
        String[] before = {"", "", "", "", "rag ", "rag when 1 ", "rag when ", "rag when ", "rag when ", "rag when ",
            "rag when ", "rag when "};
        for (int i = 0; i < words.length; i++) {
            for (int letter = 0; letter < words[i].length(); letter++) {
                String start = before[i] + words[i].substring(0, letter);
                String end = words[i].substring(letter + 1);
                fault(start + "x" + end, 1, before[i].length());
                fault(start + end, 1, before[i].length());
                fault(start + words[i].charAt(letter) + words[i].charAt(letter) + end, 1, before[i].length());
            }
        }
    }

    private static void longWords() {
        Check.at("All else (a longer WORD or NUMBER, too, at its first sign) is none");
        fault("rag when kindkind;", 1, 9);
        fault("rag when seasonnow;", 1, 9);
        fault("rag when 1 andandandand 2;", 1, 11);
        fault("shelfwhen 1;", 1, 0);
        fault("storestorestore when 1;", 1, 0);
        fault(times(600, "a"), 1, 0);
        fault(LINE + times(600, "z"), 1, 11);
    }

    private static void longNumbers() {
        Check.at("NUMBERS (1 to 4 digits");
        right("rag when 0;");
        right("rag when 9999;");
        right("rag when 0000;");
        fault("rag when 10000;", 1, 9);
        fault("rag when 00001;", 1, 9);
        fault("rag when 1 + 123456789;", 1, 13);
        fault("rag when " + times(591, "7"), 1, 9);
        GiftShops x = Check.with("shelf when 9999 < base and base < 9999 + 2 and 0010 = base - 9990;");
        x.give(0, 0, 0, 0);
        x.base(0, 10000);
        Check.due("9999 is below 10000, 0010 is 10", Check.look(x, 0, 4), 1);
    }

    private static void letterBehindNumber() {
        Check.at("a letter may stand right behind");
        right("rag when 1and 2and 3333and kind;");
        fault("rag when 12345and 2;", 1, 9);
        fault("rag when 1a;", 1, 10);
        fault("rag when kind1;", 1, 13);
    }

    private static void otherSigns() {
        Check.at("the signs ( ) < = + - and the semicolon. All else");
        for (char sign = 33; sign <= 126; sign++) {
            boolean letter = sign >= 'a' && sign <= 'z';
            boolean digit = sign >= '0' && sign <= '9';
            if (!letter && !digit && "()<=+-;".indexOf(sign) < 0) {
                fault(sign + LINE, 1, 0);
                fault("rag" + sign + "when 1;", 1, 3);
                fault("rag when 1" + sign + ";", 1, 10);
                fault("rag when kind" + sign + ";", 1, 13);
                fault(LINE + sign, 1, 11);
            }
        }
    }

    private static void fewLines() {
        Check.at("lines of the text");
        GiftShops x = Check.with("");
        Check.due("no line", x.count(7), 0);
        Check.read(x, LINE);
        Check.due("one line", x.count(7), 1);
        Check.read(x, " \n");
        Check.due("blanks alone", x.count(7), 0);
    }

    private static void sixteenLines() {
        Check.at("TEXT: 16 lines at most");
        GiftShops x = Check.with(times(15, "look when 0;") + "store when 1;");
        Check.due("lines", x.count(7), 16);
        x.give(0, 0, 0, 0);
        Check.due("the 16th tells the way", Check.look(x, 0, 4), 2);
        right(times(16, LINE) + "\n ");
    }

    private static void seventeenthLine() {
        Check.at("5 a 17th line (at its first token)");
        String sixteen = times(16, LINE);
        for (String word : new String[] {"shelf", "store", "rag", "look"}) {
            fault(sixteen + word + " when 1;", 5, 176);
            fault(sixteen + " \n" + word, 5, 178);
        }
        fault(times(17, LINE), 5, 176);
        fault(times(54, LINE), 5, 176);
    }

    private static void partsOfLines() {
        Check.at("shelf when E ;   store when E ;   rag when E ;   look when E ;");
        for (String word : new String[] {"when", "and", "kind", "1", "(", ")", "<", "=", "+", "-", ";"}) {
            fault(word, 1, 0);
            fault("look " + word + (word.equals("when") ? "" : " 1;"), 1, word.equals("when") ? 9 : 5);
        }
        for (String word : new String[] {"shelf", "store", "rag", "look", "when", "and", ")", "<", "=", "+", "-", ";"}) {
            fault("store when " + word, 1, 11);
            fault("store when 1 + " + word, 1, 15);
            fault("store when 1 - " + word, 1, 15);
            fault("store when 1 < " + word, 1, 15);
            fault("store when 1 = " + word, 1, 15);
            fault("store when ( " + word, 1, 13);
            fault("store when 1 and " + word, 1, 17);
        }
        for (String word : new String[] {"shelf", "store", "rag", "look", "when", "kind", "1", "(", ")"}) {
            fault("shelf when giver " + word, 1, 17);
            fault("shelf when 1 < 2 " + word, 1, 17);
            fault("shelf when (1) " + word, 1, 15);
        }
        fault("shelf when (1;", 1, 13);
    }

    private static void anyMoreTests() {
        Check.at("E: TEST { and TEST }");
        fault("look when ;", 1, 10);
        fault("look when and 1;", 1, 10);
        fault("look when 1 and;", 1, 15);
        fault("look when 1 and and 1;", 1, 16);
        // as many as a tape holds: 117 tests, the last of which decides
        way("look when " + times(116, "1and ") + "1;", 4);
        way("look when " + times(116, "1and ") + "0;", 3);
    }

    private static void eachPart() {
        Check.at("PART: N, kind, state, season, now, base, giver, ( E )");
        for (String part : new String[] {"0", "kind", "state", "season", "now", "base", "giver", "(1)", "(1 and 2 < 3)"}) {
            right("look when " + part + ";");
            right("look when " + part + "+" + part + "-" + part + "<" + part + " and " + part + ";");
            fault("look when " + part + " " + part + ";", 1, 11 + part.length());
        }
        fault("look when ();", 1, 11);
    }

    private static void placesFromZero() {
        Check.at("kind + 16 * the place (from 0) of a token");
        fault("?", 1, 0);
        fault(" ?", 1, 1);
        fault("\n\n?", 1, 2);
        fault(times(599, " ") + "?", 1, 599);
        fault(times(600, "?"), 1, 0);
        fault(times(599, "\n") + "rag", 1, 599);
    }

    private static void oneComparison() {
        Check.at("TEST: SUM [ < SUM or = SUM ]");
        right("rag when 1 < 2 and 3 = 4 and 5;");
        right("rag when (1 < 2) < (3 = 4);");
        for (String first : new String[] {"<", "="}) {
            for (String second : new String[] {"<", "="}) {
                fault("rag when 1" + first + "2" + second + "3;", 1, 12);
                fault("rag when 1" + first + second + "3;", 1, 11);
            }
        }
    }

    private static void partsWithin() {
        Check.at("( E ); 5 within one another");
        right("rag when ((((1))));");
        right("rag when ((((kind))));");
        right("rag when ((((1))))+((((2))))-((((3))))=((((4))))and((((5))));");
        right("rag when (((1+(2)-3<(4)and(5))));");
        right("rag when ((((1+2-3<4 and 5 and giver))));");
        right(times(16, "rag when ((((1))));"));
    }

    /** In each of the five a side of "and", of a comparison and of a sum waits for the other one. */
    private static void allThatWaits() {
        Check.at("5 within one another");
        String waits = "1 and 1 < 1 + (";
        way("look when " + times(4, waits) + "1 and 1 < 1 + 1" + times(4, ")") + ";", 4);
        way("look when " + times(4, waits) + "1 and 1 < 1 + 0" + times(4, ")") + ";", 3);
        way("look when " + times(4, waits) + "1 and 2 < 1 + 1" + times(4, ")") + ";", 3);
    }

    private static void partWithinFive() {
        Check.at("a PART within 5 others");
        for (String part : new String[] {"1", "kind", "state", "season", "now", "base", "giver", "(", "9999"}) {
            fault("rag when (((((" + part + ")))));", 5, 14);
            fault("rag when ((((1+(" + part + ")))));", 5, 16);
            fault("rag when ((((1-(" + part + ")))));", 5, 16);
            fault("rag when ((((1<(" + part + ")))));", 5, 16);
            fault("rag when ((((1=(" + part + ")))));", 5, 16);
            fault("rag when ((((1 and(" + part + ")))));", 5, 19);
        }
        fault("rag when " + times(591, "("), 5, 14);
        fault(LINE + "rag when (((((1)))));", 5, 25);
    }

    private static void endOfText() {
        Check.at("the end being one at the text's length");
        fault("rag", 1, 3);
        fault("rag \n", 1, 5);
        fault("rag when", 1, 8);
        fault("rag when 1", 1, 10);
        fault("rag when 1  ", 1, 12);
        fault("rag when 1 <", 1, 12);
        fault("rag when 1 + ", 1, 13);
        fault("rag when (1", 1, 11);
        fault("rag when 1 and", 1, 14);
        fault(LINE + "rag", 1, 14);
        fault("rag" + times(597, " "), 1, 600);
    }

    private static void firstFromTheLeft() {
        Check.at("of the first token from the left that is wrong");
        fault("rag rag rag", 1, 4);
        fault("rag when ? 12345 ;;", 1, 9);
        fault("rag when 1 2 ?", 1, 11);
        fault("rag when 1;; rag when ?;", 1, 11);
        fault("rag when 12345 + (((((1)))));", 1, 9);
        fault("rag when (((((1))))) + 12345;", 5, 14);
        fault("rag when ?;" + times(16, LINE), 1, 9);
        fault(times(16, LINE) + "rag when ?;", 5, 176);
    }

    private static void theLeastFault() {
        Check.at("wrong the least: 1 it is none, or can't stand there; 5");
        for (String wrong : new String[] {"when", "and", "kind", "sell", "abcdefghi", "1", "12345", "(", ";", "?", "="}) {
            fault(times(16, LINE) + wrong, 1, 176);
        }
        for (String wrong : new String[] {"rag", "when", "and", "sell", "abcdefghi", "12345", ")", ";", "?", "=", "+"}) {
            fault("rag when (((((" + wrong, 1, 14);
        }
        fault("rag when (((((", 1, 14);
        fault("rag when ((((( ", 1, 15);
    }

    private static void inPlace() {
        Check.at("The TAPE is read as a TEXT, in place of the one there was: 0, or its FAULT");
        GiftShops x = Check.with(times(15, "look when 0;") + "look when 1;");
        x.give(0, 0, 0, 0);
        Check.due("the first", Check.look(x, 0, 4), 4);
        Check.due("another", Check.read(x, "look when 0; store when 1;"), 0);
        Check.due("its way", Check.look(x, 0, 4), 2);
        Check.due("its lines", x.count(7), 2);
        // a tape with a fault is no TEXT, so it comes in no text's place: NOTES.md tells of this reading
        Check.due("a fault behind a whole line", Check.read(x, "shelf when 1; rag when"), 1 + 16 * 22);
        Check.due("the way there was", Check.look(x, 0, 4), 2);
        Check.due("the lines there were", x.count(7), 2);
        Check.due("an empty one", x.text(), 0);
        Check.due("no line's way", Check.look(x, 0, 4), 3);
        String[] words = {"shelf", "store", "rag", "look"};
        for (int i = 0; i < 80; i++) {
            int first = i / 2 % 2;
            String text = words[i % 4] + " when " + first + "; " + words[(i + 1) % 4] + " when 1 + 1;";
            Check.due("text " + i, Check.read(x, text), 0);
            Check.due("its way", Check.look(x, 0, 4), (i + 1 - first) % 4 + 1);
        }
    }

    private static void way(String text, int due) {
        GiftShops x = Check.with(text);
        x.base(6, 321);
        x.give(13, 6, 7, 2);
        Check.due("[" + text + "]", Check.look(x, 0, 4), due);
    }

    private static void firstLineNotZero() {
        Check.at("A THING's WAY is that of the first line whose E is not 0 (1 shelf, 2 store, 3 rag, 4 look");
        way("shelf when 1; look when 1;", 1);
        way("look when 1; shelf when 1;", 4);
        way("shelf when 0; store when 1; look when 1;", 2);
        way("shelf when 0; store when 0; rag when 2; look when 1;", 3);
        way("shelf when 0; store when 1 - 1; look when 9999;", 4);
        way("shelf when 0 - 1;", 1);
        way("store when 1 - 3; shelf when 1;", 2);
    }

    private static void withoutALine() {
        Check.at("3 without one");
        way("", 3);
        way("shelf when 0; store when 0; look when 0;", 3);
        GiftShops x = new GiftShops();
        x.give(0, 0, 0, 0);
        Check.due("no text yet", Check.look(x, 0, 4), 3);
        Check.due("sorted so", x.sort(0, 0), 3);
    }

    private static void factsOfAThing() {
        Check.at("season: the THING's; now: the SEASON that is; base: of its kind");
        way("look when kind = 6 and state = 7 and season = 2 and now = 0 and base = 321 and giver = 13;", 4);
        GiftShops x = Check.with("shelf when season = 4 and now = 0; store when season = 4 and now = 3; look when 1;");
        x.give(0, 1, 0, 4);
        Check.due("for all seasons it is 4", Check.look(x, 0, 4), 1);
        x.weeks(51);
        Check.due("in the last season", Check.look(x, 0, 4), 2);
        x.weeks(1);
        Check.due("in the first again", Check.look(x, 0, 4), 1);
        Check.read(x, "store when base = 9; look when base = 10;");
        x.base(0, 9);
        Check.due("another kind's base", Check.look(x, 0, 4), 4);
        x.base(1, 9);
        Check.due("its own kind's base", Check.look(x, 0, 4), 2);
    }

    private static void bothSides() {
        Check.at("1 if both sides are not 0");
        way("look when 5 and 7;", 4);
        way("look when 0 and 7;", 3);
        way("look when 5 and 0;", 3);
        way("look when 0 and 0;", 3);
        way("look when 5 and 7 and 0;", 3);
        way("look when 0 and 5 and 7;", 3);
        way("look when (5 and 7) = 1;", 4);
        way("look when (0-5 and 7) = 1;", 4);
        way("look when (0-5 and 0-7) = 1;", 4);
        way("look when (5 and 7 and 2) = 1;", 4);
        way("look when (5 and 0) = 0;", 4);
    }

    private static void lessAndEqual() {
        Check.at("<, = tell 1 or 0");
        way("look when 1 < 2;", 4);
        way("look when 2 < 2;", 3);
        way("look when 3 < 2;", 3);
        way("look when 0 - 1 < 0;", 4);
        way("look when 2 = 2;", 4);
        way("look when 1 = 2;", 3);
        way("look when 3 = 2;", 3);
        way("look when (1 < 2) = 1;", 4);
        way("look when (1 < 9) = 1;", 4);
        way("look when (9 < 1) = 0;", 4);
        way("look when (2 < 2) = 0;", 4);
        way("look when (2 = 2) = 1;", 4);
        way("look when (2 = 1) = 0;", 4);
    }

    private static void sums() {
        Check.at("SUM: PART { + or - PART }");
        way("look when 9 - 5 - 4;", 3);
        way("look when 9 - (5 - 4);", 4);
        way("look when 9 - 5 + 4 = 8;", 4);
        way("look when 1 - 2 = 0 - 1;", 4);
        // as much as a tape can hold: a sum of 118 numbers of four digits
        way("look when " + times(117, "9999+") + "0-1;", 4);
    }
}
