/** Boundary cases of promises 27 to 31, and of what Terms say of texts: each test names its sentence. */
public final class BoundariesOfTexts extends Boundaries {
    public static void main(String[] args) {
        run(BoundariesOfTexts.class, 27, 31);
    }

    private static RoadsCrossed richWithTape(String bytes) {
        RoadsCrossed x = rich();
        put(x, bytes);
        return x;
    }

    private static RoadsCrossed fullWithTape(String bytes) {
        RoadsCrossed x = full();
        put(x, bytes);
        return x;
    }

    /** A tape is no text: that is told with the place, the tape is used up, and nothing else changes. */
    private static void fault(String bytes, int place) {
        leaves("text of \"" + bytes + "\"", () -> richWithTape(bytes), x -> x.text(), -100 - place, () -> richWithTape(""));
    }

    private static void fine(String bytes) {
        RoadsCrossed x = rich();
        due("text of \"" + bytes + "\"", say(x, bytes), 2);
        due("the tape is used up", x.count(4), 0);
        due("one more", x.count(2), 3);
    }

    /** The harm of a road of weight 3 between posts 0 and 2, by a law. */
    private static void value(String law, int want) {
        RoadsCrossed x = crossedSquare();
        due("text harm " + law, say(x, "harm " + law), 0);
        due("value of " + law, x.told(0, 5), want);
    }

    // ---- Terms: how a text is written

    @Of(terms = 4, sentence = "TEXTS, 14 at most, numbered from 0")
    static void textsAreNumberedFrom0UpTo13() {
        RoadsCrossed x = empty();
        for (int text = 0; text < 14; text++) {
            due("text " + text, say(x, "harm " + text), text);
        }
        due("a fifteenth", say(x, "harm 1"), FULL);
        due("count(2)", x.count(2), 14);
    }

    @Of(terms = 4, sentence = "from THE TAPE (96 bytes at most; an act that reads it uses it up, whatever it answers)")
    static void theTapeIsUsedUpWhateverIsAnswered() {
        leaves("a fault", () -> richWithTape("harm ?"), x -> x.text(), -105, () -> richWithTape(""));
        leaves("FULL", () -> full(), x -> x.text(), FULL, () -> fullWithTape(""));
        RoadsCrossed x = rich();
        due("a text", x.text(), 2);
        due("count(4)", x.count(4), 0);
        due("the end at once", x.text(), -100);
        due("what was trimmed off does not come again", x.trim(1), BAD);
    }

    @Of(terms = 4, sentence = "KEY E. KEY: harm | cross | swap.")
    static void aTextBeginsWithAKey() {
        fine("harm 1");
        fine("cross 1");
        fine("swap 1");
        fault("har 1", 0);
        fault("harmw 1", 0);
        fault("crossp", 0);
        fault("Harm 1", 0);
        fault("  swop 1", 2);
        fault("1 harm", 0);
        fault("(harm 1)", 0);
        fault("w", 0);
    }

    @Of(terms = 4, sentence = "the end (the place behind the last byte), if it comes too soon")
    static void theEndComesTooSoon() {
        fault("", 0);
        fault(" ", 1);
        fault(" ".repeat(96), 96);
        fault("harm", 4);
        fault("harm  ", 6);
        fault("harm w+", 7);
        fault("harm w+ ", 8);
        fault("harm !", 6);
        fault("harm (w", 7);
        fault("harm ((w)", 9);
        fault("harm w=", 7);
        fault("harm w&", 7);
        fault("harm w|", 7);
        fault("harm w/", 7);
        fault("harm w" + "+1".repeat(44) + " +", 96);
    }

    @Of(terms = 4, sentence = "NUMBER (1 to 4 digits)")
    static void numbersOf1To4Digits() {
        fine("harm 0");
        fine("harm 0000");
        fine("harm 9999");
        value("0099", 99);
        fault("harm 10000", 5);
        fault("harm 00000", 5);
        fault("harm w+12345 ", 7);
        fault("harm 1234 5", 10);
        fault("harm -1", 5);
        fault("harm 1.5", 6);
    }

    @Of(terms = 4, sentence = "NAMES, each one letter: of harm w WEIGHT, a, b the ends (a the lesser POST); of cross p, q; of swap a, b.")
    static void namesAreThoseOfTheKey() {
        for (char name = 'a'; name <= 'z'; name++) {
            named("harm ", name, "wab");
            named("cross ", name, "pq");
            named("swap ", name, "ab");
        }
        fault("harm ww", 5);
        fault("harm ab", 5);
        fault("harm harm", 5);
        fault("harm W", 5);
        value("b*10+a", 20);
        value("w", 3);
    }

    private static void named(String key, char name, String names) {
        if (names.indexOf(name) >= 0) {
            fine(key + name);
        } else {
            fault(key + name, key.length());
        }
    }

    @Of(terms = 4, sentence = "OR: AND { | AND }; AND: TEST { & TEST }")
    static void fromOneToAsManyTestsAsThereIsRoomFor() {
        value("5|0", 1);
        value("5&0", 0);
        value("0|".repeat(45) + "0", 0);
        value("0|".repeat(45) + "5", 1);
        value("1&".repeat(45) + "5", 1);
        value("1&".repeat(45) + "0", 0);
        value("0&".repeat(44) + "0|1", 1);
        fault("harm " + "1|".repeat(45) + "|", 95);
        fault("harm " + "1&".repeat(45), 95);
        fault("harm |1", 5);
        fault("harm &1", 5);
        fault("harm 1|&1", 7);
    }

    @Of(terms = 4, sentence = "SUM: TERM { (+ | -) TERM }; TERM: PIECE { (* | /) PIECE }")
    static void fromOneToAsManyTermsAndPiecesAsThereIsRoomFor() {
        value("7", 7);
        value("1+".repeat(45) + "1", 46);
        value("99" + "-1".repeat(44), 55);
        value("1*".repeat(45) + "7", 7);
        value("64" + "/2".repeat(6), 1);
        value("9-1+1-1", 8);
        value("9/2*2/2", 4);
        fault("harm +1", 5);
        fault("harm *1", 5);
        fault("harm 1+*1", 7);
        fault("harm 1*/1", 7);
        fault("harm 1--1", 7);
    }

    @Of(terms = 4, sentence = "A word is a row of letters a .. z, or of digits, as long as it goes")
    static void wordsAreAsLongAsTheyGo() {
        fault("harm" + "h".repeat(92), 0);
        fault("harm " + "w".repeat(91), 5);
        fault("harm " + "1".repeat(91), 5);
        fault("harm 12 34", 8);
        fault("harm 1 2 3 4", 7);
        fault("ha rm 1", 0);
        fault("harm `", 5);
        fault("harm {", 5);
        fault("harm :", 5);
        fault("harm/1", 4);
        fault("harm`w", 4);
        fault("harm{w", 4);
        fault("harm:1", 4);
        value("w/1", 3);
    }

    @Of(terms = 4, sentence = "FAULT: the first byte of the first word or sign with which no TEXT goes on (a word that needs a blank ahead of it, a NUMBER of more than 4 digits")
    static void ofSeveralFaultsTheFirst() {
        fault("harm ) ( 12345 w1", 5);
        fault("harm 12345 )", 5);
        fault("harm w1 ) 12345", 6);
        fault("harm w12345", 6);
        fault("harm 1234w5", 9);
        fault("harm w ) w1", 7);
        fault("harm 1 + ) 12345", 9);
        fault("harm 1+99999+w1", 7);
        fault("harm (w1", 7);
        fault("harm !(p", 7);
        fault("swop 12345", 0);
        fault("?harm", 0);
    }

    @Of(terms = 4, sentence = "TEST: SUM [ (< | = | >) SUM ]")
    static void aTestHasOneSignAtMost() {
        fine("harm w<1");
        fine("harm (w<1)<2");
        fine("harm w<1&w<2|w=3");
        fault("harm w<1<2", 8);
        fault("harm w<1=2", 8);
        fault("harm w>1>2", 8);
        fault("harm w<=1", 7);
        fault("harm w==1", 7);
    }

    @Of(terms = 4, sentence = "PIECE: NUMBER (1 to 4 digits) | NAME | ! PIECE | ( E )")
    static void whatNoTextGoesOnWith() {
        fault("harm ()", 6);
        fault("harm )", 5);
        fault("harm w)", 6);
        fault("harm (w))", 8);
        fault("harm (w)(w)", 8);
        fault("harm (w)w", 8);
        fault("harm w w", 7);
        fault("harm 1 w", 7);
        fault("harm w(", 6);
        fault("harm w!", 6);
        fault("harm +w", 5);
        fault("harm w++w", 7);
        fault("harm w||1", 7);
        fault("harm w&&1", 7);
        fault("harm (+)", 6);
    }

    @Of(terms = 4, sentence = "any other byte is a sign by itself")
    static void bytesThatAreNoSignOfATextAreAFault() {
        for (int b = 0; b <= 255; b++) {
            boolean goesOn = b == ' ' || "|&<=>+-*/".indexOf(b) >= 0;
            boolean isWord = b >= 'a' && b <= 'z' || b >= '0' && b <= '9';
            if (!goesOn && !isWord) {
                fault("harm w" + (char) b, 6);
            }
        }
        fault("harm\t1", 4);
        fault("harm w_", 6);
    }

    @Of(terms = 4, sentence = "Between words and signs, and at the ends, there may be blanks (byte 32); a word right behind another one needs one.")
    static void blanksAndWords() {
        fine("  harm  w  +  1  ");
        fine("harm(w)");
        fine("harm!w");
        fine("harm w+1*(a<b)");
        fault("harm1", 4);
        fault("harm12345", 4);
        fault("harm w1", 6);
        fault("harm 1w", 6);
        fault("harm 1234w", 9);
        fault("harm w+1w", 8);
    }

    @Of(terms = 4, sentence = "the ninth ( that would be open within others")
    static void eightBracketsWithinOneAnotherButNotNine() {
        fine("harm " + "(".repeat(8) + "w" + ")".repeat(8));
        fine("harm " + "(".repeat(8) + "w" + ")".repeat(8) + "+" + "(".repeat(8) + "w" + ")".repeat(8));
        fine("harm " + "(1)+".repeat(12) + "1");
        fine("harm " + "(".repeat(8) + "1)+(1" + ")".repeat(8));
        fault("harm " + "(".repeat(9) + "w" + ")".repeat(9), 13);
        fault("harm " + "(".repeat(8) + "1)+((1" + ")".repeat(9), 17);
        fault("harm " + "(".repeat(8), 13);
        fault("harm " + "(".repeat(91), 13);
    }

    @Of(terms = 4, sentence = "the ninth ! likewise, each by itself")
    static void eightNotsWithinOneAnotherButNotNine() {
        fine("harm " + "!".repeat(8) + "w");
        fine("harm " + "!".repeat(8) + "w+" + "!".repeat(8) + "w");
        fine("harm " + "!1+".repeat(12) + "1");
        fine("harm " + "!(".repeat(8) + "w" + ")".repeat(8));
        fine("harm " + "(!".repeat(8) + "w" + ")".repeat(8));
        fine("harm " + "!".repeat(8) + "(".repeat(8) + "w" + ")".repeat(8));
        fault("harm " + "!".repeat(9) + "w", 13);
        fault("harm " + "!".repeat(91), 13);
        fault("harm " + "!".repeat(8), 13);
        fault("harm " + "!(".repeat(8) + "!w" + ")".repeat(8), 21);
        fault("harm " + "!(".repeat(8) + "(w" + ")".repeat(9), 21);
    }

    // ---- Terms: what a text is worth

    @Of(terms = 4, sentence = "Ints wrap;")
    static void valuesWrap() {
        value("8192*8192*32<0", 1);
        value("8192*8192*32-1>0", 1);
        value("0-8192*8192*32<0", 1);
        value("8192*8192*64", 0);
        value("8192*8192*64+7", 7);
        value("8192*8192*32/(0-1)<0", 1);
        value("0-(8192*8192*32-1)-2>0", 1);
    }

    @Of(terms = 4, sentence = "/ is 0 by 0;")
    static void byZeroIs0() {
        value("9/0", 0);
        value("0/0", 0);
        value("9/(w-3)", 0);
        value("5+9/0", 5);
        value("9/0*0+4", 4);
    }

    @Of(terms = 0, sentence = "All numbers are whole; / cuts towards 0.")
    static void aQuotientIsCutTowards0() {
        value("50+7/2", 53);
        value("50+(0-7)/2", 47);
        value("50+7/(0-2)", 47);
        value("50+(0-7)/(0-2)", 53);
        value("50+(0-1)/2", 50);
    }

    @Of(terms = 4, sentence = "tests, & | ! give 1 or 0 (what is not 0 is true; both sides are worked out)")
    static void testsGive1Or0() {
        value("2<2", 0);
        value("2=2", 1);
        value("2>2", 0);
        value("(0-1)<0", 1);
        value("5&7", 1);
        value("5&(0-7)", 1);
        value("5&0", 0);
        value("0|0", 0);
        value("0|(0-1)", 1);
        value("6|9", 1);
        value("!0", 1);
        value("!5", 0);
        value("!(0-1)", 0);
        value("!!5", 1);
        value("0&9/0", 0);
        value("1|9/0", 1);
    }

    @Of(terms = 4, sentence = "E, the loosest first")
    static void theLoosestFirst() {
        value("1|0&0", 1);
        value("0&0|1", 1);
        value("1+2*3", 7);
        value("10-2-3", 5);
        value("60/5/3", 4);
        value("8/3*3", 6);
        value("2<1+2", 1);
        value("1=1&2", 1);
        value("!1+5", 5);
        value("!0*9", 9);
        value("!(1+5)", 0);
    }

    @Of(terms = 4, sentence = "Of a KEY that TEXT counts that was told last.")
    static void theTextThatWasToldLastCounts() {
        RoadsCrossed x = crossedSquare();
        say(x, "harm 10");
        say(x, "harm 20");
        due("the last", x.told(0, 5), 20);
        say(x, "swap 30");
        due("one of another key does not count", x.told(0, 5), 20);
        say(x, "harm 30 )");
        due("one with a fault does not count", x.told(0, 5), 20);
        for (int text = 3; text < 14; text++) {
            say(x, "cross 1");
        }
        due("a fifteenth", say(x, "harm 40"), FULL);
        due("one that did not come does not count", x.told(0, 5), 20);
    }

    // ---- promise 27

    @Of(promise = 27, sentence = "Twelve bytes come to THE TAPE, the highest of each number first: how many it has.")
    static void feedUpTo96() {
        RoadsCrossed x = empty();
        for (int bytes = 12; bytes <= 96; bytes += 12) {
            due("feed", x.feed(0, 0, 0), bytes);
        }
        due("one more", x.feed(0, 0, 0), FULL);
        due("count(4)", x.count(4), 96);
    }

    @Of(promise = 27, sentence = "the highest of each number first")
    static void feedTheHighestByteFirst() {
        RoadsCrossed x = crossedSquare();
        due("\"harm 9 + 8  \"", x.feed(0x6861726d, 0x2039202b, 0x20382020), 12);
        due("text", x.text(), 0);
        due("9 + 8", x.told(0, 5), 17);
        x.feed(0x6861726d, -1, LEAST);
        due("byte 255 behind harm", x.text(), -104);
        x.feed(-1, MOST, LEAST);
        due("byte 255", x.text(), -100);
        x.feed(0x20202020, 0x20202080, 0);
        due("byte 128 at 7", x.text(), -107);
    }

    @Of(promise = 27, sentence = "FULL: it would have more than 96.")
    static void feedRefusesMoreThan96() {
        refused("97 of 96 and 12", () -> full(), x -> x.feed(1, 2, 3), FULL);
        refused("97 of 85 and 12", () -> {
            RoadsCrossed x = full();
            x.trim(85);
            return x;
        }, x -> x.feed(LEAST, MOST, -1), FULL);
        RoadsCrossed x = full();
        x.trim(84);
        due("96 of 84 and 12", x.feed(0x20202020, 0x20202020, 0x20202020), 96);
    }

    // ---- promise 28

    @Of(promise = 28, sentence = "BAD.")
    static void trimRefusesANumberOutside() {
        for (int n : outside(0, 6)) {
            refused("trim(" + n + ")", () -> rich(), x -> x.trim(n), BAD);
        }
        for (int n : outside(0, 96)) {
            refused("trim(" + n + ") of 96", () -> full(), x -> x.trim(n), BAD);
        }
        refused("trim(1) of none", () -> empty(), x -> x.trim(1), BAD);
    }

    @Of(promise = 28, sentence = "THE TAPE keeps its first n bytes: n.")
    static void trimToAllToFewerAndToNone() {
        tellsOnly("to all", () -> rich(), x -> x.trim(6), 6);
        tellsOnly("to all 96", () -> full(), x -> x.trim(96), 96);
        tellsOnly("none of none", () -> empty(), x -> x.trim(0), 0);
        RoadsCrossed x = crossedSquare();
        feedText(x, "harm w * 200");
        due("to fewer", x.trim(10), 10);
        due("not to more", x.trim(11), BAD);
        feedText(x, "1           ");
        due("22", x.count(4), 22);
        due("text", x.text(), 0);
        due("3 * 21 and not 3 * 200", x.told(0, 5), 63);
        feedText(x, "harm w      ");
        due("to none", x.trim(0), 0);
        due("count(4)", x.count(4), 0);
        due("the end at once", x.text(), -100);
    }

    // ---- promise 29

    @Of(promise = 29, sentence = "-100 less the place of its FAULT")
    static void textTellsTheFirstAndTheLastPlaceOfAFault() {
        fault("?", 0);
        fault("harm " + "1+".repeat(45) + "?", 95);
        fault("harm " + "1+".repeat(45) + "+", 95);
        fault("harm " + "1+".repeat(45), 95);
        fault("harm  " + "1+".repeat(45), 96);
        leaves("with 14 texts", () -> fullWithTape("harm (1"), x -> x.text(), -107, () -> fullWithTape(""));
    }

    @Of(promise = 29, sentence = "THE TAPE is a TEXT: its number.")
    static void textOf96Bytes() {
        fine("harm  " + "1+".repeat(44) + "11");
        fine("harm " + "1+".repeat(45) + "1");
        RoadsCrossed x = crossedSquare();
        fillTape(x, "harm 7");
        due("with blanks", x.text(), 0);
        due("harm", x.told(0, 5), 7);
    }

    @Of(promise = 29, sentence = "FULL.")
    static void textRefusesAFifteenth() {
        leaves("a right one", () -> full(), x -> x.text(), FULL, () -> fullWithTape(""));
        RoadsCrossed x = full();
        x.text();
        x.back();
        due("behind an image without texts", say(x, "harm 8"), 0);
        due("harm", x.told(0, 5), 8);
    }

    @Of(promise = 29, sentence = "-100 less the place of its FAULT; FULL.")
    static void textTellsAFaultAheadOfFull() {
        leaves("a fault and 14 texts", () -> fullWithTape("harm"), x -> x.text(), -104, () -> fullWithTape(""));
        leaves("no bytes and 14 texts", () -> fullWithTape(""), x -> x.text(), -100, () -> fullWithTape(""));
    }

    @Of(promise = 29, sentence = "THE TAPE is a TEXT: its number. -100 less the place of its FAULT; FULL.")
    static void textIsReadAnewBehindAnyFault() {
        RoadsCrossed x = crossedSquare();
        String[] faulty = {"harm w w", "harm 1 2", "harm 12345", "harm w1", "cross w", "harm", "harm ((", "harm !!", "swap", ""};
        int[] places = {7, 7, 5, 6, 6, 4, 7, 7, 4, 0};
        for (int i = 0; i < faulty.length; i++) {
            due("text of \"" + faulty[i] + "\"", say(x, faulty[i]), -100 - places[i]);
            due("a right one behind it", say(x, "harm " + i), i);
            due("harm", x.told(0, 5), i);
            due("numbers and names", x.textTold(i, 1), 1);
        }
    }

    @Of(promise = 29, sentence = "THE TAPE is a TEXT: its number.")
    static void textInPlaceOfALongerOne() {
        RoadsCrossed x = crossedSquare();
        x.keep();
        due("a long one", say(x, "harm !w+1*2"), 0);
        due("its harm", x.told(0, 5), 2);
        x.back();
        due("a short one", say(x, "harm w"), 0);
        due("its harm", x.told(0, 5), 3);
        due("its names", x.textTold(0, 1), 1);
        x.back();
        due("harm without a text", x.told(1, 5), 5);
    }

    // ---- promise 30

    @Of(promise = 30, sentence = "BAD.")
    static void textToldRefusesATextThatIsNone() {
        for (int text : outside(0, 1)) {
            refused("textTold(" + text + ", 0)", () -> rich(), x -> x.textTold(text, 0), BAD);
        }
        refused("14 of 14", () -> full(), x -> x.textTold(14, 0), BAD);
        refused("0 of none", () -> empty(), x -> x.textTold(0, 0), BAD);
        refused("0 of none behind an image", () -> {
            RoadsCrossed x = rich();
            x.back();
            return x;
        }, x -> x.textTold(0, 0), BAD);
    }

    @Of(promise = 30, sentence = "BAD.")
    static void textToldRefusesAWhatThatIsNone() {
        for (int what : outside(0, 1)) {
            refused("textTold(0, " + what + ")", () -> rich(), x -> x.textTold(0, what), BAD);
        }
    }

    @Of(promise = 30, sentence = "Of a TEXT: what 0 KEY (0 harm, 1 cross, 2 swap)")
    static void textToldOfEachKey() {
        RoadsCrossed x = empty();
        String[] keys = {"harm", "cross", "swap"};
        for (int text = 0; text < 14; text++) {
            due("text " + text, say(x, keys[text * 2 % 3] + " 1"), text);
        }
        for (int text = 0; text < 14; text++) {
            due("key of text " + text, x.textTold(text, 0), text * 2 % 3);
        }
        tellsOnly("the first of 14", () -> full(), y -> y.textTold(0, 0), 1);
        tellsOnly("the last of 14", () -> full(), y -> y.textTold(13, 0), 2);
    }

    @Of(promise = 30, sentence = "1 how many NUMBERS and NAMES it has")
    static void textToldOfTheFewestAndTheMost() {
        RoadsCrossed x = empty();
        say(x, "cross p");
        say(x, "harm " + "1+".repeat(45) + "w");
        say(x, "swap !(((1))) ");
        due("one name", x.textTold(0, 1), 1);
        due("45 numbers and a name", x.textTold(1, 1), 46);
        due("one number", x.textTold(2, 1), 1);
        due("cross", x.textTold(0, 0), 1);
        due("harm", x.textTold(1, 0), 0);
        due("swap", x.textTold(2, 0), 2);
        tellsOnly("the last of 14", () -> full(), y -> y.textTold(13, 1), 2);
    }

    // ---- promise 31

    @Of(promise = 31, sentence = "BAD;")
    static void whyRefusesAKeyThatIsNone() {
        for (int key : outside(0, 2)) {
            refused("why(" + key + ")", () -> rich(), x -> x.why(key), BAD);
            refused("why(" + key + ") without texts: BAD, not NONE", () -> empty(), x -> x.why(key), BAD);
        }
    }

    @Of(promise = 31, sentence = "NONE.")
    static void whyTellsThatThereIsNone() {
        for (int key = 0; key <= 2; key++) {
            int k = key;
            refused("why(" + k + ") without texts", () -> empty(), x -> x.why(k), NONE);
        }
        refused("none of cross", () -> rich(), x -> x.why(1), NONE);
        refused("none of harm among 14", () -> full(), x -> x.why(0), NONE);
    }

    @Of(promise = 31, sentence = "The TEXT that counts for a KEY.")
    static void whyOfTheFirstAndTheLast() {
        tellsOnly("the first of 14", () -> full(), x -> x.why(1), 0);
        tellsOnly("the last of 14", () -> full(), x -> x.why(2), 13);
        RoadsCrossed x = empty();
        say(x, "harm 1");
        x.keep();
        say(x, "harm 2");
        due("the last", x.why(0), 1);
        x.back();
        due("the one before, behind an image", x.why(0), 0);
        say(x, "swap 2");
        due("a text of another key has the number that one had", x.why(0), 0);
        due("swap", x.why(2), 1);
    }
}
