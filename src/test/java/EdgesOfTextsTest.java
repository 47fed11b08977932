/**
 * Promises 2 to 6, sentence by sentence: the last that is still allowed, and the first that no longer is.
 * Ahead of each test stands the sentence of the document.
 */
public final class EdgesOfTextsTest {
    private interface Asked {
        int answer(GlassHill x);
    }

    public static void main(String[] args) {
        tapeOf400();
        highestByteFirst();
        endOfTheTape();
        numbersOfATale();
        placesThereAreByThen();
        twoPlacesOfARoad();
        oneKeeperAPlace();
        tenPlaces();
        tenThings();
        sixteenRoads();
        sevenBrothers();
        fourteenLines();
        twelveTexts();
        linesBehindOneAnother();
        wordsAreLong();
        blanksBetweenAll();
        otherSignsAreNoBlanks();
        emptyTexts();
        whatCannotStandInATale();
        moreMustComeInATale();
        nothingStaysOfAWrongTale();
        twelveLinesOfALaw();
        numbersOfALaw();
        sixDeep();
        whatCannotStandInALaw();
        moreMustComeInALaw();
        nothingStaysOfAWrongLaw();
        tapeIsUsedUp();
        faultOfTheLatestText();
        Checks.finish("EdgesOfTextsTest");
    }

    // feed: "how many it has; NONE, and none come, if it would have more than 400"
    private static void tapeOf400() {
        GlassHill x = new GlassHill();
        for (int fed = 20; fed <= 380; fed += 20) {
            x.feed(0, 0, 0, 0, 0);
        }
        Checks.due("400 bytes", 400, x.feed(0, 0, 0, 0, 0));
        Checks.due("420 bytes", -1, x.feed(0, 0, 0, 0, 0));
        Checks.due("none came", false, x.end(401));
        Checks.due("cut to 381", true, x.end(381));
        Checks.due("401 bytes", -1, x.feed(0, 0, 0, 0, 0));
        Checks.due("none came", false, x.end(382));
        Checks.due("none went", true, x.end(381));
        Checks.due("cut to 380", true, x.end(380));
        Checks.due("400 bytes again", 400, x.feed(0, 0, 0, 0, 0));
        Checks.due("cut to 1", true, x.end(1));
        Checks.due("21 bytes", 21, x.feed(0, 0, 0, 0, 0));
    }

    // feed: "Twenty bytes come behind the TAPE, of each number the highest first"
    private static void highestByteFirst() {
        GlassHill x = new GlassHill();
        // 15, 13, .. 7 passed and 14, 12, .. 6 did not; in any other order it is not even pairs.
        x.feed(0x0f010e00, 0x0d010c00, 0x0b010a00, 0x09010800, 0x07010600);
        Checks.due("pairs in their order", 0x11, x.locks(true));
        x.feed(-1, -1, -1, -1, -1);
        Checks.illegalArgument("bytes of 255", x::law);
        Checks.due("fault", 0, x.fault());
        // "bar " and behind it 128.
        x.feed(0x62617220, 0x80808080, 0, 0, 0);
        Checks.illegalArgument("bytes of 128", x::law);
        Checks.due("fault", 4, x.fault());
    }

    // end: "The TAPE has its first n bytes alone: true; false, and nothing happens, if it has fewer, or n is below 0"
    private static void endOfTheTape() {
        GlassHill x = new GlassHill();
        Checks.due("0 of none", true, x.end(0));
        Checks.due("1 of none", false, x.end(1));
        Checks.due("-1 of none", false, x.end(-1));
        Checks.tape(x, 5, 1, 4, 0);
        Checks.due("4 of 4", true, x.end(4));
        Checks.due("5 of 4", false, x.end(5));
        Checks.due("MAX of 4", false, x.end(Integer.MAX_VALUE));
        Checks.due("-1 of 4", false, x.end(-1));
        Checks.due("MIN of 4", false, x.end(Integer.MIN_VALUE));
        Checks.due("it still has all four", 8, x.locks(false));
        Checks.tape(x, 5, 1, 4, 0);
        Checks.due("2 of 4", true, x.end(2));
        Checks.due("the first two alone", 16, x.locks(false));
        Checks.tape(x, 5, 1, 4, 0);
        Checks.due("0 of 4", true, x.end(0));
        Checks.due("none", 81, x.locks(false));
        // What is cut off is not read, though it would go on with a word, a number or a LINE.
        String[] texts = {"places", "place;", "road 0 1 long 12", "thing 0 worth 1 at 01", "place  "};
        for (String text : texts) {
            GlassHill y = Checks.told("place;place");
            Checks.tape(y, text);
            y.end(text.length() - 1);
            Checks.due("\"" + text + "\" less one byte", 2, y.tale());
        }
        GlassHill y = Checks.told("place;place");
        Checks.tape(y, "thing 0 worth 1 at 0");
        y.end(19);
        Checks.illegalArgument("no place told any more", y::tale);
        Checks.due("more must come", 19, y.fault());
        Checks.tape(y, "bar if (night)");
        y.end(13);
        Checks.illegalArgument("no ) any more", y::law);
        Checks.due("more must come", 13, y.fault());
    }

    /** A number of a LINE, told by #: its bounds, and what it is asked back by. */
    private static void number(String line, int low, int high, Asked asked) {
        int at = line.indexOf('#');
        int[] right = {low, high, (low + high) / 2};
        for (int n : right) {
            GlassHill x = Checks.told("place;place;place");
            Checks.rightTale(x, line.replace("#", "" + n));
            Checks.due(line + " of " + n, n, asked.answer(x));
            GlassHill y = Checks.told("place;place;place");
            Checks.wrongTale(y, line.replace("#", String.format("%04d", n)), at);
            y.end(0);
            Checks.rightTale(y, line.replace("#", String.format("%03d", n)));
            Checks.due(line + " of " + n + " in three digits", n, asked.answer(y));
        }
        GlassHill x = Checks.told("place;place;place");
        String[] wrong = {"" + (high + 1), "1000", "9999999999", "4294967296", "-1", "+1", "a", "?"};
        for (String n : wrong) {
            Checks.wrongTale(x, line.replace("#", n), at);
        }
        if (low > 0) {
            Checks.wrongTale(x, line.replace("#", "" + (low - 1)), at);
            Checks.wrongTale(x, line.replace("#", "000"), at);
        }
    }

    // "SHAPES: 0 to 15"; "a MASK and a VALUE (0 to 15 each)"; "(0 to 23, the first not above the second)";
    // "WORTH 1 to 99"; "LONG 1 to 9 hours, CHANCE 1 to 100"; "WAY 0 to 99 hours, DUE 0 to 999";
    // "Numbers are of 1 to 3 digits"; "P: a PLACE that there is by then"
    private static void numbersOfATale() {
        number("thing # worth 5 at 0", 0, 15, x -> x.thing(0, 0));
        number("thing 5 worth # at 0", 1, 99, x -> x.thing(0, 1));
        number("thing 5 worth 5 at #", 0, 2, x -> x.thing(0, 3));
        number("road 0 1 long #", 1, 9, x -> x.road(0, 2));
        number("road 0 1 long 5 chance #", 1, 100, x -> x.road(0, 3));
        number("keeper # lock 5 5", 0, 2, x -> x.place(0, 0) == 1 ? 0 : x.place(1, 0) == 1 ? 1 : 2);
        number("keeper 0 lock # 5", 0, 15, x -> x.place(0, 1));
        number("keeper 0 lock 5 #", 0, 15, x -> x.place(0, 2));
        number("keeper 0 lock 5 5 eats # to 23", 0, 23, x -> x.place(0, 3));
        number("keeper 0 lock 5 5 eats 0 to #", 0, 23, x -> x.place(0, 4));
        number("keeper 0 lock 5 5 eats 7 to #", 7, 23, x -> x.place(0, 4));
        number("keeper 0 lock 5 5 eats 23 to #", 23, 23, x -> x.place(0, 4));
        number("keeper 0 lock 5 5 has # worth 5", 0, 15, x -> x.thing(0, 0));
        number("keeper 0 lock 5 5 has 5 worth #", 1, 99, x -> x.thing(0, 1));
        number("keeper 0 lock 5 5 eats 3 to 4 takes has 5 worth #", 1, 99, x -> x.thing(0, 1));
        number("brother # lock 5 5 way 5 due 5", 0, 2, x -> x.brother(0, 0));
        number("brother 0 lock # 5 way 5 due 5", 0, 15, x -> x.brother(0, 1));
        number("brother 0 lock 5 # way 5 due 5", 0, 15, x -> x.brother(0, 2));
        number("brother 0 lock 5 5 way # due 5", 0, 99, x -> x.brother(0, 3));
        number("brother 0 lock 5 5 way 5 due #", 0, 999, x -> x.brother(0, 4));
        GlassHill x = Checks.told("place");
        Checks.wrongTale(x, "keeper 0 lock 5 5 eats 23 to 22", 29);
        Checks.wrongTale(x, "keeper 0 lock 5 5 eats 1 to 0", 28);
    }

    // "P: a PLACE that there is by then"
    private static void placesThereAreByThen() {
        String[] lines = {"thing 1 worth 1 at 0", "keeper 0 lock 1 1", "brother 0 lock 1 1 way 1 due 1"};
        int[] at = {19, 7, 8};
        for (int i = 0; i < lines.length; i++) {
            GlassHill x = new GlassHill();
            Checks.wrongTale(x, lines[i], at[i]);
            Checks.wrongTale(x, lines[i] + ";place", at[i]);
            Checks.rightTale(x, "place;" + lines[i]);
            Checks.wrongTale(x, lines[i].replace(" 0", " 1"), at[i]);
        }
        GlassHill x = new GlassHill();
        Checks.wrongTale(x, "road 0 1 long 1", 5);
        Checks.wrongTale(x, "place;road 0 1 long 1;place", 13);
        Checks.wrongTale(x, "place;road 1 0 long 1;place", 11);
        Checks.rightTale(x, "place;place;road 0 1 long 1");
        Checks.wrongTale(x, "road 1 2 long 1", 7);
        Checks.rightTale(x, Checks.times("place", 8));
        Checks.rightTale(x, "road 9 8 long 1;thing 1 worth 1 at 9;keeper 9 lock 1 1;brother 9 lock 1 1 way 1 due 1");
        Checks.wrongTale(x, "road 10 8 long 1", 5);
        Checks.wrongTale(x, "road 8 10 long 1", 7);
        Checks.wrongTale(x, "thing 1 worth 1 at 10", 19);
        Checks.wrongTale(x, "keeper 10 lock 1 1", 7);
        Checks.wrongTale(x, "brother 10 lock 1 1 way 1 due 1", 8);
    }

    // "the two of a road not the same: else the latter is wrong"
    private static void twoPlacesOfARoad() {
        GlassHill x = Checks.told("place;place");
        Checks.wrongTale(x, "road 0 0 long 1", 7);
        Checks.wrongTale(x, "road 1 1 long 1", 7);
        Checks.wrongTale(x, "road 1 01 long 1", 7);
        Checks.wrongTale(x, "road 1 1", 7);
        Checks.wrongTale(x, "road 1 1 lon", 7);
        Checks.rightTale(x, "road 0 1 long 1;road 1 0 long 1;road 0 1 long 1");
        Checks.wrongTale(Checks.told("place"), "road 0 0 long 1", 7);
    }

    // "one that has a KEEPER already gets none: wrong"
    private static void oneKeeperAPlace() {
        GlassHill x = Checks.told("place;place");
        Checks.wrongTale(x, "keeper 0 lock 1 1;keeper 0 lock 1 1", 25);
        Checks.rightTale(x, "keeper 0 lock 1 1;keeper 1 lock 1 1");
        Checks.wrongTale(x, "keeper 0 lock 1 1", 7);
        Checks.wrongTale(x, "keeper 1", 7);
        Checks.due("keepers", 2, x.count(4));
    }

    // "PLACES (at most 10, ...)"; "of a PLACE ... too many, the first word"
    private static void tenPlaces() {
        GlassHill x = new GlassHill();
        Checks.wrongTale(x, Checks.times("place", 11), 60);
        Checks.rightTale(x, Checks.times("place", 9));
        Checks.wrongTale(x, "place;place", 6);
        Checks.wrongTale(x, "place; place oh", 7);
        Checks.rightTale(x, "place");
        Checks.wrongTale(x, "place", 0);
        Checks.rightTale(x, "");
        Checks.due("places", 10, x.count(0));
        Checks.outOfBounds("place(10)", () -> x.place(10, 0));
        Checks.due("place(9)", 0, x.place(9, 0));
    }

    // "THINGS (at most 10, ...)"; "has: a THING more"; "of a ... THING ... too many, the first word (of has: that word)"
    private static void tenThings() {
        GlassHill x = Checks.told("place;place");
        Checks.wrongTale(x, Checks.times("thing 1 worth 1 at 0", 11), 210);
        Checks.rightTale(x, Checks.times("thing 1 worth 1 at 0", 9));
        Checks.wrongTale(x, "thing 1 worth 1 at 0;keeper 0 lock 1 1 has 1 worth 1", 39);
        Checks.wrongTale(x, "thing 1 worth 1 at 0;keeper 0 lock 1 1 eats 1 to 1 takes  has", 58);
        Checks.wrongTale(x, "keeper 0 lock 1 1 has 1 worth 1;keeper 1 lock 1 1 has 1 worth 1", 50);
        Checks.wrongTale(x, "keeper 0 lock 1 1 has 1 worth 1;thing 1 worth 1 at 0", 32);
        Checks.wrongTale(x, "keeper 0 lock 1 1 has 1 worth 1; thing 99", 33);
        Checks.rightTale(x, "keeper 0 lock 1 1 has 1 worth 1");
        Checks.wrongTale(x, "thing", 0);
        Checks.wrongTale(x, "keeper 1 lock 1 1 has", 18);
        Checks.rightTale(x, "keeper 1 lock 1 1");
        Checks.due("things", 10, x.count(1));
        Checks.outOfBounds("thing(10)", () -> x.thing(10, 0));
        Checks.due("the tenth is had at 0", 1, x.thing(9, 2));
        GlassHill y = Checks.told("place", Checks.times("thing 1 worth 1 at 0", 10));
        Checks.due("ten that lie", 1023, y.place(0, 8));
        Checks.wrongTale(y, " thing 1 worth 1 at 0", 1);
    }

    // "ROADS (at most 16, ...)"
    private static void sixteenRoads() {
        GlassHill x = Checks.told("place;place;" + Checks.times("road 0 1 long 1", 12));
        Checks.rightTale(x, Checks.times("road 1 0 long 1", 3));
        Checks.wrongTale(x, Checks.times("road 0 1 long 1", 2), 16);
        Checks.rightTale(x, "road 0 1 long 2 chance 3");
        Checks.wrongTale(x, "road 0 1 long 1", 0);
        Checks.wrongTale(x, "  road", 2);
        Checks.due("roads", 16, x.count(2));
        Checks.due("the last road", 3, x.road(15, 3));
        Checks.outOfBounds("road(16)", () -> x.road(16, 0));
    }

    // "BROTHERS (at most 7, ...)"
    private static void sevenBrothers() {
        GlassHill x = Checks.told("place");
        Checks.wrongTale(x, Checks.times("brother 0 lock 0 0 way 0 due 0", 8), 217);
        Checks.rightTale(x, Checks.times("brother 0 lock 0 0 way 0 due 0", 6));
        Checks.wrongTale(x, Checks.times("brother 0 lock 0 0 way 0 due 0", 2), 31);
        Checks.rightTale(x, "brother 0 lock 0 0 way 9 due 8");
        Checks.wrongTale(x, "brother 0 lock 0 0 way 0 due 0", 0);
        Checks.wrongTale(x, " brother 7", 1);
        Checks.due("brothers", 7, x.count(3));
        Checks.due("the last brother", 9, x.brother(6, 3));
        Checks.outOfBounds("brother(7)", () -> x.brother(7, 0));
    }

    // "LINE { ; LINE }, at most 14"; "of a LINE too many ... the first word"
    private static void fourteenLines() {
        String nine = Checks.times("place", 9) + ";";
        String four = Checks.times("thing 0 worth 1 at 0", 4);
        GlassHill x = new GlassHill();
        Checks.wrongTale(x, nine + four + ";road 0 1 long 1;road 0 1 long 1", 154);
        Checks.wrongTale(x, nine + four + ";road 0 1 long 1;  place", 156);
        Checks.wrongTale(x, nine + four + ";road 0 1 long 1;oh", 154);
        Checks.wrongTale(x, nine + four + ";road 0 1 long 1;", 154);
        Checks.wrongTale(x, nine + four + ";road 0 1 long 1;  ", 156);
        Checks.wrongTale(x, nine + four + ";road 0 1 long 1;;", 154);
        Checks.due("lines of a wrong text are none", 0, x.count(0));
        Checks.rightTale(x, nine + four + ";road 0 1 long 1");
        Checks.rightTale(x, nine.replace("place", "road 0 1 long 1") + four + ";place");
        Checks.due("places", 10, x.count(0));
        Checks.due("roads", 10, x.count(2));
        Checks.due("things", 8, x.count(1));
    }

    // "told in texts (at most 12, ...)"; tale: "UnsupportedOperationException: there are 12"
    private static void twelveTexts() {
        GlassHill x = new GlassHill();
        for (int text = 1; text < 12; text++) {
            Checks.due("text " + text, text, Checks.tale(x, ""));
        }
        Checks.wrongTale(x, "places", 0);
        Checks.due("a wrong text is none", 11, x.count(5));
        Checks.due("the 12th", 12, Checks.tale(x, "place"));
        Checks.tape(x, "");
        Checks.unsupported("the 13th, empty", x::tale);
        Checks.tape(x, "place");
        Checks.unsupported("the 13th", x::tale);
        Checks.due("its fault", -1, x.fault());
        Checks.due("its place is none", 1, x.count(0));
        Checks.due("texts", 12, x.count(5));
        Checks.wrongTale(x, "places", 0);
        Checks.due("a law is no tale", 1, Checks.law(x, "bar"));
    }

    // "one behind another"
    private static void linesBehindOneAnother() {
        GlassHill x = Checks.told("place;thing 1 worth 11 at 0;keeper 0 lock 1 1 has 2 worth 12",
            "place;thing 3 worth 13 at 1");
        int[] worth = {11, 12, 13};
        for (int t = 0; t < 3; t++) {
            Checks.due("things are numbered as they are told", worth[t], x.thing(t, 1));
        }
        Checks.due("texts", 2, x.count(5));
    }

    // "Words are as long as a to z go on"
    private static void wordsAreLong() {
        GlassHill x = Checks.told("place;place");
        Checks.wrongTale(x, "placethe", 0);
        Checks.wrongTale(x, "placez", 0);
        Checks.wrongTale(x, "placea", 0);
        Checks.wrongTale(x, "plac", 0);
        Checks.wrongTale(x, "pl ace", 0);
        Checks.wrongTale(x, "place{", 5);
        Checks.wrongTale(x, "place`", 5);
        Checks.wrongTale(x, "placeA", 5);
        Checks.wrongTale(x, "keeper 0 lock 1 1 takeshas 1 worth 1", 18);
        Checks.wrongTale(x, "keeper 0 lock 1 1 take has 1 worth 1", 18);
        Checks.wrongTale(x, "road 0 1 longchance 1", 9);
        Checks.wrongTale(x, "road 0 1 long 1 chances 1", 16);
        Checks.wrongLaw(x, "barif night", 0);
        Checks.wrongLaw(x, "bar ifnight", 4);
        Checks.wrongLaw(x, "bar if nightor night", 7);
        Checks.wrongLaw(x, "bar if notnight", 7);
        Checks.wrongLaw(x, "bar if hours < 1", 7);
        Checks.wrongLaw(x, "bar if hou < 1", 7);
    }

    // "between all there may be blanks (32), also ahead and behind"
    private static void blanksBetweenAll() {
        GlassHill x = Checks.told("place;place;place");
        Checks.rightTale(x, "   place   ;   thing   1   worth   1   at   0   ;   road   0   1   long   1   chance   1   ");
        Checks.rightTale(x, " keeper  0  lock  1  1  eats  0  to  0  takes  has  1  worth  1 ; brother  0  lock  0  0  way  0  due  0 ");
        Checks.rightTale(x, "keeper 1lock1 1eats0to0takes has1worth1;brother 0lock0 0way0due0;thing1worth1at0;road0 1long1chance1");
        Checks.rightLaw(x, "  bar  if  not  (  hour  +  1  <  road  +  2  and  night  or  day  >  1  )  ;  slow  1  if  night  ", 2);
        Checks.rightLaw(x, "bar if not(hour+1<road+2and night or day>1);slow1if night", 2);
        Checks.wrongTale(x, "thing 1 5 worth 1 at 0", 8);
        Checks.wrongLaw(x, "slow 0 1", 7);
    }

    // "blanks (32)"
    private static void otherSignsAreNoBlanks() {
        GlassHill x = Checks.told("place");
        char[] signs = {0, 9, 10, 11, 12, 13, 31, 33, 127, 128, 160, 255};
        for (char sign : signs) {
            Checks.wrongTale(x, sign + "place", 0);
            Checks.wrongTale(x, "place" + sign, 5);
            Checks.wrongTale(x, "thing" + sign + "1 worth 1 at 0", 5);
            Checks.wrongTale(x, "" + sign, 0);
            Checks.wrongLaw(x, "bar if" + sign + "night", 6);
            Checks.wrongLaw(x, "bar" + sign, 3);
        }
    }

    // "A text that is empty, or blanks alone, has no LINE"
    private static void emptyTexts() {
        GlassHill x = new GlassHill();
        Checks.rightTale(x, "");
        Checks.rightTale(x, " ");
        Checks.rightTale(x, " ".repeat(400));
        Checks.due("texts all the same", 3, x.count(5));
        Checks.due("no place", 0, x.count(0));
        Checks.rightLaw(x, "", 0);
        Checks.rightLaw(x, "bar", 1);
        Checks.rightLaw(x, " ".repeat(400), 0);
        Checks.wrongTale(x, ";", 0);
        Checks.wrongTale(x, " ; ", 1);
        Checks.wrongLaw(x, " ; ", 1);
    }

    /**
     * Cuts a right LINE ahead of each of its words and signs, told apart by blanks, and puts there what can
     * stand nowhere: a sign, a word, and a number or a mark where none may be.
     */
    private static void spoil(String line, boolean law) {
        String[] parts = line.split(" ");
        String ahead = "";
        for (int i = 0; i < parts.length; i++) {
            boolean number = Character.isDigit(parts[i].charAt(0));
            String[] spoilt = {"?", "oh", "Z", "=", number ? "(" : "0001", ")", "\u00ff"};
            for (String s : spoilt) {
                GlassHill x = Checks.told("place;place");
                String text = ahead + s + " 1 worth 1";
                if (law) {
                    Checks.wrongLaw(x, text, ahead.length());
                } else {
                    Checks.wrongTale(x, text, ahead.length());
                }
            }
            spoilLetters(line, ahead.length(), parts[i], law);
            ahead = ahead + parts[i] + " ";
        }
    }

    /** Each letter of a word in its turn is another one: no word has a q. */
    private static void spoilLetters(String line, int at, String word, boolean law) {
        for (int i = 0; i < word.length() && Character.isLetter(word.charAt(0)); i++) {
            GlassHill x = Checks.told("place;place");
            String text = line.substring(0, at + i) + "q" + line.substring(at + i + 1);
            if (law) {
                Checks.wrongLaw(x, text, at);
            } else {
                Checks.wrongTale(x, text, at);
            }
        }
    }

    // "The first wrong byte: the begin of the first thing that cannot stand there"
    private static void whatCannotStandInATale() {
        spoil("place ; place", false);
        spoil("thing 1 worth 1 at 0 ; thing", false);
        spoil("road 0 1 long 1 chance 1 ; road", false);
        spoil("keeper 0 lock 1 1 eats 0 to 0 takes has 1 worth 1 ; keeper", false);
        spoil("brother 0 lock 1 1 way 1 due 1 ; brother", false);
        GlassHill x = Checks.told("place;place");
        // What may be left out comes in this order alone, and once.
        Checks.wrongTale(x, "keeper 0 lock 1 1 takes eats 1 to 1", 24);
        Checks.wrongTale(x, "keeper 0 lock 1 1 takes takes", 24);
        Checks.wrongTale(x, "keeper 0 lock 1 1 has 1 worth 1 takes", 32);
        Checks.wrongTale(x, "keeper 0 lock 1 1 has 1 worth 1 has 1 worth 1", 32);
        Checks.wrongTale(x, "keeper 0 lock 1 1 eats 1 to 1 eats 2 to 2", 30);
        Checks.wrongTale(x, "keeper 0 lock 1 1 at 0", 18);
        Checks.wrongTale(x, "road 0 1 chance 1 long 1", 9);
        Checks.wrongTale(x, "bar", 0);
        Checks.wrongTale(x, "place,place", 5);
    }

    /** Of a right LINE all that ends ahead of one of its words or numbers, but for the ends told as whole. */
    private static void cut(String line, boolean law, String whole) {
        String[] parts = line.split(" ");
        String ahead = parts[0];
        for (int i = 1; i <= parts.length; i++) {
            GlassHill x = Checks.told("place;place");
            boolean right = whole.charAt(i - 1) == '1';
            for (String end : new String[] {"", " ", "   "}) {
                String text = ahead + end;
                if (right && law) {
                    Checks.rightLaw(x, text, 1);
                } else if (right) {
                    Checks.rightTale(Checks.told("place;place"), text);
                } else if (law) {
                    Checks.wrongLaw(x, text, text.length());
                } else {
                    Checks.wrongTale(x, text, text.length());
                }
            }
            ahead = i < parts.length ? ahead + " " + parts[i] : ahead;
        }
    }

    // "or the text's length, if more must come"
    private static void moreMustComeInATale() {
        cut("thing 1 worth 1 at 0", false, "000001");
        cut("road 0 1 long 1 chance 1", false, "0000101");
        cut("keeper 0 lock 1 1 eats 0 to 0 takes has 1 worth 1", false, "0000100011" + "0001");
        cut("brother 0 lock 1 1 way 1 due 1", false, "000000001");
        GlassHill x = new GlassHill();
        Checks.wrongTale(x, "place;", 6);
        Checks.wrongTale(x, "place;  ", 8);
        Checks.rightTale(x, "place  ");
    }

    // "Of a wrong text nothing stays"
    private static void nothingStaysOfAWrongTale() {
        GlassHill x = Checks.told("place;place;thing 1 worth 1 at 0;road 0 1 long 1;keeper 1 lock 1 1 has 2 worth 2;brother 1 lock 1 1 way 1 due 1");
        Checks.law(x, "slow 1");
        x.take(0);
        x.go(0);
        x.pay(0);
        x.free(0);
        String ahead = Checks.all(x);
        Checks.wrongTale(x, "place;thing 3 worth 3 at 2;road 2 0 long 1;keeper 0 lock 2 2 eats 0 to 5 takes has 3 worth 3;"
            + "brother 2 lock 0 0 way 0 due 0;place;x", 130);
        Checks.same("behind a wrong tale", ahead, x);
        Checks.wrongTale(x, "place;", 6);
        Checks.same("behind a tale that is too short", ahead, x);
    }

    // THE LAW: "LINE { ; LINE }, at most 12"
    private static void twelveLinesOfALaw() {
        GlassHill x = new GlassHill();
        Checks.rightLaw(x, "bar", 1);
        Checks.rightLaw(x, Checks.times("slow 1 if night", 12), 12);
        Checks.wrongLaw(x, Checks.times("slow 1 if night", 13), 192);
        Checks.wrongLaw(x, Checks.times("bar", 12) + ";   slow", 51);
        Checks.wrongLaw(x, Checks.times("bar", 12) + "; oh", 49);
        Checks.wrongLaw(x, Checks.times("bar", 12) + "; ", 49);
        Checks.wrongLaw(x, Checks.times("bar", 12) + ";;", 48);
        Checks.due("lines", 12, x.count(6));
        Checks.rightLaw(x, Checks.times("bar", 11), 11);
    }

    // "All numbers are of 1 to 3 digits (N of slow 0 to 9)"
    private static void numbersOfALaw() {
        GlassHill x = Checks.told("place;place;road 0 1 long 1");
        for (String n : new String[] {"0", "9", "00", "09", "000", "009"}) {
            Checks.rightLaw(x, "slow " + n, 1);
            Checks.due("slow " + n, 1 + Integer.parseInt(n), x.rule(0, 1));
        }
        for (String n : new String[] {"10", "010", "0000", "0009", "99", "999", "1000", "-1"}) {
            Checks.wrongLaw(x, "slow " + n, 5);
        }
        for (String n : new String[] {"0", "999", "000", "7", "07", "007"}) {
            Checks.rightLaw(x, "bar if " + n + " < 1", 1);
            Checks.due(n + " < 1", Integer.parseInt(n) < 1 ? 1 : 0, x.rule(0, 0));
            Checks.rightLaw(x, "bar if 998 < " + n, 1);
            Checks.due("998 < " + n, 998 < Integer.parseInt(n) ? 1 : 0, x.rule(0, 0));
        }
        for (String n : new String[] {"1000", "0000", "0007", "4294967297", "-1"}) {
            Checks.wrongLaw(x, "bar if " + n + " < 1", 7);
            Checks.wrongLaw(x, "bar if 1 > " + n, 11);
            Checks.wrongLaw(x, "bar if 1 + " + n + " > 1", 11);
        }
    }

    // "( and not within one another at most 6 deep"; "the ( or not that is a 7th one deep"
    private static void sixDeep() {
        GlassHill x = Checks.told("place;place;road 0 1 long 1");
        String[] marks = {"(", "not "};
        for (int kinds = 0; kinds < 128; kinds++) {
            String text = "bar if ";
            String close = "";
            int at = 0;
            for (int deep = 0; deep < 7; deep++) {
                at = text.length();
                text += marks[kinds >> deep & 1];
                close += (kinds >> deep & 1) == 0 ? ")" : "";
            }
            Checks.wrongLaw(x, text + "night" + close, at);
            Checks.rightLaw(x, text.substring(0, at) + "night" + close.substring(0, 6 - Integer.bitCount(kinds & 63)), 1);
        }
        // One beside another is no deeper, and a LINE begins anew.
        Checks.rightLaw(x, "bar if " + "(((((night))))) and ".repeat(3) + "((((((night))))))", 1);
        Checks.rightLaw(x, "bar if ((((((night)and(night))or not night)and not night))and(((((night))))))", 1);
        Checks.rightLaw(x, "bar if not not not not not not night;bar if not not not not not not night", 2);
        Checks.wrongLaw(x, "bar if ((((((night and not night))))))", 23);
        Checks.wrongLaw(x, "bar if ((((((night or (night)))))))", 22);
        Checks.wrongLaw(x, "bar if night and (((((((", 23);
        // What is deep enough still holds as it should.
        Checks.law(x, "bar if not(not(not(1<2)))");
        Checks.due("not, three times", 0, x.rule(0, 0));
        Checks.law(x, "bar if not not not not not not 1<2");
        Checks.due("not, six times", 1, x.rule(0, 0));
        Checks.law(x, "bar if 2<1 or(1<2 and(2<1 or(1<2 and(2<1 or(1<2 and 0<0+0+1)))))");
        Checks.due("brackets, each behind what is kept open", 1, x.rule(0, 0));
    }

    private static void whatCannotStandInALaw() {
        spoil("bar ; bar", true);
        spoil("slow 1 ; slow", true);
        String[] parts = {"road", "from", "to", "hour", "day", "carried", "worth"};
        for (String part : parts) {
            spoilLetters("bar if " + part + " < 1", 7, part, true);
        }
        String joined = "bar if not night and 1 < 2 or night";
        for (String word : new String[] {"if", "not", "night", "and", "or"}) {
            spoilLetters(joined, joined.indexOf(word), word, true);
        }
        GlassHill x = new GlassHill();
        Checks.wrongLaw(x, "place", 0);
        Checks.wrongLaw(x, "if night", 0);
        Checks.wrongLaw(x, "bar if if night", 7);
        Checks.wrongLaw(x, "bar if and night", 7);
        Checks.wrongLaw(x, "bar if < 3", 7);
        Checks.wrongLaw(x, "bar if + 3 < 3", 7);
        Checks.wrongLaw(x, "bar if 3 + + 3 < 3", 11);
        Checks.wrongLaw(x, "bar if 3 < > 3", 11);
        Checks.wrongLaw(x, "bar if 3 3", 9);
        Checks.wrongLaw(x, "bar if hour day", 12);
        Checks.wrongLaw(x, "bar if 3 << 3", 10);
        Checks.wrongLaw(x, "bar if 3 < 3 + night", 15);
        Checks.wrongLaw(x, "bar if 3 < not 3", 11);
        Checks.wrongLaw(x, "bar if 3 < (3)", 11);
        Checks.wrongLaw(x, "bar if (3 < 3", 13);
        Checks.wrongLaw(x, "bar if (3 < 3;", 13);
        Checks.wrongLaw(x, "bar if 3 < 3)", 12);
        Checks.wrongLaw(x, "bar if (3 < 3))", 14);
        Checks.wrongLaw(x, "bar if (3 + 3) < 3", 13);
        Checks.wrongLaw(x, "bar if night not night", 13);
        Checks.wrongLaw(x, "bar if night and or night", 17);
        Checks.wrongLaw(x, "bar if long < 3", 7);
        Checks.wrongLaw(x, "bar if 3 < 3 if night", 13);
        Checks.wrongLaw(x, "slow 3 4", 7);
        Checks.wrongLaw(x, "slow", 4);
        Checks.wrongLaw(x, "slow;bar", 4);
    }

    private static void moreMustComeInALaw() {
        cut("bar if not ( hour + 1 < road + 2 and night or day > 1 )", true, "1" + "0".repeat(16) + "1");
        cut("slow 1 if night and carried > worth or from < to", true, "010100010001");
        GlassHill x = new GlassHill();
        Checks.wrongLaw(x, "bar;", 4);
        Checks.wrongLaw(x, "bar;  ", 6);
        Checks.rightLaw(x, "bar  ", 1);
    }

    // "(a text, in place of the one before)"; "Of a wrong text nothing stays"
    private static void nothingStaysOfAWrongLaw() {
        GlassHill x = Checks.told("place;place;road 0 1 long 1");
        Checks.wrongLaw(x, "bar;slow 4;", 11);
        Checks.due("no law yet", -1, x.count(6));
        Checks.due("nor does it hold", 1, x.rule(0, 1));
        Checks.law(x, "slow 4;slow 3");
        Checks.wrongLaw(x, "bar;bar;bar;oh", 12);
        Checks.due("the law before", 2, x.count(6));
        Checks.due("not barred", 0, x.rule(0, 0));
        Checks.due("as slow as before", 8, x.rule(0, 1));
        Checks.law(x, "slow 2");
        Checks.due("in place of it, not behind it", 3, x.rule(0, 1));
        Checks.due("lines", 1, x.count(6));
        Checks.law(x, "");
        Checks.due("one without a line", 1, x.rule(0, 1));
        Checks.due("lines", 0, x.count(6));
    }

    // "Uses the TAPE up"; "a call that throws changes nothing but the TAPE, where it is used up"
    private static void tapeIsUsedUp() {
        GlassHill x = new GlassHill();
        Checks.tale(x, "place");
        Checks.due("by a tale", false, x.end(1));
        Checks.wrongTale(x, "places", 0);
        x.end(0);
        Checks.law(x, "bar");
        Checks.due("by a law", false, x.end(1));
        Checks.tape(x, "bars");
        Checks.illegalArgument("a wrong law", x::law);
        Checks.due("by a wrong law", false, x.end(1));
        for (int text = 1; text < 12; text++) {
            Checks.tale(x, "");
        }
        Checks.tape(x, "place");
        Checks.unsupported("a 13th text", x::tale);
        Checks.due("by a 13th text", false, x.end(1));
        Checks.tape(x, "places");
        Checks.illegalArgument("a wrong 13th text", x::tale);
        Checks.due("by a wrong 13th text", false, x.end(1));
    }

    // fault: "The first wrong byte of the latest text that was read; NONE without one, and ahead of any";
    // "and fault(), where a text is read (also by one that is refused)"
    private static void faultOfTheLatestText() {
        GlassHill x = new GlassHill();
        Checks.due("ahead of any", -1, x.fault());
        Checks.wrongTale(x, "oh", 0);
        x.end(0);
        Checks.wrongLaw(x, "bar;oh", 4);
        Checks.wrongTale(x, "place;", 6);
        Checks.rightLaw(x, "bar", 1);
        Checks.wrongLaw(x, "slow oh", 5);
        Checks.rightTale(x, "place");
        Checks.wrongTale(x, "place,", 5);
        x.end(0);
        Checks.tape(x, 3);
        Checks.illegalArgument("plates", () -> x.plates(-1));
        Checks.tape(x, 3);
        Checks.illegalArgument("locks", () -> x.locks(false));
        Checks.due("these are no texts", 5, x.fault());
        x.image();
        Checks.rightTale(x, "");
        x.back();
        Checks.due("going back does not change it", -1, x.fault());
        for (int text = 1; text < 12; text++) {
            Checks.tale(x, "");
        }
        Checks.wrongLaw(x, "bar bar", 4);
        Checks.tape(x, "place");
        Checks.unsupported("a 13th text that is right", x::tale);
        Checks.due("read all the same", -1, x.fault());
        Checks.wrongTale(x, "place;place;oh", 12);
    }
}
